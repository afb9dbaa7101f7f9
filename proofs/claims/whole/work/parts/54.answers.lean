/-! answers of one setting: class and model -/
theorem line_bit {a b : Nat} : ∀ (n : Nat), (∀ i, i < n → a + i * b < 32) → ∀ p, (tb (lineF (nI a) (nI b) n) p = true ↔ ∃ i, i < n ∧ p = a + i * b)
  | 0, _, p => by rw [lineF, tb_0]; exact ⟨fun h => (by cases h), fun ⟨i, h, _⟩ => absurd h (Nat.not_lt_zero i)⟩
  | n + 1, h, p => by
    rw [lineF, tb_or, pk_mul, nI_add, tb_bit _ (h n (by omega)), Bool.or_eq_true, decide_eq_true_iff, line_bit n (fun i hi => h i (by omega)) p]
    constructor
    · rintro (⟨i, i1, i2⟩ | e)
      · exact ⟨i, by omega, i2⟩
      · exact ⟨n, by omega, e⟩
    · rintro ⟨i, i1, i2⟩
      by_cases e : i = n
      · subst e; exact Or.inr i2
      · exact Or.inl ⟨i, by omega, i2⟩
theorem ne0_iff {x : Int32} : ¬ x = 0 ↔ ∃ p, tb x p = true := by
  constructor
  · intro h
    refine Classical.byContradiction (fun hn => h ?_)
    refine tb_ext (fun i _ => ?_)
    rw [tb_0]
    cases hz : tb x i with
    | false => rfl
    | true => exact absurd ⟨i, hz⟩ hn
  · rintro ⟨p, hp⟩ rfl
    rw [tb_0] at hp; cases hp
def ntY (y : Int32) : Int32 :=
  if 0 < y then
    let n1 : Int32 := if y ≤ 65536 then 1 else 1 + 16
    let y1 := if y ≤ 65536 then y else ush y 16
    let n2 := if y1 ≤ 256 then n1 else n1 + 8
    let y2 := if y1 ≤ 256 then y1 else ush y1 8
    let n3 := if y2 ≤ 16 then n2 else n2 + 4
    let y3 := if y2 ≤ 16 then y2 else ush y2 4
    let n4 := if y3 ≤ 4 then n3 else n3 + 2
    let y4 := if y3 ≤ 4 then y3 else ush y3 2
    n4 + ush y4 1
  else y &&& 32
theorem nt_Y (x : Int32) : ntJ x = ntY ((x ^^^ (-1)) &&& (x - 1)) := rfl
theorem ntY_p : ∀ q : Fin 25, ntY (nI (2 ^ q.val - 1)) = nI q.val := by decide +kernel
theorem nt_min {x : Int32} {q : Nat} (hq : q < 25) (h1 : tb x q = true) (h2 : ∀ i, i < q → tb x i = false) : ntJ x = nI q := by
  obtain ⟨n, hn, rfl⟩ := nI_all x
  rw [tb_nI hn] at h1
  have h2' : ∀ i, i < q → n.testBit i = false := fun i hi => by rw [← tb_nI hn]; exact h2 i hi
  have hm : n % 2 ^ (q + 1) = 2 ^ q := by
    refine Nat.eq_of_testBit_eq (fun i => ?_)
    rw [Nat.testBit_mod_two_pow, Nat.testBit_two_pow]
    by_cases e : i = q
    · subst e; simp [h1]
    · by_cases l : i < q
      · rw [h2' i l, decide_eq_false (show ¬ q = i by omega), Bool.and_false]
      · rw [decide_eq_false (show ¬ i < q + 1 by omega), decide_eq_false (show ¬ q = i by omega)]; rfl
  have hd : n = 2 ^ (q + 1) * (n / 2 ^ (q + 1)) + 2 ^ q := by
    have := Nat.div_add_mod n (2 ^ (q + 1))
    rw [hm] at this; exact this.symm
  have hp : 1 ≤ 2 ^ q := Nat.one_le_two_pow
  have hlt : 2 ^ q < 2 ^ (q + 1) := by rw [Nat.pow_succ]; omega
  have hd1 : n - 1 = 2 ^ (q + 1) * (n / 2 ^ (q + 1)) + (2 ^ q - 1) := by omega
  have hn1 : 1 ≤ n := by omega
  rw [nt_Y, nI_sub1 hn1]
  have : (nI n ^^^ (-1)) &&& nI (n - 1) = nI (2 ^ q - 1) := by
    refine tb_ext (fun i hi => ?_)
    rw [tb_and, tb_xor, tb_m1 i hi, tb_nI hn, tb_nI (by omega), tb_nI (Nat.lt_of_le_of_lt (Nat.sub_le _ _) (Nat.pow_lt_pow_right (by decide) (by omega))), Nat.testBit_two_pow_sub_one, hd1]
    conv => lhs; lhs; lhs; rw [hd]
    rw [Nat.testBit_two_pow_mul_add _ hlt, Nat.testBit_two_pow_mul_add _ (by omega), Nat.testBit_two_pow_sub_one, Nat.testBit_two_pow]
    by_cases l : i < q + 1
    · rw [if_pos l, if_pos l]
      by_cases e : i = q
      · subst e; simp
      · have : i < q := by omega
        simp [this]; omega
    · rw [if_neg l, if_neg l, decide_eq_false (show ¬ i < q by omega)]
      cases (n / 2 ^ (q + 1)).testBit (i - (q + 1)) <;> rfl
  rw [this]
  exact ntY_p ⟨q, hq⟩
section ANS
variable {R C : Nat} {op : Bool} {kinds elders : Nat → Int32} {se : Int32} {on : Int64}
abbrev haG (R C : Nat) (op : Bool) (on : Int64) (x : Nat) : Int32 := haF (nI C) (ceG R C op on) (riG R C op on) (dnG R C op on) (nI x)
theorem GD.cr0 (h : GD R C op kinds elders se on) : crF R C (ceG R C op on) (riG R C op on) (dnG R C op on) 0 = thr0 R C (hM R C op kinds elders se) := by
  have hP := pl_M h.hR h.hC
  have hR := h.hR
  have hC := h.hC
  rw [Bool.eq_iff_iff, crF, if_pos rfl, decide_eq_true_iff, ne0_iff, thr0, an_iff]
  have b1 : ∀ i, i < R → 0 + i * C < 32 := fun i hi => by have := mulC_lt (C := C) hi hC.1; omega
  have b2 : ∀ i, i < R → (C - 1) + i * C < 32 := fun i hi => by have := mulC_lt2 (C := C) hi hC.1; omega
  have e0 : lineF 0 (nI C) R = lineF (nI 0) (nI C) R := rfl
  have e1 : lineF (nI C - 1) (nI C) R = lineF (nI (C - 1)) (nI C) R := by rw [nI_sub1 hC.1]
  rw [e0, e1]
  constructor
  · rintro ⟨p, hp⟩
    rw [tb_and, Bool.and_eq_true, h.sp, line_bit R b2] at hp
    obtain ⟨⟨a, a1, a2, a3⟩, j, j1, j2⟩ := hp
    obtain ⟨i, i1, i2⟩ := (line_bit R b1 a).mp a1
    refine ⟨i, i1, an_iff.mpr ⟨j, j1, ?_⟩⟩
    rw [eq_iff hR hC (mulC_lt i1 hC.1) (mulC_lt2 j1 hC.1)]
    rw [Nat.zero_add] at i2
    rw [← i2, show j * C + C - 1 = p by omega]
    exact ⟨a2, a3⟩
  · rintro ⟨i, i1, hi⟩
    obtain ⟨j, j1, hj⟩ := an_iff.mp hi
    rw [eq_iff hR hC (mulC_lt i1 hC.1) (mulC_lt2 j1 hC.1)] at hj
    refine ⟨j * C + C - 1, ?_⟩
    rw [tb_and, Bool.and_eq_true, h.sp, line_bit R b2]
    exact ⟨⟨i * C, (line_bit R b1 _).mpr ⟨i, i1, by omega⟩, hj.1, hj.2⟩, j, j1, by omega⟩
theorem GD.cr1 (h : GD R C op kinds elders se on) : crF R C (ceG R C op on) (riG R C op on) (dnG R C op on) 1 = thr1 R C (hM R C op kinds elders se) := by
  have hP := pl_M h.hR h.hC
  have hR := h.hR
  have hC := h.hC
  rw [Bool.eq_iff_iff, crF, if_neg (by decide), decide_eq_true_iff, ne0_iff, thr1, an_iff]
  have b1 : ∀ i, i < C → 0 + i * 1 < 32 := fun i hi => by omega
  have b2 : ∀ i, i < C → (R - 1) * C + i * 1 < 32 := fun i hi => by have := mulC_lt3 (R := R) hR.1 hi; omega
  have e0 : lineF 0 1 C = lineF (nI 0) (nI 1) C := rfl
  have e1 : lineF ((nI R - 1) * nI C) 1 C = lineF (nI ((R - 1) * C)) (nI 1) C := by rw [nI_sub1 hR.1, pk_mul]; rfl
  rw [e0, e1]
  constructor
  · rintro ⟨p, hp⟩
    rw [tb_and, Bool.and_eq_true, h.sp, line_bit C b2] at hp
    obtain ⟨⟨a, a1, a2, a3⟩, j, j1, j2⟩ := hp
    obtain ⟨i, i1, i2⟩ := (line_bit C b1 a).mp a1
    refine ⟨i, i1, an_iff.mpr ⟨j, j1, ?_⟩⟩
    rw [eq_iff hR hC (mulC_lt4 hR.1 i1) (mulC_lt3 hR.1 j1)]
    rw [Nat.zero_add, Nat.mul_one] at i2
    rw [← i2, show (R - 1) * C + j = p by omega]
    exact ⟨a2, a3⟩
  · rintro ⟨i, i1, hi⟩
    obtain ⟨j, j1, hj⟩ := an_iff.mp hi
    rw [eq_iff hR hC (mulC_lt4 hR.1 i1) (mulC_lt3 hR.1 j1)] at hj
    refine ⟨(R - 1) * C + j, ?_⟩
    rw [tb_and, Bool.and_eq_true, h.sp, line_bit C b2]
    exact ⟨⟨i, (line_bit C b1 _).mpr ⟨i, i1, by omega⟩, hj.1, hj.2⟩, j, j1, by omega⟩
/-- the least place of a heap -/
theorem hM_min (hR : 1 ≤ R ∧ R ≤ 5) (hC : 1 ≤ C ∧ C ≤ 5) {x q z : Nat} (ho : opn R C op kinds elders se x) (hq : hM R C op kinds elders se x = nI q) (hq25 : q < 25) (hz : Cn (emG R C op kinds elders se) x z) : q ≤ z := by
  have hP := pl_M hR hC
  have oz := cn_opn hR hC hz ho
  obtain ⟨q', q1, q2, -⟩ := (hM_c hR hC oz.1).2 oz
  have e := (hM_e hR hC ho oz).mpr hz
  have hz1 := oz.1
  rw [hq, q2, nI_eq (by omega) (by omega)] at e
  omega
theorem GD.heap (h : GD R C op kinds elders se on) {x : Nat} (hx : x < R * C) : heV (haG R C op on x) = hM R C op kinds elders se x := by
  have hP := pl_M h.hR h.hC
  by_cases o : opn R C op kinds elders se x
  · obtain ⟨q, q1, q2, q3, q4⟩ := (hM_c h.hR h.hC hx).2 o
    have hb : tb (haG R C op on x) q = true := (h.ha (by omega) q).mpr ⟨o, q4⟩
    rw [heV, if_neg (ne0_iff.mpr ⟨q, hb⟩), q2]
    refine nt_min (by omega) hb (fun i hi => ?_)
    cases hz : tb (haG R C op on x) i with
    | false => rfl
    | true =>
      have := ((h.ha (by omega) i).mp hz).2
      have := hM_min h.hR h.hC o q2 (by omega) this
      omega
  · rw [heV, if_pos (Classical.byContradiction (fun z => by obtain ⟨p, hp⟩ := ne0_iff.mp z; exact o ((h.ha (by omega) p).mp hp).1)), (hM_c h.hR h.hC hx).1.mpr o]
theorem GD.hc (h : GD R C op kinds elders se on) : ∀ i, i ≤ 25 → (∀ p, tb (hcF (nI C) (ceG R C op on) (riG R C op on) (dnG R C op on) i).1 p = true ↔ opn R C op kinds elders se p ∧ ∀ z, z < i → opn R C op kinds elders se z → ¬ Cn (emG R C op kinds elders se) z p) ∧ (hcF (nI C) (ceG R C op on) (riG R C op on) (dnG R C op on) i).2 = cnI (hcQ (hM R C op kinds elders se)) (if i < R * C then i else R * C)
  | 0, _ => by
    have : 0 < R * C := Nat.mul_pos (by have := h.hR; omega) (by have := h.hC; omega)
    rw [if_pos this]
    refine ⟨fun p => ?_, rfl⟩
    rw [show (hcF (nI C) (ceG R C op on) (riG R C op on) (dnG R C op on) 0).1 = ceG R C op on from rfl, h.ce]
    exact ⟨fun q => ⟨q, fun z hz => absurd hz (Nat.not_lt_zero z)⟩, fun q => q.1⟩
  | i + 1, hi => by
    obtain ⟨i1, i2⟩ := h.hc i (by omega)
    have hP := pl_M h.hR h.hC
    have hR := h.hR
    have hC := h.hC
    have hb : hasB (hcF (nI C) (ceG R C op on) (riG R C op on) (dnG R C op on) i).1 (nI i) = tb (hcF (nI C) (ceG R C op on) (riG R C op on) (dnG R C op on) i).1 i := has_tb _ (by omega)
    cases hz : tb (hcF (nI C) (ceG R C op on) (riG R C op on) (dnG R C op on) i).1 i with
    | true =>
      obtain ⟨o, hno⟩ := (i1 i).mp hz
      have hlt := o.1
      rw [hc_y (hb.trans hz), if_pos hlt] at *
      have hroot : hcQ (hM R C op kinds elders se) i = true := by
        obtain ⟨q, q1, q2, q3, q4⟩ := (hM_c hR hC hlt).2 o
        unfold hcQ
        rw [decide_eq_true_iff, q2]
        rcases Nat.lt_or_ge q i with l | l
        · exact absurd q4.symm (hno q l q3)
        · rw [show q = i by omega]
      refine ⟨fun p => ?_, ?_⟩
      · show tb ((hcF (nI C) (ceG R C op on) (riG R C op on) (dnG R C op on) i).1 &&& (haG R C op on i ^^^ (-1))) p = true ↔ _
        rw [tb_and, Bool.and_eq_true, i1]
        constructor
        · rintro ⟨⟨a, b⟩, c⟩
          refine ⟨a, fun z hz hoz => ?_⟩
          by_cases e : z = i
          · subst e
            intro hcn
            have ha : tb (haG R C op on z) p = true := (h.ha (by omega) p).mpr ⟨hoz, hcn⟩
            rw [tb_xor, ha] at c
            have hp := a.1
            rw [tb_m1 p (by omega)] at c
            cases c
          · exact b z (by omega) hoz
        · rintro ⟨a, b⟩
          refine ⟨⟨a, fun z hz => b z (by omega)⟩, ?_⟩
          have hp := a.1
          have ha : tb (haG R C op on i) p = false := by
            cases hq : tb (haG R C op on i) p with
            | false => rfl
            | true => exact absurd ((h.ha (by omega) p).mp hq).2 (b i (by omega) o)
          rw [tb_xor, ha, tb_m1 p (by omega)]; rfl
      · show (hcF (nI C) (ceG R C op on) (riG R C op on) (dnG R C op on) i).2 + 1 = _
        rw [i2, cn_y hroot]
        rcases Nat.lt_or_ge (i + 1) (R * C) with l | l
        · rw [if_pos l]
        · rw [if_neg (by omega), show R * C = i + 1 by omega]
    | false =>
      rw [hc_n (hb.trans hz)]
      have hno : ¬ (opn R C op kinds elders se i ∧ ∀ z, z < i → opn R C op kinds elders se z → ¬ Cn (emG R C op kinds elders se) z i) := fun q => by rw [(i1 i).mpr q] at hz; cases hz
      refine ⟨fun p => ?_, ?_⟩
      · rw [i1]
        constructor
        · rintro ⟨a, b⟩
          refine ⟨a, fun z hz hoz hcn => ?_⟩
          by_cases e : z = i
          · subst e
            refine hno ⟨hoz, fun z' hz' hoz' hcn' => b z' hz' hoz' (hcn'.trans hcn)⟩
          · exact b z (by omega) hoz hcn
        · rintro ⟨a, b⟩; exact ⟨a, fun z hz => b z (by omega)⟩
      · rw [i2]
        rcases Nat.lt_or_ge i (R * C) with l | l
        · rw [if_pos l]
          have hroot : hcQ (hM R C op kinds elders se) i = false := by
            unfold hcQ
            rw [decide_eq_false_iff_not]
            intro he
            have o : opn R C op kinds elders se i := Classical.byContradiction (fun z => by
              have := (hM_c hR hC l).1.mpr z
              rw [he] at this; exact nI_n9 (by omega) this)
            refine hno ⟨o, fun z hz hoz hcn => ?_⟩
            have := hM_min hR hC o he (by omega) hcn.symm
            omega
          rw [cn_n hroot]
          rcases Nat.lt_or_ge (i + 1) (R * C) with l2 | l2
          · rw [if_pos l2]
          · rw [if_neg (by omega), show R * C = i + 1 by omega]
        · rw [if_neg (by omega), if_neg (by omega)]
theorem GD.hcO (h : GD R C op kinds elders se on) : hcO C op (coF C C R) (coF C (C - 1) R) (coF C C (R - 1)) on = cnI (hcQ (hM R C op kinds elders se)) (R * C) := by
  have hP := pl_M h.hR h.hC
  have := (h.hc 25 (Nat.le_refl _)).2
  rw [if_neg (by omega)] at this
  exact this
end ANS
