/-! sizes of heaps -/
section SIZ
variable {R C : Nat} {op : Bool} {kinds elders : Nat → Int32} {se : Int32} {on : Int64}
theorem cB_zero {b : Nat → Bool} : ∀ n, (∀ i, i < n → b i = false) → cB b n = 0
  | 0, _ => rfl
  | n + 1, h => by rw [cB, h n (by omega), if_neg (by decide), cB_zero n (fun i hi => h i (by omega))]
theorem sz_ha (h : GD R C op kinds elders se on) {x p : Nat} (hx : x < R * C) (hp : p < R * C) : tb (haG R C op on x) p = szQ (hM R C op kinds elders se) (hM R C op kinds elders se x) p := by
  have hP := pl_M h.hR h.hC
  rw [Bool.eq_iff_iff, h.ha (by omega), ← eq_iff h.hR h.hC hx hp]
  unfold eqH szQ
  rw [decide_eq_true_iff, decide_eq_true_iff]
  exact ⟨fun q => ⟨q.1, q.2.symm⟩, fun q => ⟨q.1, q.2.symm⟩⟩
theorem GD.size (h : GD R C op kinds elders se on) {x : Nat} (hx : x < R * C) : bcJ (haG R C op on x) = szN (hM R C op kinds elders se) (R * C) (hM R C op kinds elders se x) := by
  have hP := pl_M h.hR h.hC
  rw [bcJ_all, szN, cn_cB, show (32 : Nat) = R * C + (32 - R * C) by omega, cB_add, cB_zero (32 - R * C) (fun i hi => ?_), Nat.add_zero]
  · congr 1
    exact cB_cong _ (fun p hp => sz_ha h hx hp)
  · cases hz : tb (haG R C op on x) (R * C + i) with
    | false => rfl
    | true =>
      obtain ⟨o, hc⟩ := (h.ha (by omega) _).mp hz
      have := (cn_opn h.hR h.hC hc o).1
      omega
theorem GD.gh (h : GD R C op kinds elders se on) : ∀ i, i ≤ R * C → ghF (nI C) (ceG R C op on) (riG R C op on) (dnG R C op on) i = msN (hM R C op kinds elders se) (R * C) i
  | 0, _ => rfl
  | i + 1, hi => by
    have e := h.size (x := i) (by omega)
    rw [ghF, msN, h.gh i (by omega), show haF (nI C) (ceG R C op on) (riG R C op on) (dnG R C op on) (nI i) = haG R C op on i from rfl, e]
    by_cases q : szN (hM R C op kinds elders se) (R * C) (hM R C op kinds elders se i) ≤ msN (hM R C op kinds elders se) (R * C) i
    · rw [if_pos q, if_neg (Int32.not_lt.mpr q)]
    · rw [if_neg q, if_pos (Int32.not_le.mp q)]
theorem ms_nI (hf : Nat → Int32) (P : Nat) : ∀ i, ∃ n, n ≤ P ∧ msN hf P i = nI n
  | 0 => ⟨0, Nat.zero_le _, rfl⟩
  | i + 1 => by
    rw [msN]
    split
    · exact ms_nI hf P i
    · exact ⟨_, cB_le _ P, cn_cB _ _⟩
theorem GD.gh25 (h : GD R C op kinds elders se on) : ∀ i, R * C + i ≤ 25 → ghF (nI C) (ceG R C op on) (riG R C op on) (dnG R C op on) (R * C + i) = msN (hM R C op kinds elders se) (R * C) (R * C)
  | 0, _ => h.gh _ (Nat.le_refl _)
  | i + 1, hi => by
    have hP := pl_M h.hR h.hC
    have hz : haF (nI C) (ceG R C op on) (riG R C op on) (dnG R C op on) (nI (R * C + i)) = 0 := by
      refine Classical.byContradiction (fun z => ?_)
      obtain ⟨p, hp⟩ := ne0_iff.mp z
      have := ((h.ha (show R * C + i < 32 by omega) p).mp hp).1.1
      omega
    rw [← Nat.add_assoc, ghF, hz, h.gh25 i (by omega), show bcJ 0 = 0 by decide]
    obtain ⟨n, hn, e⟩ := ms_nI (hM R C op kinds elders se) (R * C) (R * C)
    rw [e, if_neg (nI_pos (by omega))]
theorem GD.ghO (h : GD R C op kinds elders se on) : ghO C op (coF C C R) (coF C (C - 1) R) (coF C C (R - 1)) on = msN (hM R C op kinds elders se) (R * C) (R * C) := by
  have hP := pl_M h.hR h.hC
  have := h.gh25 (25 - R * C) (by omega)
  rw [show R * C + (25 - R * C) = 25 by omega] at this
  exact this
theorem GD.join (h : GD R C op kinds elders se on) {a b : Nat} (ha : a < R * C) (hb : b < R * C) : hasB (haG R C op on a) (nI b) = eqH (hM R C op kinds elders se) a b := by
  have hP := pl_M h.hR h.hC
  rw [has_tb _ (by omega), Bool.eq_iff_iff, h.ha (by omega), eq_iff h.hR h.hC ha hb]
end SIZ
/-! walls -/
theorem dm {a b C : Nat} (h : b < C) : (a * C + b) / C = a ∧ (a * C + b) % C = b := by
  constructor
  · rw [Nat.add_comm, Nat.add_mul_div_right _ _ (by omega), Nat.div_eq_of_lt h, Nat.zero_add]
  · rw [Nat.add_comm, Nat.add_mul_mod_self_right, Nat.mod_eq_of_lt h]
theorem ij_lt {H G r c : Nat} (hr : r < H) (hc : c < G) : r * G + c < H * G := by
  have : (r + 1) * G ≤ H * G := Nat.mul_le_mul_right G hr
  rw [Nat.add_mul, Nat.one_mul] at this; omega
section WLS
variable {H G : Nat} {sr sd : Int32}
theorem lbDc_bit (hH : H ≤ 5) (hG : G ≤ 4) {r : Nat} (hr : r < H) (d0 : Int32) (k : Nat) : ∀ c, c ≤ G → (tb (lbDc sr (G + 1) r d0 c) k = true ↔ tb d0 k = true ∨ ∃ c', c' < c ∧ tb sr (r * (G + 1) + c') = true ∧ k = r * G + c')
  | 0, _ => by rw [lbDc]; exact ⟨Or.inl, fun h => h.elim id (fun ⟨c, h, _⟩ => absurd h (Nat.not_lt_zero c))⟩
  | c + 1, hc => by
    have ih := lbDc_bit hH hG hr d0 k c (by omega)
    have i1 : r * (G + 1) + c < 32 := by have := Nat.mul_le_mul (show r ≤ 4 by omega) (show G + 1 ≤ 5 by omega); omega
    have i2 : r * G + c < 32 := by have := Nat.mul_le_mul (show r ≤ 4 by omega) hG; omega
    have hb : hasB sr (nI r * nI (G + 1) + nI c) = tb sr (r * (G + 1) + c) := by rw [pk_mul, nI_add, has_tb _ i1]
    cases hz : tb sr (r * (G + 1) + c) with
    | true =>
      rw [lbD_y (hb.trans hz), tb_or, Bool.or_eq_true, ih, Nat.add_sub_cancel, pk_mul, nI_add, tb_bit _ i2, decide_eq_true_iff]
      constructor
      · rintro ((a | ⟨c', a, b, e⟩) | a)
        · exact Or.inl a
        · exact Or.inr ⟨c', by omega, b, e⟩
        · exact Or.inr ⟨c, by omega, hz, a⟩
      · rintro (a | ⟨c', a, b, e⟩)
        · exact Or.inl (Or.inl a)
        · by_cases q : c' = c
          · subst q; exact Or.inr e
          · exact Or.inl (Or.inr ⟨c', by omega, b, e⟩)
    | false =>
      rw [lbD_n (hb.trans hz), ih]
      constructor
      · rintro (a | ⟨c', a, b, e⟩)
        · exact Or.inl a
        · exact Or.inr ⟨c', by omega, b, e⟩
      · rintro (a | ⟨c', a, b, e⟩)
        · exact Or.inl a
        · refine Or.inr ⟨c', ?_, b, e⟩
          rcases Nat.lt_or_ge c' c with l | l
          · exact l
          · rw [show c' = c by omega, hz] at b; cases b
theorem lbD_bit (hH : H ≤ 5) (hG : G ≤ 4) (k : Nat) : ∀ r, r ≤ H → (tb (lbD sr (G + 1) r) k = true ↔ ∃ r' c, r' < r ∧ c < G ∧ tb sr (r' * (G + 1) + c) = true ∧ k = r' * G + c)
  | 0, _ => by rw [lbD, tb_0]; exact ⟨fun h => (by cases h), fun ⟨r, _, h, _⟩ => absurd h (Nat.not_lt_zero r)⟩
  | r + 1, hr => by
    rw [lbD, Nat.add_sub_cancel, lbDc_bit hH hG (show r < H by omega) _ k G (Nat.le_refl _), lbD_bit hH hG k r (by omega)]
    constructor
    · rintro (⟨r', c, a, b, e⟩ | ⟨c, a, b, e⟩)
      · exact ⟨r', c, by omega, b, e⟩
      · exact ⟨r, c, by omega, a, b, e⟩
    · rintro ⟨r', c, a, b, e⟩
      by_cases q : r' = r
      · subst q; exact Or.inr ⟨c, b, e⟩
      · exact Or.inl ⟨r', c, by omega, b, e⟩
theorem lbRc_bit (hH : H ≤ 5) (hG : G ≤ 4) {r : Nat} (hr : r < H) (d0 : Int32) (k : Nat) : ∀ c, c ≤ G → (tb (lbRc sd (G + 1) r d0 c) k = true ↔ tb d0 k = true ∨ ∃ c', c' < c ∧ c' + 1 < G ∧ tb sd (r * (G + 1) + c' + 1) = true ∧ k = (r + 1) * G + c')
  | 0, _ => by rw [lbRc]; exact ⟨Or.inl, fun h => h.elim id (fun ⟨c, h, _⟩ => absurd h (Nat.not_lt_zero c))⟩
  | c + 1, hc => by
    have ih := lbRc_bit hH hG hr d0 k c (by omega)
    have i1 : r * (G + 1) + c + 1 < 32 := by have := Nat.mul_le_mul (show r ≤ 4 by omega) (show G + 1 ≤ 5 by omega); omega
    have i2 : (r + 1) * G + c < 32 := by have := Nat.mul_le_mul (show r + 1 ≤ 5 by omega) hG; omega
    have hb : hasB sd (nI r * nI (G + 1) + nI c + 1) = tb sd (r * (G + 1) + c + 1) := by rw [pk_mul, nI_add, nI_1, has_tb _ i1]
    by_cases hc2 : c + 2 < G + 1
    · cases hz : tb sd (r * (G + 1) + c + 1) with
      | true =>
        rw [lbR_y hc2 (hb.trans hz), tb_or, Bool.or_eq_true, ih, Nat.add_sub_cancel, nI_1, pk_mul, nI_add, tb_bit _ i2, decide_eq_true_iff]
        constructor
        · rintro ((a | ⟨c', a, b⟩) | a)
          · exact Or.inl a
          · exact Or.inr ⟨c', by omega, b⟩
          · exact Or.inr ⟨c, by omega, by omega, hz, a⟩
        · rintro (a | ⟨c', a, b, e1, e⟩)
          · exact Or.inl (Or.inl a)
          · by_cases q : c' = c
            · subst q; exact Or.inr e
            · exact Or.inl (Or.inr ⟨c', by omega, b, e1, e⟩)
      | false =>
        rw [lbR_n (hb.trans hz), ih]
        constructor
        · rintro (a | ⟨c', a, b⟩)
          · exact Or.inl a
          · exact Or.inr ⟨c', by omega, b⟩
        · rintro (a | ⟨c', a, b, e1, e⟩)
          · exact Or.inl a
          · refine Or.inr ⟨c', ?_, b, e1, e⟩
            rcases Nat.lt_or_ge c' c with l | l
            · exact l
            · rw [show c' = c by omega, hz] at e1; cases e1
    · rw [lbR_o hc2, ih]
      constructor
      · rintro (a | ⟨c', a, b⟩)
        · exact Or.inl a
        · exact Or.inr ⟨c', by omega, b⟩
      · rintro (a | ⟨c', a, b, e⟩)
        · exact Or.inl a
        · exact Or.inr ⟨c', by omega, b, e⟩
theorem lbR_bit (hH : H ≤ 5) (hG : G ≤ 4) (k : Nat) : ∀ r, r ≤ H → (tb (lbR sd (G + 1) r) k = true ↔ ∃ r' c, r' < r ∧ c + 1 < G ∧ tb sd (r' * (G + 1) + c + 1) = true ∧ k = (r' + 1) * G + c)
  | 0, _ => by rw [lbR, tb_0]; exact ⟨fun h => (by cases h), fun ⟨r, _, h, _⟩ => absurd h (Nat.not_lt_zero r)⟩
  | r + 1, hr => by
    rw [lbR, Nat.add_sub_cancel, lbRc_bit hH hG (show r < H by omega) _ k G (Nat.le_refl _), lbR_bit hH hG k r (by omega)]
    constructor
    · rintro (⟨r', c, a, b⟩ | ⟨c, a, b⟩)
      · exact ⟨r', c, by omega, b⟩
      · exact ⟨r, c, by omega, b⟩
    · rintro ⟨r', c, a, b, e⟩
      by_cases q : r' = r
      · subst q; exact Or.inr ⟨c, by omega, b, e⟩
      · exact Or.inl ⟨r', c, by omega, b, e⟩
theorem ga_bit (hH : H ≤ 5) (hG : G ≤ 4) (p : Nat) : tb (gaC H (G + 1)) p = true ↔ p < (H + 1) * G := by
  have hk : (H + 1) * G ≤ 24 := by have := Nat.mul_le_mul (show H + 1 ≤ 6 by omega) hG; omega
  have e : gaC H (G + 1) = nI (2 ^ ((H + 1) * G) - 1) := by
    unfold gaC
    rw [Nat.add_sub_cancel, pk_mul]
    have : (1 : Int32) <<< (nI ((H + 1) * G) &&& 31) = nI (2 ^ ((H + 1) * G)) := by
      refine tb_ext (fun i hi => ?_)
      rw [tb_bit _ (by omega), tb_nI (Nat.pow_lt_pow_right (by decide) (by omega)), Nat.testBit_two_pow]
      simp [eq_comm]
    rw [this, nI_sub1 Nat.one_le_two_pow]
  rw [e, tb_nI (Nat.lt_of_le_of_lt (Nat.sub_le _ _) (Nat.pow_lt_pow_right (by decide) (by omega))), Nat.testBit_two_pow_sub_one, decide_eq_true_iff]
theorem Cn.map {E F : Nat → Nat → Prop} (f : Nat → Nat) (h : ∀ x y, E x y → F (f x) (f y)) {a b : Nat} (hc : Cn E a b) : Cn F (f a) (f b) :=
  fun S hS ha => hc (fun z => S (f z)) (fun x y e => hS _ _ (h x y e)) ha
theorem wl_gen (hH : 1 ≤ H ∧ H ≤ 5) (hG : G ≤ 4) {sR sD : Nat → Nat → Bool} (h1 : ∀ r c, r < H → c < G → sR r c = tb sr (r * (G + 1) + c)) (h2 : ∀ r c, 0 < r → r < H → c + 1 < G → sD r c = tb sd ((r - 1) * (G + 1) + c + 1)) (h3 : ∀ c, c + 1 < G → tb sd ((H - 1) * (G + 1) + c + 1) = false) : crF (H + 1) G (gaC H (G + 1)) (lbR sd (G + 1) H) (lbD sr (G + 1) H) 1 = wlM H G sR sD := by
  have hk : (H + 1) * G ≤ 24 := by have := Nat.mul_le_mul (show H + 1 ≤ 6 by omega) hG; omega
  have hH5 : H ≤ 5 := hH.2
  -- edges
  have hdn : ∀ x, tb (lbD sr (G + 1) H) x = true → ∃ r c, r < H ∧ c < G ∧ sR r c = true ∧ x = r * G + c := fun x hx => by
    obtain ⟨r, c, a, b, e1, e2⟩ := (lbD_bit hH5 hG x H (Nat.le_refl _)).mp hx
    exact ⟨r, c, a, b, (h1 r c a b).trans e1, e2⟩
  have hri : ∀ x, tb (lbR sd (G + 1) H) x = true → ∃ r c, 0 < r ∧ r < H ∧ c + 1 < G ∧ sD r c = true ∧ x = r * G + c := fun x hx => by
    obtain ⟨r, c, a, b, e1, e2⟩ := (lbR_bit hH5 hG x H (Nat.le_refl _)).mp hx
    have hr : r + 1 < H := by
      rcases Nat.lt_or_ge (r + 1) H with l | l
      · exact l
      · rw [show r = H - 1 by omega, h3 c b] at e1; cases e1
    exact ⟨r + 1, c, by omega, hr, b, by rw [h2 (r + 1) c (by omega) hr b, Nat.add_sub_cancel]; exact e1, e2⟩
  have hGR : GR (gaC H (G + 1)) (lbR sd (G + 1) H) (lbD sr (G + 1) H) G := by
    refine ⟨by omega, fun x hx => ?_, fun x hx => ?_, fun x hx => ?_⟩
    · obtain ⟨r, c, a0, a, b, -, e⟩ := hri x hx
      rw [ga_bit hH5 hG, ga_bit hH5 hG, e]
      have i1 := ij_lt (H := H + 1) (G := G) (r := r) (c := c) (by omega) (by omega)
      have i2 := ij_lt (H := H + 1) (G := G) (r := r) (c := c + 1) (by omega) b
      exact ⟨i1, i2⟩
    · obtain ⟨r, c, a, b, -, e⟩ := hdn x hx
      rw [ga_bit hH5 hG, ga_bit hH5 hG, e]
      have i1 := ij_lt (H := H + 1) (G := G) (r := r) (c := c) (by omega) b
      have i2 := ij_lt (H := H + 1) (G := G) (r := r + 1) (c := c) (by omega) b
      rw [Nat.add_mul, Nat.one_mul] at i2
      exact ⟨i1, by omega⟩
    · have := (ga_bit hH5 hG x).mp hx; omega
  rw [Bool.eq_iff_iff, crF, if_neg (by decide), decide_eq_true_iff, ne0_iff, wl_iff]
  have b1 : ∀ i, i < G → 0 + i * 1 < 32 := fun i hi => by omega
  have b2 : ∀ i, i < G → H * G + i * 1 < 32 := fun i hi => by have := ij_lt (H := H + 1) (G := G) (r := H) (c := i) (by omega) hi; omega
  have e0 : lineF 0 1 G = lineF (nI 0) (nI 1) G := rfl
  have e1 : lineF ((nI (H + 1) - 1) * nI G) 1 G = lineF (nI (H * G)) (nI 1) G := by rw [nI_sub1 (by omega), pk_mul, Nat.add_sub_cancel]; rfl
  rw [e0, e1]
  constructor
  · rintro ⟨p, hp⟩
    rw [tb_and, Bool.and_eq_true, sp_iff hGR, line_bit G b2] at hp
    obtain ⟨⟨a, a1, a2, a3⟩, j, j1, j2⟩ := hp
    obtain ⟨i, i1, i2⟩ := (line_bit G b1 a).mp a1
    refine ⟨i, j, i1, j1, ?_⟩
    have key : ∀ x y, EG (lbR sd (G + 1) H) (lbD sr (G + 1) H) G x y → GE H G sR sD (6 * (x / G) + x % G) (6 * (y / G) + y % G) := by
      intro x y e
      rcases e with ⟨e1, e2⟩ | ⟨e1, e2⟩
      · obtain ⟨r, c, a0, a, b, hs, ex⟩ := hri x e1
        have d1 := dm (a := r) (b := c) (C := G) (by omega)
        have d2 := dm (a := r) (b := c + 1) (C := G) b
        rw [← Nat.add_assoc] at d2
        rw [e2, ex, d1.1, d1.2, d2.1, d2.2]
        exact Or.inr ⟨r, c, a0, a, b, hs, rfl, rfl⟩
      · obtain ⟨r, c, a, b, hs, ex⟩ := hdn x e1
        have d1 := dm (a := r) (b := c) (C := G) b
        have d2 := dm (a := r + 1) (b := c) (C := G) b
        rw [show (r + 1) * G + c = r * G + c + G by rw [Nat.add_mul, Nat.one_mul]; omega] at d2
        rw [e2, ex, d1.1, d1.2, d2.1, d2.2]
        exact Or.inl ⟨r, c, a, b, hs, rfl, by omega⟩
    have hm := a3.map (fun k => 6 * (k / G) + k % G) key
    have da := dm (a := 0) (b := i) (C := G) i1
    have dp := dm (a := H) (b := j) (C := G) j1
    rw [i2, j2] at hm
    simp only [Nat.mul_one, Nat.zero_add] at hm
    rw [Nat.zero_mul, Nat.zero_add] at da
    rw [da.1, da.2, dp.1, dp.2] at hm
    simpa using hm
  · rintro ⟨i, j, i1, j1, hc⟩
    refine ⟨H * G + j, ?_⟩
    rw [tb_and, Bool.and_eq_true, sp_iff hGR, line_bit G b2]
    refine ⟨⟨i, (line_bit G b1 _).mpr ⟨i, i1, by omega⟩, (ga_bit hH5 hG i).mpr (by have := ij_lt (H := H + 1) (G := G) (r := 0) (c := i) (by omega) i1; omega), ?_⟩, j, j1, by omega⟩
    have key : ∀ x y, GE H G sR sD x y → EG (lbR sd (G + 1) H) (lbD sr (G + 1) H) G (x / 6 * G + x % 6) (y / 6 * G + y % 6) := by
      intro x y e
      rcases e with ⟨r, c, a, b, hs, ex, ey⟩ | ⟨r, c, a0, a, b, hs, ex, ey⟩
      · rw [show x / 6 = r by omega, show x % 6 = c by omega, show y / 6 = r + 1 by omega, show y % 6 = c by omega]
        refine Or.inr ⟨(lbD_bit hH5 hG _ H (Nat.le_refl _)).mpr ⟨r, c, a, b, (h1 r c a b).symm.trans hs, rfl⟩, ?_⟩
        rw [Nat.add_mul, Nat.one_mul]; omega
      · rw [show x / 6 = r by omega, show x % 6 = c by omega, show y / 6 = r by omega, show y % 6 = c + 1 by omega]
        refine Or.inl ⟨(lbR_bit hH5 hG _ H (Nat.le_refl _)).mpr ⟨r - 1, c, by omega, b, (h2 r c a0 a b).symm.trans hs, by rw [show r - 1 + 1 = r by omega]⟩, by omega⟩
    have hm := hc.map (fun k => k / 6 * G + k % 6) key
    rw [show i / 6 = 0 by omega, show i % 6 = i by omega, show (6 * H + j) / 6 = H by omega, show (6 * H + j) % 6 = j by omega, Nat.zero_mul, Nat.zero_add] at hm
    exact hm
theorem ex2_bit {m : Int32} {R C : Nat} (hR : R ≤ 5) (hC : C ≤ 5) {r : Nat} (hr : r < R) (t0 : Int32) (k : Nat) : ∀ c, c ≤ C → (tb (ex2 m R C r t0 c) k = true ↔ tb t0 k = true ∨ ∃ c', c' < c ∧ tb m (r * C + c') = true ∧ k = c' * R + r)
  | 0, _ => by rw [ex2]; exact ⟨Or.inl, fun h => h.elim id (fun ⟨c, h, _⟩ => absurd h (Nat.not_lt_zero c))⟩
  | c + 1, hc => by
    have ih := ex2_bit (m := m) hR hC hr t0 k c (by omega)
    have i1 : r * C + c < 32 := by have := Nat.mul_le_mul (show r ≤ 4 by omega) hC; omega
    have i2 : c * R + r < 32 := by have := Nat.mul_le_mul (show c ≤ 4 by omega) hR; omega
    have hb : hasB m (nI r * nI C + nI c) = tb m (r * C + c) := by rw [pk_mul, nI_add, has_tb _ i1]
    cases hz : tb m (r * C + c) with
    | true =>
      rw [ex2_y (hb.trans hz), tb_or, Bool.or_eq_true, ih, pk_mul, nI_add, tb_bit _ i2, decide_eq_true_iff]
      constructor
      · rintro ((a | ⟨c', a, b⟩) | a)
        · exact Or.inl a
        · exact Or.inr ⟨c', by omega, b⟩
        · exact Or.inr ⟨c, by omega, hz, a⟩
      · rintro (a | ⟨c', a, b, e⟩)
        · exact Or.inl (Or.inl a)
        · by_cases q : c' = c
          · subst q; exact Or.inr e
          · exact Or.inl (Or.inr ⟨c', by omega, b, e⟩)
    | false =>
      rw [ex2_n (hb.trans hz), ih]
      constructor
      · rintro (a | ⟨c', a, b⟩)
        · exact Or.inl a
        · exact Or.inr ⟨c', by omega, b⟩
      · rintro (a | ⟨c', a, b, e⟩)
        · exact Or.inl a
        · refine Or.inr ⟨c', ?_, b, e⟩
          rcases Nat.lt_or_ge c' c with l | l
          · exact l
          · rw [show c' = c by omega, hz] at b; cases b
theorem ex_bit {m : Int32} {R C : Nat} (hR : R ≤ 5) (hC : C ≤ 5) (k : Nat) : ∀ r, r ≤ R → (tb (exF m R C r) k = true ↔ ∃ r' c, r' < r ∧ c < C ∧ tb m (r' * C + c) = true ∧ k = c * R + r')
  | 0, _ => by rw [exF, tb_0]; exact ⟨fun h => (by cases h), fun ⟨r, _, h, _⟩ => absurd h (Nat.not_lt_zero r)⟩
  | r + 1, hr => by
    rw [exF, ex2_bit hR hC (show r < R by omega) _ k C (Nat.le_refl _), ex_bit hR hC k r (by omega)]
    constructor
    · rintro (⟨r', c, a, b⟩ | ⟨c, a, b⟩)
      · exact ⟨r', c, by omega, b⟩
      · exact ⟨r, c, by omega, a, b⟩
    · rintro ⟨r', c, a, b, e⟩
      by_cases q : r' = r
      · subst q; exact Or.inr ⟨c, b, e⟩
      · exact Or.inl ⟨r', c, by omega, b, e⟩
/-- exchanged, at one place -/
theorem ex_at {m : Int32} {R C r c : Nat} (hR : R ≤ 5) (hC : C ≤ 5) (hr : r < C) (hc : c < R) : tb (exF m R C R) (r * R + c) = tb m (c * C + r) := by
  rw [Bool.eq_iff_iff, ex_bit hR hC _ R (Nat.le_refl _)]
  constructor
  · rintro ⟨r', c', a, b, e1, e2⟩
    have d1 := dm (a := r) (b := c) (C := R) hc
    have d2 := dm (a := c') (b := r') (C := R) a
    rw [← e2] at d2
    have q1 : r = c' := d1.1.symm.trans d2.1
    have q2 : c = r' := d1.2.symm.trans d2.2
    subst q1; subst q2; exact e1
  · intro h
    exact ⟨c, r, hc, hr, h, rfl⟩
end WLS
