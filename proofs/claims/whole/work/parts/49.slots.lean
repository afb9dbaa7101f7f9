/-! longs' bits; where things lie -/
theorem tl_lsh1 (n : Nat) (hn : n < 64) (i : Nat) : tl (lsh 1 (nI n)) i = decide (i = n) := by
  unfold tl lsh
  rw [Int64.toBitVec_shiftLeft, BitVec.shiftLeft_eq', sm64 n hn, BitVec.toNat_ofNat, Nat.mod_eq_of_lt (by omega), BitVec.getLsbD_shiftLeft]
  rw [show (1 : Int64).toBitVec = 1#64 from rfl, BitVec.getLsbD_one]
  by_cases h : i = n
  · subst h; simp [hn]
  · rw [decide_eq_false h]
    by_cases h1 : i < n
    · simp [h1]
    · rw [decide_eq_false (show ¬ i - n = 0 by omega)]; simp
theorem tl_lush (n : Nat) (hn : n < 64) (x : Int64) (i : Nat) : tl (lush x (nI n)) i = tl x (n + i) := by
  unfold tl lush
  rw [su64 n hn]
  show (x.toUInt64 >>> UInt64.ofNat n).toBitVec.getLsbD i = x.toBitVec.getLsbD (n + i)
  rw [UInt64.toBitVec_shiftRight, BitVec.ushiftRight_eq', ]
  have e : ((UInt64.ofNat n).toBitVec % 64).toNat = n := by
    rw [UInt64.toBitVec_ofNat', BitVec.toNat_umod, BitVec.toNat_ofNat]
    show n % 2 ^ 64 % 64 = n
    omega
  rw [e, BitVec.getLsbD_ushiftRight]
  rfl
theorem tb_l2i (x : Int64) (i : Nat) : tb x.toInt32 i = (decide (i < 32) && tl x i) := by
  unfold tb tl
  show (x.toInt32).toBitVec.getLsbD i = _
  rw [Int64.toBitVec_toInt32, BitVec.getLsbD_signExtend]
  by_cases h : i < 32
  · rw [if_pos (by omega)]
  · simp [h]
theorem tl_1 (i : Nat) : tl 1 i = decide (i = 0) := by
  unfold tl
  rw [show (1 : Int64).toBitVec = 1#64 from rfl, BitVec.getLsbD_one]
  simp
theorem tl_and (x y : Int64) (i : Nat) : tl (x &&& y) i = (tl x i && tl y i) := by simp [tl]
theorem tb_bI (b : Bool) (i : Nat) : tb (bI b) i = (b && decide (i = 0)) := by
  cases b
  · exact tb_0 i
  · exact tb_1 i
theorem open_bit (on : Int64) {n : Nat} (hn : n < 64) : (lush on (nI n) &&& 1).toInt32 = bI (tl on n) := by
  refine tb_ext (fun i hi => ?_)
  rw [tb_l2i, tl_and, tl_lush n hn, tl_1, tb_bI]
  by_cases e : i = 0
  · subst e; simp
  · simp [e]
def cB (b : Nat → Bool) : Nat → Nat
  | 0 => 0
  | p + 1 => if b p = true then cB b p + 1 else cB b p
theorem cB_mono {b : Nat → Bool} {p : Nat} : ∀ {q : Nat}, p ≤ q → cB b p ≤ cB b q
  | 0, h => by rw [show p = 0 by omega]; exact Nat.le_refl _
  | q + 1, h => by
    rcases Nat.lt_or_ge q p with z | z
    · rw [show p = q + 1 by omega]; exact Nat.le_refl _
    · have := cB_mono (b := b) z
      rw [cB]; split <;> omega
theorem ad_spec {mask base : Int32} {s0 : Nat → Int32} {t0 : Nat} {b : Nat → Bool} (hb : ∀ p, p < 25 → hasB mask (nI p) = b p) (h : t0 + cB b 25 ≤ 40) : ∀ p, p ≤ 25 → (adF mask base s0 t0 p).2 = t0 + cB b p ∧ (∀ q, q < p → b q = true → (adF mask base s0 t0 p).1 (t0 + cB b q) = base + nI q) ∧ ∀ t, t < t0 → (adF mask base s0 t0 p).1 t = s0 t
  | 0, _ => ⟨rfl, fun q hq => absurd hq (Nat.not_lt_zero q), fun _ _ => rfl⟩
  | p + 1, hp => by
    obtain ⟨h1, h2, h3⟩ := ad_spec (base := base) (s0 := s0) hb h p (by omega)
    have hm := cB_mono (b := b) (show p + 1 ≤ 25 from hp)
    cases hz : b p with
    | true =>
      have hc : cB b (p + 1) = cB b p + 1 := by rw [cB, if_pos hz]
      rw [ad_y ((hb p (by omega)).trans hz) (by omega), h1]
      refine ⟨by rw [hc]; rfl, fun q hq hbq => ?_, fun t ht => ?_⟩
      · show upd _ _ _ _ = _
        by_cases e : q = p
        · subst e; exact upd_s
        · have hlt : cB b q < cB b p := by
            have := cB_mono (b := b) (show q + 1 ≤ p by omega)
            rw [cB, if_pos hbq] at this; omega
          rw [upd_n (by omega)]; exact h2 q (by omega) hbq
      · show upd _ _ _ _ = _
        rw [upd_n (by omega)]; exact h3 t ht
    | false =>
      have hc : cB b (p + 1) = cB b p := by rw [cB, if_neg (by rw [hz]; decide)]
      rw [ad_n ((hb p (by omega)).trans hz), hc]
      refine ⟨h1, fun q hq hbq => h2 q ?_ hbq, h3⟩
      rcases Nat.lt_or_ge q p with z | z
      · exact z
      · rw [show q = p by omega, hz] at hbq; cases hbq
/-- the places of a corner -/
def cnB (C wd H p : Nat) : Bool := decide (p / C < H ∧ p % C < wd)
set_option maxRecDepth 20000 in
theorem co_bit0 : ∀ (R C : Fin 6) (p : Fin 32), 1 ≤ C.val → hasB (coF C.val C.val R.val) (nI p.val) = cnB C.val C.val R.val p.val ∧ hasB (coF C.val (C.val - 1) R.val) (nI p.val) = cnB C.val (C.val - 1) R.val p.val := by decide +kernel
theorem co_bit {R C p : Nat} (hR : R ≤ 5) (hC : 1 ≤ C ∧ C ≤ 5) (hp : p < 32) : hasB (coF C C R) (nI p) = cnB C C R p ∧ hasB (coF C (C - 1) R) (nI p) = cnB C (C - 1) R p := co_bit0 ⟨R, by omega⟩ ⟨C, by omega⟩ ⟨p, hp⟩ hC.1
def slN (R C : Nat) (op : Bool) (t : Nat) : Nat := if op = true then t else if t < R * (C - 1) then enM R C t false else 32 + enM R C t false
set_option maxRecDepth 20000 in
theorem pl_d1 : ∀ (R C : Fin 6), 1 ≤ R.val → 1 ≤ C.val → cB (cnB C.val C.val R.val) 25 = R.val * C.val ∧ cB (cnB C.val (C.val - 1) R.val) 25 = R.val * (C.val - 1) ∧ cB (cnB C.val C.val (R.val - 1)) 25 = (R.val - 1) * C.val := by decide +kernel
set_option maxRecDepth 20000 in
theorem pl_d2 : ∀ (R C : Fin 6) (t : Fin 25), 1 ≤ R.val → 1 ≤ C.val → t.val < R.val * C.val → cnB C.val C.val R.val t.val = true ∧ cB (cnB C.val C.val R.val) t.val = t.val := by decide +kernel
set_option maxRecDepth 20000 in
theorem pl_d3 : ∀ (R C : Fin 6) (t : Fin 20), 1 ≤ R.val → 1 ≤ C.val → t.val < R.val * (C.val - 1) → cnB C.val (C.val - 1) R.val (enM R.val C.val t.val false) = true ∧ cB (cnB C.val (C.val - 1) R.val) (enM R.val C.val t.val false) = t.val ∧ enM R.val C.val t.val false < 25 := by decide +kernel
set_option maxRecDepth 20000 in
theorem pl_d4 : ∀ (R C : Fin 6) (t : Fin 40), 1 ≤ R.val → 1 ≤ C.val → R.val * (C.val - 1) ≤ t.val → t.val < rdM R.val C.val → cnB C.val C.val (R.val - 1) (enM R.val C.val t.val false) = true ∧ R.val * (C.val - 1) + cB (cnB C.val C.val (R.val - 1)) (enM R.val C.val t.val false) = t.val ∧ enM R.val C.val t.val false < 25 := by decide +kernel
theorem pl_spec {R C : Nat} (hR : 1 ≤ R ∧ R ≤ 5) (hC : 1 ≤ C ∧ C ≤ 5) (op : Bool) (s0 : Nat → Int32) : (plF R C op s0).2 = thM R C op ∧ ∀ t, t < thM R C op → (plF R C op s0).1 t = nI (slN R C op t) := by
  have d1 := pl_d1 ⟨R, by omega⟩ ⟨C, by omega⟩ hR.1 hC.1
  have hPM := pl_M hR hC
  have hRM := rd_M hR hC
  cases op with
  | true =>
    rw [plF_t rfl, th_t rfl]
    obtain ⟨h1, h2, -⟩ := ad_spec (mask := coF C C R) (base := 0) (s0 := s0) (t0 := 0) (b := cnB C C R) (fun p hp => (co_bit hR.2 hC (by omega)).1) (by have := d1.1; simp only at this; omega) 25 (Nat.le_refl _)
    refine ⟨h1.trans (by have := d1.1; simp only at this; omega), fun t ht => ?_⟩
    have d2 := pl_d2 ⟨R, by omega⟩ ⟨C, by omega⟩ ⟨t, by omega⟩ hR.1 hC.1 ht
    have := h2 t (by omega) d2.1
    rw [Nat.zero_add, d2.2, Int32.zero_add] at this
    rw [this]; rfl
  | false =>
    rw [plF_f rfl, th_f rfl]
    obtain ⟨h1, h2, -⟩ := ad_spec (mask := coF C (C - 1) R) (base := 0) (s0 := s0) (t0 := 0) (b := cnB C (C - 1) R) (fun p hp => (co_bit hR.2 hC (by omega)).2) (by have := d1.2.1; simp only at this; omega) 25 (Nat.le_refl _)
    have h1' : (adF (coF C (C - 1) R) 0 s0 0 25).2 = R * (C - 1) := h1.trans (by have := d1.2.1; simp only at this; omega)
    rw [h1']
    obtain ⟨g1, g2, g3⟩ := ad_spec (mask := coF C C (R - 1)) (base := 32) (s0 := (adF (coF C (C - 1) R) 0 s0 0 25).1) (t0 := R * (C - 1)) (b := cnB C C (R - 1)) (fun p hp => (co_bit (by omega) hC (by omega)).1) (by have := d1.2.2; simp only at this; omega) 25 (Nat.le_refl _)
    refine ⟨g1.trans (by have := d1.2.2; simp only at this; rw [this]; rfl), fun t ht => ?_⟩
    rcases Nat.lt_or_ge t (R * (C - 1)) with z | z
    · have d3 := pl_d3 ⟨R, by omega⟩ ⟨C, by omega⟩ ⟨t, by omega⟩ hR.1 hC.1 z
      rw [g3 t z]
      have := h2 _ d3.2.2 d3.1
      rw [Nat.zero_add, d3.2.1, Int32.zero_add] at this
      rw [this, slN, if_neg (by decide), if_pos z]
    · have d4 := pl_d4 ⟨R, by omega⟩ ⟨C, by omega⟩ ⟨t, by omega⟩ hR.1 hC.1 z ht
      have := g2 _ d4.2.2 d4.1
      rw [d4.2.1] at this
      rw [this, slN, if_neg (by decide), if_neg (by omega)]
      exact nI_add 32 _
