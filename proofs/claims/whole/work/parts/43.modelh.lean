/-! words for the model, 7 -/
theorem hr0 {nr : Nat} {r : Int32} (e : nr ≤ 4) (h : bI (wiB r 0 (nI nr - 1)) = 0) : bI (hrB nr r) = 0 := by rw [← wi_hr e]; exact h
section CMq
variable {abs : Nat → SH} {a b n1 n2 : Nat} {x o s1 s2 r i s j n : Int32} {rows1 rows2 : Nat → RW}
theorem cp_b1 (h : bI (wiB x 0 2) = 0) : cpD abs x r i o s j n = -1 := by rw [cpD, if_neg (by rw [p_n (bI_0.mp h)]; decide)]
theorem cp_b2 (h : bI (wiB o 0 2) = 0) : cpD abs x r i o s j n = -1 := by rw [cpD, if_neg (by rw [bI_0.mp h, Bool.and_false]; decide)]
theorem cp_at0 (ha : a < 3) (hb : b < 3) (h1 : ¬ bI (wiB (nI a) 0 2) = 0) (h2 : ¬ bI (wiB (nI b) 0 2) = 0) : cpD abs (nI a) r i (nI b) s j n = cpD1 (abs a) (abs b) r i s j n := by
  rw [cpD, if_pos (p_yy (bI_n0.mp h1) (bI_n0.mp h2)), nI_clamp (by omega), nI_clamp (by omega)]
theorem cp_at (ha : a < 3) (hb : b < 3) (h1 : ¬ bI (wiB (nI a) 0 2) = 0) (h2 : ¬ bI (wiB (nI b) 0 2) = 0) (e1 : abs a = some (s1, n1, rows1)) (e2 : abs b = some (s2, n2, rows2)) : cpD abs (nI a) r i (nI b) s j n = cpD1 (some (s1, n1, rows1)) (some (s2, n2, rows2)) r i s j n := by
  rw [cp_at0 ha hb h1 h2, e1, e2]
theorem cp_no1 (ha : a < 3) (hb : b < 3) (h1 : ¬ bI (wiB (nI a) 0 2) = 0) (h2 : ¬ bI (wiB (nI b) 0 2) = 0) (e1 : abs a = none) : cpD abs (nI a) r i (nI b) s j n = -11 := by
  rw [cp_at0 ha hb h1 h2, e1]; rfl
theorem cp_no2 (ha : a < 3) (hb : b < 3) (h1 : ¬ bI (wiB (nI a) 0 2) = 0) (h2 : ¬ bI (wiB (nI b) 0 2) = 0) (e2 : abs b = none) : cpD abs (nI a) r i (nI b) s j n = -11 := by
  rw [cp_at0 ha hb h1 h2, e2]; cases abs a <;> rfl
end CMq
theorem rf_none {r : Int32} : rfD none r = -11 := rfl
theorem rf_hr {so : Int32} {nr : Nat} {rows : Nat → RW} {r : Int32} (h : hrB nr r = false) : rfD (some (so, nr, rows)) r = -12 := by simp only [rfD, h]; rfl
theorem rf_rn {so : Int32} {nr jr : Nat} {rows : Nat → RW} (hj : jr < nr) (hn : nr ≤ 4) (e : rows jr = none) : rfD (some (so, nr, rows)) (nI jr) = -11 := by
  simp only [rfD, hr_in hj hn, nI_clamp (show jr < 2 ^ 31 by omega), e]; rfl
