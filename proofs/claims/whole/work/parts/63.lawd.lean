/-! words for the law, 2 -/
theorem wi3y {j : Nat} (h : j < 3) : wiB (nI j) 0 2 = true := wi_iff.mpr ⟨nI_pos' (by omega), nI_le (b := 2) (by omega) (by decide)⟩
theorem rf_ok {so : Int32} {nr jr : Nat} {rows : Nat → RW} {v : Nat × (Nat → Int32)} (hj : jr < nr) (hn : nr ≤ 4) (e : rows jr = some v) : rfD (some (so, nr, rows)) (nI jr) = 0 := by
  simp only [rfD, hr_in hj hn, nI_clamp (show jr < 2 ^ 31 by omega), e]; rfl
theorem inj3 {a a' : Int32} {b b' : Nat} {c c' : Nat → RW} (h : (some (a, b, c) : SH) = some (a', b', c')) : a = a' ∧ b = b' ∧ c = c' := by cases h; exact ⟨rfl, rfl, rfl⟩
theorem inj2 {a a' : Nat} {f f' : Nat → Int32} (h : (some (a, f) : RW) = some (a', f')) : a = a' ∧ f = f' := by cases h; exact ⟨rfl, rfl⟩
