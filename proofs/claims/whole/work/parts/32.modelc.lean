/-! words for the model, 2 -/
theorem eq12 {m : Nat} (hm : m ≤ 12) (h : nI m = 12) : 12 ≤ m := by
  have := (nI_eq (a := m) (b := 12) (by omega) (by decide)).mp h
  omega
theorem ne12 {m : Nat} (hm : m ≤ 12) (h : ¬ nI m = 12) : m < 12 := by
  rcases Nat.lt_or_ge m 12 with q | q
  · exact q
  · exact absurd (show nI m = 12 by rw [show m = 12 by omega]; rfl) h
theorem out4 {x : Int32} (h0 : ¬ x = 0) (h1 : ¬ x = 1) (h2 : ¬ x = 2) (h3 : ¬ x = 3) : x.toInt < 0 ∨ 3 < x.toInt := by
  rcases Int.lt_or_le x.toInt 0 with a | a
  · exact Or.inl a
  rcases Int.lt_or_le 3 x.toInt with b | b
  · exact Or.inr b
  exfalso
  rcases (show x.toInt = 0 ∨ x.toInt = 1 ∨ x.toInt = 2 ∨ x.toInt = 3 by omega) with q | q | q | q
  · exact h0 (Int32.toInt_inj.mp q)
  · exact h1 (Int32.toInt_inj.mp q)
  · exact h2 (Int32.toInt_inj.mp q)
  · exact h3 (Int32.toInt_inj.mp q)
theorem abM_ok {R C : Nat} {op : Bool} {kinds elders : Nat → Int32} {j : Nat} {what : Int32} (h : wiB (nI j) 0 (nI (thM R C op) - 1) = true) (h2 : wiB what 0 4 = true) (hj : j < 2 ^ 31) : abM R C op kinds elders (nI j) what = if what = 0 then kinds j else if what = 1 then elders j else if what = 2 then (if kinds j = 2 then nI (ctF kinds j) else (-9)) else if what = 3 then (if op = true then nI j else nI (enM R C j false)) else (if op = true then nI j else nI (enM R C j true)) := by
  rw [abM, h, h2, nI_clamp hj]; rfl
theorem ob_2 {kinds elders : Nat → Int32} {t : Nat} {se : Int32} (h : kinds t = 2) : obM kinds elders t se = decide (bitM se (ctF kinds t) = 1) := by rw [obM, h]; rfl
theorem ob_3 {kinds elders : Nat → Int32} {t e : Nat} {se : Int32} (h : kinds t = 3) (he : elders t = nI e) (h2 : e < 2 ^ 31) : obM kinds elders t se = decide (bitM se (ctF kinds e) = 1) := by rw [obM, h, he, nI_clamp h2]; rfl
theorem ob_4 {kinds elders : Nat → Int32} {t e : Nat} {se : Int32} (h : kinds t = 4) (he : elders t = nI e) (h2 : e < 2 ^ 31) : obM kinds elders t se = decide (bitM se (ctF kinds e) = 0) := by rw [obM, h, he, nI_clamp h2]; rfl
theorem ob_0 {kinds elders : Nat → Int32} {t : Nat} {se : Int32} (h : kinds t = 0) : obM kinds elders t se = false := by rw [obM, h]; rfl
theorem ob_1 {kinds elders : Nat → Int32} {t : Nat} {se : Int32} (h : kinds t = 1) : obM kinds elders t se = true := by rw [obM, h]; rfl
