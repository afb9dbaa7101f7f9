/-! words for the law -/
theorem tw_KI {T : Nat} {kinds elders : Nat → Int32} (h : KI T kinds elders) (hT : T ≤ 40) {j e : Nat} (hj : j < T) (he : e < T) {ag : Bool} (hd : twD T kinds elders (nI j) (nI e) = none) : KI T (upd kinds j (if ag = true then 4 else 3)) (upd elders j (nI e)) := by
  unfold twD at hd
  by_cases c : (wiB (nI j) 0 (nI T - 1) && wiB (nI e) 0 (nI T - 1)) = false ∨ nI j = nI e ∨ ¬ kinds (nI e).toNatClampNeg = 2
  · rw [if_pos c] at hd; cases hd
  · rw [if_neg c] at hd
    rw [nI_clamp (by omega)] at c
    have h1 : ¬ j = e := fun q => c (Or.inr (Or.inl (by rw [q])))
    have h2 : kinds e = 2 := Classical.byContradiction (fun q => c (Or.inr (Or.inr q)))
    have h3 : ieB elders (nI j) T = false := by
      cases hz : ieB elders (nI j) T with
      | false => rfl
      | true => rw [hz] at hd; cases hd
    exact h.twin hT hj he h1 h2 (by cases ag; exact Or.inl rfl; exact Or.inr rfl) h3
