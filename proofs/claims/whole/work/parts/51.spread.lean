/-! spreading is hanging together -/
def EG (ri dn : Int32) (c x y : Nat) : Prop := (tb ri x = true ∧ y = x + 1) ∨ (tb dn x = true ∧ y = x + c)
def GR (ce ri dn : Int32) (c : Nat) : Prop := c < 32 ∧ (∀ x, tb ri x = true → tb ce x = true ∧ tb ce (x + 1) = true) ∧ (∀ x, tb dn x = true → tb ce x = true ∧ tb ce (x + c) = true) ∧ ∀ x, tb ce x = true → x < 25
section SPR
variable {ce ri dn fr : Int32} {c : Nat}
theorem wd_bit (hG : GR ce ri dn c) (r : Int32) (p : Nat) : tb (wdF ri dn (nI c) r) p = true ↔ tb r p = true ∨ ∃ q, tb r q = true ∧ (EG ri dn c q p ∨ EG ri dn c p q) := by
  obtain ⟨hc, h1, h2, h3⟩ := hG
  rw [show wdF ri dn (nI c) r = r ||| ((r &&& ri) <<< (nI 1 &&& 31)) ||| (ush r (nI 1) &&& ri) ||| ((r &&& dn) <<< (nI c &&& 31)) ||| (ush r (nI c) &&& dn) from rfl]
  simp only [tb_or, tb_and, tb_shl 1 (by decide), tb_shl c hc, tb_ush 1 (by decide), tb_ush c hc, Bool.or_eq_true, Bool.and_eq_true, decide_eq_true_iff]
  constructor
  · rintro ((((a | ⟨b1, b2, b3, b4⟩) | ⟨b1, b2⟩) | ⟨b1, b2, b3, b4⟩) | ⟨b1, b2⟩)
    · exact Or.inl a
    · exact Or.inr ⟨p - 1, b3, Or.inl (Or.inl ⟨b4, by omega⟩)⟩
    · exact Or.inr ⟨1 + p, b1, Or.inr (Or.inl ⟨b2, by omega⟩)⟩
    · exact Or.inr ⟨p - c, b3, Or.inl (Or.inr ⟨b4, by omega⟩)⟩
    · exact Or.inr ⟨c + p, b1, Or.inr (Or.inr ⟨b2, by omega⟩)⟩
  · rintro (a | ⟨q, hq, (⟨e1, e2⟩ | ⟨e1, e2⟩) | (⟨e1, e2⟩ | ⟨e1, e2⟩)⟩)
    · exact Or.inl (Or.inl (Or.inl (Or.inl a)))
    · have := h3 _ (h1 q e1).2
      exact Or.inl (Or.inl (Or.inl (Or.inr ⟨by omega, by omega, by rw [e2, Nat.add_sub_cancel]; exact hq, by rw [e2, Nat.add_sub_cancel]; exact e1⟩)))
    · have := h3 _ (h2 q e1).2
      exact Or.inl (Or.inr ⟨by omega, by omega, by rw [e2, Nat.add_sub_cancel]; exact hq, by rw [e2, Nat.add_sub_cancel]; exact e1⟩)
    · exact Or.inl (Or.inl (Or.inr ⟨by rw [Nat.add_comm, ← e2]; exact hq, e1⟩))
    · exact Or.inr ⟨by rw [Nat.add_comm, ← e2]; exact hq, e1⟩
theorem cB_sub {b b' : Nat → Bool} (h : ∀ p, b p = true → b' p = true) : ∀ n, cB b n ≤ cB b' n
  | 0 => Nat.le_refl _
  | n + 1 => by
    have := cB_sub h n
    rw [cB, cB]
    cases hz : b n with
    | true => rw [h n hz]; simp; exact this
    | false => rw [if_neg (by decide)]; split <;> omega
theorem cB_lt {b b' : Nat → Bool} (h : ∀ p, b p = true → b' p = true) {q : Nat} (h1 : b q = false) (h2 : b' q = true) : ∀ n, q < n → cB b n < cB b' n
  | 0, hq => absurd hq (Nat.not_lt_zero q)
  | n + 1, hq => by
    rw [cB, cB]
    by_cases e : q = n
    · subst e
      have := cB_sub h q
      rw [h1, h2]; simp; omega
    · have ih := cB_lt h h1 h2 n (by omega)
      cases hz : b n with
      | true => rw [h n hz]; simp; exact ih
      | false => rw [if_neg (by decide)]; split <;> omega
theorem cB_le (b : Nat → Bool) : ∀ n, cB b n ≤ n
  | 0 => Nat.le_refl _
  | n + 1 => by have := cB_le b n; rw [cB]; split <;> omega
theorem cB_pos {b : Nat → Bool} {q n : Nat} (h : b q = true) (hq : q < n) : 1 ≤ cB b n := by
  have := cB_mono (b := b) (show q + 1 ≤ n from hq)
  rw [cB, if_pos h] at this; omega
/-- what is reached lies among the cells and hangs together with the start -/
theorem it_in (hG : GR ce ri dn c) : ∀ n p, tb (itF (wdF ri dn (nI c)) n (fr &&& ce)) p = true → tb ce p = true ∧ ∃ a, tb fr a = true ∧ tb ce a = true ∧ Cn (EG ri dn c) a p
  | 0, p, h => by
    have h : tb (fr &&& ce) p = true := h
    rw [tb_and, Bool.and_eq_true] at h
    exact ⟨h.2, p, h.1, h.2, Cn.refl p⟩
  | n + 1, p, h => by
    rw [itF_succ] at h
    rcases (wd_bit hG _ p).mp h with a | ⟨q, hq, e⟩
    · exact it_in hG n p a
    · obtain ⟨h1, a, a1, a2, a3⟩ := it_in hG n q hq
      rcases e with e | e
      · refine ⟨?_, a, a1, a2, a3.trans (Cn.edge e)⟩
        rcases e with ⟨e1, e2⟩ | ⟨e1, e2⟩
        · rw [e2]; exact (hG.2.1 q e1).2
        · rw [e2]; exact (hG.2.2.1 q e1).2
      · refine ⟨?_, a, a1, a2, a3.trans (Cn.edge e).symm⟩
        rcases e with ⟨e1, e2⟩ | ⟨e1, e2⟩
        · exact (hG.2.1 p e1).1
        · exact (hG.2.2.1 p e1).1
theorem it_grow (hG : GR ce ri dn c) : ∀ n, (∃ i, i < n ∧ wdF ri dn (nI c) (itF (wdF ri dn (nI c)) i (fr &&& ce)) = itF (wdF ri dn (nI c)) i (fr &&& ce)) ∨ n + cB (tb (fr &&& ce)) 25 ≤ cB (tb (itF (wdF ri dn (nI c)) n (fr &&& ce))) 25
  | 0 => Or.inr (by rw [Nat.zero_add]; exact Nat.le_refl _)
  | n + 1 => by
    rcases it_grow hG n with ⟨i, h1, h2⟩ | h
    · exact Or.inl ⟨i, by omega, h2⟩
    · by_cases e : wdF ri dn (nI c) (itF (wdF ri dn (nI c)) n (fr &&& ce)) = itF (wdF ri dn (nI c)) n (fr &&& ce)
      · exact Or.inl ⟨n, by omega, e⟩
      · refine Or.inr ?_
        have hsub : ∀ p, tb (itF (wdF ri dn (nI c)) n (fr &&& ce)) p = true → tb (itF (wdF ri dn (nI c)) (n + 1) (fr &&& ce)) p = true := fun p hp => by
          rw [itF_succ]; exact (wd_bit hG _ p).mpr (Or.inl hp)
        have hex : ∃ q, q < 32 ∧ ¬ tb (itF (wdF ri dn (nI c)) (n + 1) (fr &&& ce)) q = tb (itF (wdF ri dn (nI c)) n (fr &&& ce)) q := by
          refine Classical.byContradiction (fun hno => e ?_)
          rw [← itF_succ (f := wdF ri dn (nI c))]
          refine tb_ext (fun i hi => ?_)
          exact Classical.byContradiction (fun z => hno ⟨i, hi, z⟩)
        obtain ⟨q, -, hq⟩ := hex
        have h1 : tb (itF (wdF ri dn (nI c)) n (fr &&& ce)) q = false := by
          cases hz : tb (itF (wdF ri dn (nI c)) n (fr &&& ce)) q with
          | false => rfl
          | true => exact absurd ((hsub q hz).trans hz.symm) hq
        have h2 : tb (itF (wdF ri dn (nI c)) (n + 1) (fr &&& ce)) q = true := by
          cases hz : tb (itF (wdF ri dn (nI c)) (n + 1) (fr &&& ce)) q with
          | true => rfl
          | false => exact absurd (hz.trans h1.symm) hq
        have hq25 := hG.2.2.2 q (it_in hG (n + 1) q h2).1
        have := cB_lt hsub h1 h2 25 hq25
        omega
theorem sp_fix (hG : GR ce ri dn c) : wdF ri dn (nI c) (spF (nI c) ce ri dn fr) = spF (nI c) ce ri dn fr := by
  have fin : ∀ i, i < 25 → wdF ri dn (nI c) (itF (wdF ri dn (nI c)) i (fr &&& ce)) = itF (wdF ri dn (nI c)) i (fr &&& ce) → wdF ri dn (nI c) (spF (nI c) ce ri dn fr) = spF (nI c) ce ri dn fr := fun i hi h => by
    unfold spF
    rw [itF_stop h (by omega)]; exact h
  rcases it_grow (fr := fr) hG 25 with ⟨i, h1, h2⟩ | h
  · exact fin i h1 h2
  · by_cases e : ∃ q, tb (fr &&& ce) q = true
    · obtain ⟨q, hq⟩ := e
      have hq2 := hq
      rw [tb_and, Bool.and_eq_true] at hq2
      have := cB_pos hq (hG.2.2.2 q hq2.2)
      have := cB_le (tb (itF (wdF ri dn (nI c)) 25 (fr &&& ce))) 25
      omega
    · refine fin 0 (by decide) ?_
      show wdF ri dn (nI c) (fr &&& ce) = fr &&& ce
      refine tb_ext (fun i _ => ?_)
      rw [Bool.eq_iff_iff, wd_bit hG]
      constructor
      · rintro (a | ⟨q, hq, -⟩)
        · exact a
        · exact absurd ⟨q, hq⟩ e
      · exact Or.inl
theorem sp_iff (hG : GR ce ri dn c) (p : Nat) : tb (spF (nI c) ce ri dn fr) p = true ↔ ∃ a, tb fr a = true ∧ tb ce a = true ∧ Cn (EG ri dn c) a p := by
  constructor
  · exact fun h => (it_in hG 25 p h).2
  · rintro ⟨a, a1, a2, a3⟩
    refine a3 (fun z => tb (spF (nI c) ce ri dn fr) z = true) (fun x y e => ?_) ?_
    · constructor
      · intro h
        rw [← sp_fix hG]; exact (wd_bit hG _ y).mpr (Or.inr ⟨x, h, Or.inl e⟩)
      · intro h
        rw [← sp_fix hG]; exact (wd_bit hG _ x).mpr (Or.inr ⟨y, h, Or.inr e⟩)
    · have : ∀ n, tb (itF (wdF ri dn (nI c)) n (fr &&& ce)) a = true := by
        intro n
        induction n with
        | zero => show tb (fr &&& ce) a = true; rw [tb_and, a1, a2]; rfl
        | succ n ih => rw [itF_succ]; exact (wd_bit hG _ a).mpr (Or.inl ih)
      exact this 25
theorem sp_ce (hG : GR ce ri dn c) {p : Nat} (h : tb (spF (nI c) ce ri dn fr) p = true) : tb ce p = true := (it_in hG 25 p h).1
end SPR
