/-! the law: its script -/
def Sc (φ : Fx) (b L : Nat) (xs : Nat → Int32) : Prop := match φ with
  | (_, _, _, _, s, _, _, _, _, _, A, _, _, _) => va_X b L xs s s.heap ∧ b < s.heap.size ∧ ¬ A b
section LWB
variable {φ : Fx} {g0 : Gx} {y : MethodName} {cc : ByteArray} {nL0 fr lo mc ms k n pc b Ln : Nat} {xs : Nat → Int32} {w : va_W} {L : List (Nat × Value)} {rest : List Value}
theorem X_sld (C : Cx φ g0 y cc nL0 fr lo mc ms) (hs : Sc φ b Ln xs) {i : Nat} (hi : i < Ln) (hL : Ln ≤ 4096) (d : decode cc pc = .ok (.iaload, 1)) (kk : X φ k n w L (pc + 1) (.int (xs i) :: rest)) : X φ k n w L pc (.int (nI i) :: .ref b :: rest) := by
  obtain ⟨p, l, e, R, s, m, args, below, meth, c, A, Q, nL, g⟩ := φ
  obtain ⟨hx, hb, hml, hown, hts, hK, hA, hRR, hlk, hnm, hnL, hg⟩ := C
  obtain ⟨h1, h2, h3⟩ := (show va_X b Ln xs s s.heap ∧ b < s.heap.size ∧ ¬ A b from hs)
  intro H locs ls hP hD hS hll
  refine va_sld hx hb h1 h2 h3 hS (vp_in_nI hi (by omega)) d ?_
  rw [nI_clamp (by omega)]
  exact kk H locs ls hP hD hS hll
theorem X_slen (C : Cx φ g0 y cc nL0 fr lo mc ms) (hs : Sc φ b Ln xs) (d : decode cc pc = .ok (.arraylength, 1)) (kk : X φ k n w L (pc + 1) (.int (nI Ln) :: rest)) : X φ k n w L pc (.ref b :: rest) := by
  obtain ⟨p, l, e, R, s, m, args, below, meth, c, A, Q, nL, g⟩ := φ
  obtain ⟨hx, hb, hml, hown, hts, hK, hA, hRR, hlk, hnm, hnL, hg⟩ := C
  obtain ⟨h1, h2, h3⟩ := (show va_X b Ln xs s s.heap ∧ b < s.heap.size ∧ ¬ A b from hs)
  exact fun H locs ls hP hD hS hll => va_slen hx hb h1 h2 h3 hS d (kk H locs ls hP hD hS hll)
theorem X_b0 {x : Int32} (h : x = 0) (kk : X φ k n w L pc (.int (bI (decide (¬ x = 0))) :: rest)) : X φ k n w L pc (.int 0 :: rest) := by
  rw [decide_eq_false (fun q => q h)] at kk; exact kk
theorem X_b1 {x : Int32} (h : ¬ x = 0) (kk : X φ k n w L pc (.int (bI (decide (¬ x = 0))) :: rest)) : X φ k n w L pc (.int 1 :: rest) := by
  rw [decide_eq_true h] at kk; exact kk
end LWB
theorem wi15y {r c : Nat} (hr : 1 ≤ r ∧ r ≤ 5) (hc : 1 ≤ c ∧ c ≤ 5) : (wiB (nI r) 1 5 && wiB (nI c) 1 5) = true := by
  have : ∀ j, 1 ≤ j ∧ j ≤ 5 → wiB (nI j) 1 5 = true := fun j hj => wi_iff.mpr ⟨nI_le (a := 1) hj.1 (by omega), nI_le (b := 5) hj.2 (by decide)⟩
  exact p_yy (this r hr) (this c hc)
theorem nI_e5 {a b : Nat} (h : nI a = nI b) (ha : a ≤ 5) (hb : b ≤ 5) : a = b := (nI_eq (by omega) (by omega)).mp h
theorem nI_e40 {a b : Nat} (h : nI a = nI b) (ha : a < 4097) (hb : b < 4097) : a = b := (nI_eq (by omega) (by omega)).mp h
