/-! counting bits -/
theorem and_split {i a a' b b' : Nat} (hb : b < 2 ^ i) (hb' : b' < 2 ^ i) : (2 ^ i * a + b) &&& (2 ^ i * a' + b') = 2 ^ i * (a &&& a') + (b &&& b') := by
  refine Nat.eq_of_testBit_eq (fun j => ?_)
  have h3 : b &&& b' < 2 ^ i := Nat.lt_of_le_of_lt Nat.and_le_left hb
  rw [Nat.testBit_and, Nat.testBit_two_pow_mul_add _ hb, Nat.testBit_two_pow_mul_add _ hb', Nat.testBit_two_pow_mul_add _ h3]
  split <;> rw [Nat.testBit_and]
theorem nI_and (a b : Nat) (ha : a < 2 ^ 32) (hb : b < 2 ^ 32) : nI a &&& nI b = nI (a &&& b) := by
  refine tb_ext (fun i _ => ?_)
  rw [tb_and, tb_nI ha, tb_nI hb, tb_nI (Nat.lt_of_le_of_lt Nat.and_le_left ha), Nat.testBit_and]
theorem ush_nI {n k : Nat} (hn : n < 2 ^ 32) (hk : k < 32) : ush (nI n) (nI k) = nI (n / 2 ^ k) := pk_ushrN hn (nI k) k (su32 k hk)
/-- the steps, over bytes -/
def p1 (n M : Nat) : Nat := n - ((n / 2) &&& M)
def p2 (n M : Nat) : Nat := (n &&& M) + ((n / 4) &&& M)
def p3 (n M : Nat) : Nat := (n + n / 16) &&& M
def pB (n : Nat) : Nat := p3 (p2 (p1 n 0x55) 0x33) 0x0f
def pcB (n : Nat) : Nat := cB (fun i => n.testBit i) 8
set_option maxRecDepth 20000 in
theorem byte1 : ∀ (n : Fin 256), ((n.val / 2 + 128) &&& 0x55) = ((n.val / 2) &&& 0x55) ∧ p1 n.val 0x55 < 256 ∧ (n.val / 2 &&& 0x55) ≤ n.val ∧ p1 n.val 0x55 &&& 0x33 < 64 ∧ pB n.val = pcB n.val := by decide +kernel
