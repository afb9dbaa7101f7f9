/-! bits -/
def tb (x : Int32) (i : Nat) : Bool := x.toBitVec.getLsbD i
def tl (x : Int64) (i : Nat) : Bool := x.toBitVec.getLsbD i
theorem tb_or (x y : Int32) (i : Nat) : tb (x ||| y) i = (tb x i || tb y i) := by simp [tb]
theorem tb_and (x y : Int32) (i : Nat) : tb (x &&& y) i = (tb x i && tb y i) := by simp [tb]
theorem tb_xor (x y : Int32) (i : Nat) : tb (x ^^^ y) i = (tb x i ^^ tb y i) := by simp [tb]
theorem tl_or (x y : Int64) (i : Nat) : tl (x ||| y) i = (tl x i || tl y i) := by simp [tl]
theorem tb_0 (i : Nat) : tb 0 i = false := by simp [tb]
theorem tl_0 (i : Nat) : tl 0 i = false := by simp [tl]
theorem tb_big {x : Int32} {i : Nat} (h : 32 ≤ i) : tb x i = false := BitVec.getLsbD_of_ge _ _ h
theorem tb_ext {x y : Int32} (h : ∀ i, i < 32 → tb x i = tb y i) : x = y := by
  apply Int32.toBitVec_inj.mp
  exact BitVec.eq_of_getLsbD_eq h
theorem tb_m1 : ∀ i, i < 32 → tb (-1) i = true := by decide +kernel
theorem tb_shl (n : Nat) (hn : n < 32) (x : Int32) (i : Nat) : tb (x <<< (nI n &&& 31)) i = (decide (n ≤ i) && (decide (i < 32) && tb x (i - n))) := by
  unfold tb
  rw [Int32.toBitVec_shiftLeft, BitVec.shiftLeft_eq', sm32 n hn, BitVec.getLsbD_shiftLeft]
  by_cases h1 : n ≤ i
  · by_cases h2 : i < 32
    · simp [h1, h2, Nat.not_lt.mpr h1]
    · simp [h2]
  · simp [h1, Nat.lt_of_not_le h1]
theorem su32 : ∀ n, n < 32 → (((nI n).toUInt32 &&& Int32.toUInt32 31).toBitVec % 32).toNat = n := by decide +kernel
theorem tb_ush (n : Nat) (hn : n < 32) (x : Int32) (i : Nat) : tb (ush x (nI n)) i = tb x (n + i) := by
  have h : (ush x (nI n)).toBitVec.toNat = x.toBitVec.toNat / 2 ^ n := pk_ushr x (nI n) n (su32 n hn)
  unfold tb
  rw [← BitVec.testBit_toNat, h, ← BitVec.testBit_toNat, Nat.testBit_div_two_pow, Nat.add_comm]
theorem tb_one : ∀ i, i < 32 → tb 1 i = decide (i = 0) := by decide +kernel
theorem tb_1 (i : Nat) : tb 1 i = decide (i = 0) := by
  rcases Nat.lt_or_ge i 32 with h | h
  · exact tb_one i h
  · rw [tb_big h, decide_eq_false (by omega)]
theorem tb_bit (n : Nat) (hn : n < 32) (i : Nat) : tb ((1 : Int32) <<< (nI n &&& 31)) i = decide (i = n) := by
  rw [tb_shl n hn, tb_1]
  by_cases h : i = n
  · subst h; simp [hn]
  · rw [decide_eq_false h]
    by_cases h1 : n ≤ i
    · rw [decide_eq_false (show ¬ i - n = 0 by omega)]; simp
    · rw [decide_eq_false h1]; rfl
theorem has_tb (x : Int32) {p : Nat} (hp : p < 32) : hasB x (nI p) = tb x p := by
  have h0 : ∀ i, tb (ush x (nI p) &&& 1) i = (tb x (p + i) && decide (i = 0)) := fun i => by rw [tb_and, tb_ush p hp, tb_1]
  rw [Bool.eq_iff_iff]
  unfold hasB
  rw [decide_eq_true_iff]
  constructor
  · intro h
    have := h0 0
    rw [h] at this
    simpa [tb_1] using this.symm
  · intro h
    refine tb_ext (fun i _ => ?_)
    rw [h0, tb_1]
    by_cases e : i = 0
    · subst e; simp [h]
    · simp [e]
theorem nI_tn {n : Nat} (h : n < 2 ^ 32) : (nI n).toBitVec.toNat = n := pk_tn h
theorem tb_nI {n : Nat} (h : n < 2 ^ 32) (i : Nat) : tb (nI n) i = n.testBit i := by
  unfold tb; rw [← BitVec.testBit_toNat, nI_tn h]
/-- every int is some nI -/
theorem nI_all (x : Int32) : ∃ n, n < 2 ^ 32 ∧ x = nI n := ⟨x.toBitVec.toNat, x.toBitVec.isLt, by
  apply Int32.toBitVec_inj.mp
  apply BitVec.eq_of_toNat_eq
  rw [nI_tn x.toBitVec.isLt]⟩
theorem sm64 : ∀ n, n < 64 → ((nI n).toInt64 &&& 63).toBitVec.smod 64 = BitVec.ofNat 64 n := by decide +kernel
theorem su64 : ∀ n, n < 64 → ((nI n).toInt64.toUInt64 &&& Int64.toUInt64 63) = UInt64.ofNat n := by decide +kernel
