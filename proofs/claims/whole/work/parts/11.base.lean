/-! words for answers -/
abbrev Rs (v : Option Value) (w : va_W) : Option Value → va_W → Prop := fun v' w' => v' = v ∧ w = w'
def ush (x y : Int32) : Int32 := (x.toUInt32 >>> (y.toUInt32 &&& Int32.toUInt32 31)).toInt32
def lush (x : Int64) (y : Int32) : Int64 := (x.toUInt64 >>> (y.toInt64.toUInt64 &&& Int64.toUInt64 63)).toInt64
def lsh (x : Int64) (y : Int32) : Int64 := x <<< (y.toInt64 &&& 63)
def bI (b : Bool) : Int32 := if b then 1 else 0
theorem bI_01 (b : Bool) : bI b = 0 ∨ bI b = 1 := by cases b <;> simp [bI]
theorem bI_0 {b : Bool} : bI b = 0 ↔ b = false := by cases b <;> simp [bI]
theorem bI_n0 {b : Bool} : ¬ bI b = 0 ↔ b = true := by cases b <;> simp [bI]
theorem bI_1 {b : Bool} : bI b = 1 ↔ b = true := by cases b <;> simp [bI]
/-- least <= x && x <= most -/
def wiB (x a b : Int32) : Bool := decide (a ≤ x ∧ x ≤ b)
theorem wi_iff {x a b : Int32} : wiB x a b = true ↔ a ≤ x ∧ x ≤ b := by simp [wiB]
theorem i_nlt {a b : Int32} : ¬ a < b ↔ b ≤ a := Int32.not_lt
theorem i_nle {a b : Int32} : ¬ a ≤ b ↔ b < a := Int32.not_le
theorem wi_lo {x a b : Int32} (h : x < a) : wiB x a b = false := by simp [wiB, Int32.not_le.mpr h]
theorem wi_hi {x a b : Int32} (h : b < x) : wiB x a b = false := by simp [wiB, Int32.not_le.mpr h]
theorem wi_yes {x a b : Int32} (h1 : ¬ x < a) (h2 : ¬ b < x) : wiB x a b = true := by simp [wiB, Int32.not_lt.mp h1, Int32.not_lt.mp h2]
def hasB (mask m : Int32) : Bool := decide (ush mask m &&& 1 = 1)
