/-! words for the model, 4: answers of the settings -/
theorem no_if {α : Type} {b : Bool} {x z : α} (h : b = false) : (if b = true then x else z) = z := if_neg (by rw [h]; decide)
theorem yes_if {α : Type} {b : Bool} {x z : α} (h : b = true) : (if b = true then x else z) = x := if_pos h
theorem wy_yy {b0 b1 : Bool} (h : ¬ bI b0 = 0) (h2 : ¬ bI b1 = 0) : (1 : Int32) + 2 = wyV b0 b1 := by rw [bI_n0.mp h, bI_n0.mp h2]; rfl
theorem wy_yn {b0 b1 : Bool} (h : ¬ bI b0 = 0) (h2 : bI b1 = 0) : (1 : Int32) + 0 = wyV b0 b1 := by rw [bI_n0.mp h, bI_0.mp h2]; rfl
theorem wy_ny {b0 b1 : Bool} (h : bI b0 = 0) (h2 : ¬ bI b1 = 0) : (0 : Int32) + 2 = wyV b0 b1 := by rw [bI_0.mp h, bI_n0.mp h2]; rfl
theorem wy_nn {b0 b1 : Bool} (h : bI b0 = 0) (h2 : bI b1 = 0) : (0 : Int32) + 0 = wyV b0 b1 := by rw [bI_0.mp h, bI_0.mp h2]; rfl
theorem ir_0y {b0 b1 : Bool} {way : Int32} (h : way = 0) (h2 : wyV b0 b1 - wyV b0 b1 / 2 * 2 = 1) : some (Value.int 1) = some (Value.int (bI (isB b0 b1 way))) := by
  rw [h, is_0]; revert h2; cases b0 <;> cases b1 <;> decide
theorem ir_0n {b0 b1 : Bool} {way : Int32} (h : way = 0) (h2 : ¬ wyV b0 b1 - wyV b0 b1 / 2 * 2 = 1) : some (Value.int 0) = some (Value.int (bI (isB b0 b1 way))) := by
  rw [h, is_0]; revert h2; cases b0 <;> cases b1 <;> decide
theorem ir_1y {b0 b1 : Bool} {way : Int32} (h : way = 1) (h2 : ¬ wyV b0 b1 ≤ 1) : some (Value.int 1) = some (Value.int (bI (isB b0 b1 way))) := by
  rw [h, is_1]; revert h2; cases b0 <;> cases b1 <;> decide
theorem ir_1n {b0 b1 : Bool} {way : Int32} (h : way = 1) (h2 : wyV b0 b1 ≤ 1) : some (Value.int 0) = some (Value.int (bI (isB b0 b1 way))) := by
  rw [h, is_1]; revert h2; cases b0 <;> cases b1 <;> decide
theorem ir_2y {b0 b1 : Bool} {way : Int32} (h : ¬ way = 0) (h1 : ¬ way = 1) (h3 : way = 2) (h2 : wyV b0 b1 = 3) : some (Value.int 1) = some (Value.int (bI (isB b0 b1 way))) := by
  rw [is_2 h h1 h3]; revert h2; cases b0 <;> cases b1 <;> decide
theorem ir_2n {b0 b1 : Bool} {way : Int32} (h : ¬ way = 0) (h1 : ¬ way = 1) (h3 : way = 2) (h2 : ¬ wyV b0 b1 = 3) : some (Value.int 0) = some (Value.int (bI (isB b0 b1 way))) := by
  rw [is_2 h h1 h3]; revert h2; cases b0 <;> cases b1 <;> decide
theorem ir_3y {b0 b1 : Bool} {way : Int32} (h : ¬ way = 0) (h1 : ¬ way = 1) (h3 : ¬ way = 2) (h2 : ¬ wyV b0 b1 ≤ 0) : some (Value.int 1) = some (Value.int (bI (isB b0 b1 way))) := by
  rw [is_3 h h1 h3]; revert h2; cases b0 <;> cases b1 <;> decide
theorem ir_3n {b0 b1 : Bool} {way : Int32} (h : ¬ way = 0) (h1 : ¬ way = 1) (h3 : ¬ way = 2) (h2 : wyV b0 b1 ≤ 0) : some (Value.int 0) = some (Value.int (bI (isB b0 b1 way))) := by
  rw [is_3 h h1 h3]; revert h2; cases b0 <;> cases b1 <;> decide
theorem cn_n0 {p : Nat → Bool} {i : Nat} (h : p i = false) : cnI p (i + 1) = cnI p i + 0 := by rw [← cn_n h, Int32.add_zero]
theorem cn_y1 {p : Nat → Bool} {i : Nat} (h : p i = true) : cnI p (i + 1) = cnI p i + 1 := (cn_y h).symm
def wsM (R C : Nat) (op : Bool) (kinds elders : Nat → Int32) (way k : Int32) (s : Nat) : Bool := decide (bsM (nI s) 12 = k) && isM R C op kinds elders s way
def szQ (hf : Nat → Int32) (h : Int32) (p : Nat) : Bool := decide (¬ h = -9 ∧ hf p = h)
def szN (hf : Nat → Int32) (P : Nat) (h : Int32) : Int32 := cnI (szQ hf h) P
def hcQ (hf : Nat → Int32) (p : Nat) : Bool := decide (hf p = nI p)
def msN (hf : Nat → Int32) (P : Nat) : Nat → Int32
  | 0 => 0
  | p + 1 => if szN hf P (hf p) ≤ msN hf P p then msN hf P p else szN hf P (hf p)
def thVM (R C : Nat) (op : Bool) (kinds elders : Nat → Int32) (se way : Int32) : Int32 := if (wiB se 0 (nI (2 ^ ctF kinds (thM R C op)) - 1) && wiB way 0 1) = true then bI (isM R C op kinds elders se.toNatClampNeg way) else (-1)
def hpVM (R C : Nat) (op : Bool) (kinds elders : Nat → Int32) (se x : Int32) : Int32 := if (wiB se 0 (nI (2 ^ ctF kinds (thM R C op)) - 1) && wiB x 0 (nI (R * C) - 1)) = true then hM R C op kinds elders se x.toNatClampNeg else (-1)
def hsVM (R C : Nat) (op : Bool) (kinds elders : Nat → Int32) (se what : Int32) : Int32 := if (wiB se 0 (nI (2 ^ ctF kinds (thM R C op)) - 1) && wiB what 0 1) = true then (if what = 0 then cnI (hcQ (hM R C op kinds elders se)) (R * C) else msN (hM R C op kinds elders se) (R * C) (R * C)) else (-1)
def coVM (R C : Nat) (op : Bool) (kinds elders : Nat → Int32) (way k : Int32) : Int32 := if (wiB way 0 3 && wiB k 0 (nI (ctF kinds (thM R C op)))) = true then cnI (wsM R C op kinds elders way k) (2 ^ ctF kinds (thM R C op)) else (-1)
def joM (R C : Nat) (op : Bool) (kinds elders : Nat → Int32) (a b : Nat) (k : Int32) (s : Nat) : Bool := decide (bsM (nI s) 12 = k) && eqH (hM R C op kinds elders (nI s)) a b
def joVM (R C : Nat) (op : Bool) (kinds elders : Nat → Int32) (a b k : Int32) : Int32 := if (wiB a 0 (nI (R * C) - 1) && (wiB b 0 (nI (R * C) - 1) && wiB k 0 (nI (ctF kinds (thM R C op))))) = true then cnI (joM R C op kinds elders a.toNatClampNeg b.toNatClampNeg k) (2 ^ ctF kinds (thM R C op)) else (-1)
def szM (R C : Nat) (op : Bool) (kinds elders : Nat → Int32) (x : Nat) (n k : Int32) (s : Nat) : Bool := decide (bsM (nI s) 12 = k) && decide (szN (hM R C op kinds elders (nI s)) (R * C) (hM R C op kinds elders (nI s) x) = n)
def szVM (R C : Nat) (op : Bool) (kinds elders : Nat → Int32) (x n k : Int32) : Int32 := if (wiB x 0 (nI (R * C) - 1) && (wiB n 0 25 && wiB k 0 (nI (ctF kinds (thM R C op))))) = true then cnI (szM R C op kinds elders x.toNatClampNeg n k) (2 ^ ctF kinds (thM R C op)) else (-1)
def hmVM (R C : Nat) (op : Bool) (kinds elders : Nat → Int32) (k : Int32) : Int32 := if wiB k 0 (nI (ctF kinds (thM R C op))) = true then smI (fun s => decide (bsM (nI s) 12 = k)) (fun s => cnI (hcQ (hM R C op kinds elders (nI s))) (R * C)) (2 ^ ctF kinds (thM R C op)) else (-1)
def mvF (v0 : Int64) (p q : Int32) (k : Nat) : Nat → Int64
  | 0 => v0
  | i + 1 => mvF v0 p q k i * (if i < k then p.toInt64 else (q - p).toInt64)
def chM (w : Nat → Int32) (p q : Int32) (m : Nat) : Nat → Int64
  | 0 => 0
  | k + 1 => chM w p q m k + mvF (w k).toInt64 p q k m
def cvVM (R C : Nat) (op : Bool) (kinds elders : Nat → Int32) (way p q : Int32) : Int64 := if (wiB way 0 3 && (wiB q 1 9 && wiB p 0 q)) = true then chM (fun k => cnI (wsM R C op kinds elders way (nI k)) (2 ^ ctF kinds (thM R C op))) p q (ctF kinds (thM R C op)) (ctF kinds (thM R C op) + 1) else (-1)
def frRM (R C : Nat) (op : Bool) (kinds elders : Nat → Int32) (way k r : Int32) : Prop := ((wiB way 0 3 && wiB k 0 (nI (ctF kinds (thM R C op)))) = false ∧ r = -1) ∨ ((wiB way 0 3 && wiB k 0 (nI (ctF kinds (thM R C op)))) = true ∧ FirstIs (wsM R C op kinds elders way k) (2 ^ ctF kinds (thM R C op)) r)
section MQ
variable {R C : Nat} {op : Bool} {kinds elders : Nat → Int32} {way k : Int32} {s : Nat}
theorem wm_n1 (h : ¬ bsM (nI s) 12 = k) : wsM R C op kinds elders way k s = false := by rw [wsM, decide_eq_false h]; rfl
theorem wm_n2 (h : bI (isM R C op kinds elders s way) = 0) : wsM R C op kinds elders way k s = false := by rw [wsM, bI_0.mp h, Bool.and_false]
theorem wm_y (h : bsM (nI s) 12 = k) (h2 : ¬ bI (isM R C op kinds elders s way) = 0) : wsM R C op kinds elders way k s = true := by rw [wsM, bI_n0.mp h2, decide_eq_true h]; rfl
end MQ
theorem sz_n1 {hf : Nat → Int32} {h : Int32} {p : Nat} (e : h = -9) : szQ hf h p = false := decide_eq_false (fun q => q.1 e)
theorem sz_n2 {hf : Nat → Int32} {h : Int32} {p : Nat} (e : ¬ hf p = h) : szQ hf h p = false := decide_eq_false (fun q => e q.2)
theorem sz_y {hf : Nat → Int32} {h : Int32} {p : Nat} (e : ¬ h = -9) (e2 : hf p = h) : szQ hf h p = true := decide_eq_true ⟨e, e2⟩
theorem and_n1 {x k : Int32} {q : Bool} (h : ¬ x = k) : (decide (x = k) && q) = false := by rw [decide_eq_false h]; rfl
theorem and_n2 {x k : Int32} {q : Bool} (h : q = false) : (decide (x = k) && q) = false := by rw [h, Bool.and_false]
theorem and_yy {x k : Int32} {q : Bool} (h : x = k) (h2 : q = true) : (decide (x = k) && q) = true := by rw [decide_eq_true h, h2]; rfl
theorem nlt_nat {a b : Nat} (h : ¬ nI b ≤ nI a) (ha : a < 2 ^ 31) (hb : b < 2 ^ 31) : a < b := Nat.lt_of_not_le (fun q => h ((nI_leI hb ha).mpr q))
