/-! words for the model -/
abbrev oModel (tn stt : Int32) (tr : Int64) (r c o : Int32) (ki el to io wy : Nat) (hw : Int32) (me hs so sr rs ce cp : Nat) : va_E := .inr (5, [.int tn, .int stt, .long tr, .int r, .int c, .int o, .ref ki, .ref el, .ref to, .ref io, .ref wy, .int hw, .ref me, .ref hs, .ref so, .ref sr, .ref rs, .ref ce, .ref cp])
def rdM (R C : Nat) : Nat := R * (C - 1) + (R - 1) * C
def thM (R C : Nat) (op : Bool) : Nat := if op = true then R * C else rdM R C
theorem mul5 {a b x z : Nat} (h1 : a ≤ x) (h2 : b ≤ z) : a * b ≤ x * z := Nat.mul_le_mul h1 h2
theorem pl_M {R C : Nat} (hR : 1 ≤ R ∧ R ≤ 5) (hC : 1 ≤ C ∧ C ≤ 5) : R * C ≤ 25 := mul5 hR.2 hC.2
theorem rd_M {R C : Nat} (hR : 1 ≤ R ∧ R ≤ 5) (hC : 1 ≤ C ∧ C ≤ 5) : R * (C - 1) ≤ 20 ∧ (R - 1) * C ≤ 20 ∧ rdM R C ≤ 40 := by
  have h1 : R * (C - 1) ≤ 5 * 4 := mul5 hR.2 (by omega)
  have h2 : (R - 1) * C ≤ 4 * 5 := mul5 (by omega) hC.2
  exact ⟨h1, h2, by unfold rdM; omega⟩
theorem th_M {R C : Nat} {op : Bool} (hR : 1 ≤ R ∧ R ≤ 5) (hC : 1 ≤ C ∧ C ≤ 5) : thM R C op ≤ 40 := by
  have h1 := pl_M hR hC
  have h2 := rd_M hR hC
  unfold thM; split <;> omega
def enM (R C t : Nat) (b : Bool) : Nat := if t < R * (C - 1) then (if b = true then t / (C - 1) * C + t % (C - 1) + 1 else t / (C - 1) * C + t % (C - 1)) else (if b = true then t - R * (C - 1) + C else t - R * (C - 1))
theorem bI_or (a b : Bool) : bI a ||| bI b = bI (a || b) := by cases a <;> cases b <;> decide
theorem ct_s (kinds : Nat → Int32) (i : Nat) : nI (ctF kinds i) + (if kinds i = 2 then 1 else 0) = nI (ctF kinds (i + 1)) := by
  by_cases h : kinds i = 2
  · rw [if_pos h, ct_y h, nI_1]
  · rw [if_neg h, ct_n h]; exact Int32.add_zero _
/-- whether a thing opens, as the model says it -/
def bitM (se : Int32) (n : Nat) : Int32 := (se >>> (nI n &&& 31)) &&& 1
def obM (kinds elders : Nat → Int32) (t : Nat) (se : Int32) : Bool := if kinds t = 0 then false else if kinds t = 1 then true else if kinds t = 2 then decide (bitM se (ctF kinds t) = 1) else if kinds t = 3 then decide (bitM se (ctF kinds (elders t).toNatClampNeg) = 1) else decide (bitM se (ctF kinds (elders t).toNatClampNeg) = 0)
/-- what the model's opensBy needs -/
def oOK (kinds elders : Nat → Int32) (t : Nat) : Prop := kinds t = 0 ∨ kinds t = 1 ∨ kinds t = 2 ∨ ((kinds t = 3 ∨ kinds t = 4) ∧ ∃ e, e < 40 ∧ elders t = nI e)
theorem KI.ook {T : Nat} {kinds elders : Nat → Int32} (h : KI T kinds elders) (hT : T ≤ 40) {t : Nat} (ht : t < T) : oOK kinds elders t := by
  rcases h.1 t ht with q | q | q | ⟨q, e, he, q2, -⟩
  · exact Or.inl q.1
  · exact Or.inr (Or.inl q.1)
  · exact Or.inr (Or.inr (Or.inl q.1))
  · exact Or.inr (Or.inr (Or.inr ⟨q, e, by omega, q2⟩))
def trM (k : Int32) : Int64 := if k = 0 then 1 else if k = 1 then 11 else if k = 2 then 111 else if k = 3 then 1111 else 11111
def twM (kinds : Nat → Int32) : Nat → Int32
  | 0 => 0
  | i + 1 => twM kinds i + (if kinds i < 3 then 0 else 1)
theorem tw_y {kinds : Nat → Int32} {i : Nat} (h : ¬ kinds i < 3) : twM kinds (i + 1) = twM kinds i + 1 := by rw [twM, if_neg h]
theorem tw_n {kinds : Nat → Int32} {i : Nat} (h : kinds i < 3) : twM kinds (i + 1) = twM kinds i + 0 := by rw [twM, if_pos h]
def abM (R C : Nat) (op : Bool) (kinds elders : Nat → Int32) (x what : Int32) : Int32 := if (wiB x 0 (nI (thM R C op) - 1) && wiB what 0 4) = false then (-1) else if what = 0 then kinds x.toNatClampNeg else if what = 1 then elders x.toNatClampNeg else if what = 2 then (if kinds x.toNatClampNeg = 2 then nI (ctF kinds x.toNatClampNeg) else (-9)) else if what = 3 then (if op = true then x else nI (enM R C x.toNatClampNeg false)) else (if op = true then x else nI (enM R C x.toNatClampNeg true))
def toM (R C : Nat) (op : Bool) (kinds : Nat → Int32) (what : Int32) : Int32 := if what = 0 then nI R else if what = 1 then nI C else if what = 2 then bI op else if what = 3 then nI (thM R C op) else if what = 4 then nI (ctF kinds (thM R C op)) else if what = 5 then twM kinds (thM R C op) else (-1)
def bsM (x : Int32) : Nat → Int32
  | 0 => 0
  | i + 1 => bsM x i + bitM x i
theorem nI_divmod {t C : Nat} (hC : 1 ≤ C) (h : 0 < C - 1) (ht : t < 1000) (hC2 : C < 1000) : nI t / nI (C - 1) * nI C + (nI t - nI t / nI (C - 1) * nI (C - 1)) = nI (t / (C - 1) * C + t % (C - 1)) := by
  rw [pk_rem (by omega) h (by omega), pk_div (by omega) h (by omega), pk_mul, nI_add]
theorem nI_ne {n : Nat} (h : 0 < n) (h2 : n < 1000) : ¬ nI n = 0 := nI_ne0 h (by omega)
theorem shl_ct {kinds : Nat → Int32} {T : Nat} (h : ctF kinds T ≤ 12) : (1 : Int32) <<< (nI (ctF kinds T) &&& 31) = nI (2 ^ ctF kinds T) := shl_m _ h
theorem th_t {R C : Nat} {op : Bool} (h : op = true) : thM R C op = R * C := by rw [thM, if_pos h]
theorem th_f {R C : Nat} {op : Bool} (h : op = false) : thM R C op = rdM R C := by rw [thM, if_neg (by rw [h]; decide)]
theorem nI_4096 {j n : Nat} (h : j < n) (hn : n ≤ 4096) : j < 4096 := by omega
