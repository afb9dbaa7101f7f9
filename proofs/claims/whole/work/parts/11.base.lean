/-! words for answers -/
abbrev Rs (v : Option Value) (w : va_W) : Option Value → va_W → Prop := fun v' w' => v' = v ∧ w = w'
def ush (x y : Int32) : Int32 := (x.toUInt32 >>> (y.toUInt32 &&& Int32.toUInt32 31)).toInt32
def lush (x : Int64) (y : Int32) : Int64 := (x.toUInt64 >>> (y.toInt64.toUInt64 &&& Int64.toUInt64 63)).toInt64
def lsh (x : Int64) (y : Int32) : Int64 := x <<< (y.toInt64 &&& 63)
def bI (b : Bool) : Int32 := if b then 1 else 0
theorem bI_01 (b : Bool) : bI b = 0 ∨ bI b = 1 := by cases b <;> simp [bI]
theorem bI_0 {b : Bool} : bI b = 0 ↔ b = false := by cases b <;> simp [bI]
theorem bI_n0 {b : Bool} : ¬ bI b = 0 ↔ b = true := by cases b <;> simp [bI]
theorem bI_1 {b : Bool} : bI b = 1 ↔ b = true := by cases b <;> simp [bI]
/-- least <= x && x <= most -/
def wiB (x a b : Int32) : Bool := decide (a ≤ x ∧ x ≤ b)
theorem wi_iff {x a b : Int32} : wiB x a b = true ↔ a ≤ x ∧ x ≤ b := by simp [wiB]
theorem i_nlt {a b : Int32} : ¬ a < b ↔ b ≤ a := Int32.not_lt
theorem i_nle {a b : Int32} : ¬ a ≤ b ↔ b < a := Int32.not_le
theorem wi_lo {x a b : Int32} (h : x < a) : wiB x a b = false := by simp [wiB, Int32.not_le.mpr h]
theorem wi_hi {x a b : Int32} (h : b < x) : wiB x a b = false := by simp [wiB, Int32.not_le.mpr h]
theorem wi_yes {x a b : Int32} (h1 : ¬ x < a) (h2 : ¬ b < x) : wiB x a b = true := by simp [wiB, Int32.not_lt.mp h1, Int32.not_lt.mp h2]
def hasB (mask m : Int32) : Bool := decide (ush mask m &&& 1 = 1)
/-! cells by their names -/
abbrev aI (g : Gx) (n : Nat) (f : Nat → Int32) : va_E := .inl (gI g, n, .inl f)
abbrev aJ (g : Gx) (n : Nat) (f : Nat → Int64) : va_E := .inl (gJ g, n, .inr (.inl f))
abbrev aZ (g : Gx) (n : Nat) (f : Nat → Int32) : va_E := .inl (gZ g, n, .inl f)
abbrev aS (g : Gx) (n : Nat) (f : Nat → Option Nat) : va_E := .inl (gS g, n, .inr (.inr (.inr (.inr f))))
abbrev aR (g : Gx) (n : Nat) (f : Nat → Option Nat) : va_E := .inl (gR g, n, .inr (.inr (.inr (.inr f))))
abbrev oGrid (r c ce ri dn : Int32) : va_E := .inr (0, [.int r, .int c, .int ce, .int ri, .int dn])
abbrev oPlan (r c o t ap rr rd : Int32) (sl : Nat) : va_E := .inr (1, [.int r, .int c, .int o, .int t, .int ap, .int rr, .int rd, .ref sl])
abbrev oSheet (s : Int32) (a : Nat) : va_E := .inr (2, [.int s, .ref a])
theorem vp_nar_bI (b : Bool) : vp_nar .boolean (bI b) = bI b := by cases b <;> rfl
section LY4
variable {φ : Fx} {g0 : Gx} {y : MethodName} {cc : ByteArray} {nL0 fr lo mc ms k n pc : Nat} {w : va_W} {L : List (Nat × Value)} {rest : List Value}
theorem X_ialdN (C : Cx φ g0 y cc nL0 fr lo mc ms) (q0 : Nat) {a len : Nat} {f : Nat → Int32} {i : Nat} (ha : w[q0]? = some (a, aI g0 len f)) (hi : i < len) (hl : len < 2 ^ 31) (d : decode cc pc = .ok (.iaload, 1)) (kk : X φ k n w L (pc + 1) (.int (f i) :: rest)) : X φ k n w L pc (.int (nI i) :: .ref a :: rest) :=
  X_iald C q0 ha (vp_in_nI hi hl) d (by rw [nI_clamp (Nat.lt_trans hi hl)]; exact kk)
theorem X_zaldN (C : Cx φ g0 y cc nL0 fr lo mc ms) (q0 : Nat) {a len : Nat} {f : Nat → Int32} {i : Nat} (ha : w[q0]? = some (a, aZ g0 len f)) (hi : i < len) (hl : len < 2 ^ 31) (d : decode cc pc = .ok (.baload, 1)) (kk : X φ k n w L (pc + 1) (.int (f i) :: rest)) : X φ k n w L pc (.int (nI i) :: .ref a :: rest) :=
  X_zald C q0 ha (vp_in_nI hi hl) d (by rw [nI_clamp (Nat.lt_trans hi hl)]; exact kk)
theorem X_laldN (C : Cx φ g0 y cc nL0 fr lo mc ms) (q0 : Nat) {a len : Nat} {f : Nat → Int64} {i : Nat} (ha : w[q0]? = some (a, aJ g0 len f)) (hi : i < len) (hl : len < 2 ^ 31) (d : decode cc pc = .ok (.laload, 1)) (kk : X φ k n w L (pc + 1) (.long (f i) :: rest)) : X φ k n w L pc (.int (nI i) :: .ref a :: rest) :=
  X_lald C q0 ha (vp_in_nI hi hl) d (by rw [nI_clamp (Nat.lt_trans hi hl)]; exact kk)
theorem X_iastN (C : Cx φ g0 y cc nL0 fr lo mc ms) (q0 : Nat) {a len : Nat} {f : Nat → Int32} {i : Nat} {x : Int32} {w' : va_W} (ha : w[q0]? = some (a, aI g0 len f)) (hi : i < len) (hl : len < 2 ^ 31) (d : decode cc pc = .ok (.iastore, 1)) (hw : w.set q0 (a, aI g0 len (upd f i x)) = w') (kk : X φ k n w' L (pc + 1) rest) : X φ k n w L pc (.int x :: .int (nI i) :: .ref a :: rest) :=
  X_iast C q0 ha (vp_in_nI hi hl) d (by rw [nI_clamp (Nat.lt_trans hi hl)]; exact hw) kk
theorem X_zastN (C : Cx φ g0 y cc nL0 fr lo mc ms) (q0 : Nat) {a len : Nat} {f : Nat → Int32} {i : Nat} {b : Bool} {w' : va_W} (ha : w[q0]? = some (a, aZ g0 len f)) (hi : i < len) (hl : len < 2 ^ 31) (d : decode cc pc = .ok (.bastore, 1)) (hw : w.set q0 (a, aZ g0 len (upd f i (bI b))) = w') (kk : X φ k n w' L (pc + 1) rest) : X φ k n w L pc (.int (bI b) :: .int (nI i) :: .ref a :: rest) :=
  X_zast C q0 ha (vp_in_nI hi hl) d (by rw [nI_clamp (Nat.lt_trans hi hl), vp_nar_bI]; exact hw) kk
theorem X_lastN (C : Cx φ g0 y cc nL0 fr lo mc ms) (q0 : Nat) {a len : Nat} {f : Nat → Int64} {i : Nat} {x : Int64} {w' : va_W} (ha : w[q0]? = some (a, aJ g0 len f)) (hi : i < len) (hl : len < 2 ^ 31) (d : decode cc pc = .ok (.lastore, 1)) (hw : w.set q0 (a, aJ g0 len (vp_updL f i x)) = w') (kk : X φ k n w' L (pc + 1) rest) : X φ k n w L pc (.long x :: .int (nI i) :: .ref a :: rest) :=
  X_last C q0 ha (vp_in_nI hi hl) d (by rw [nI_clamp (Nat.lt_trans hi hl)]; exact hw) kk
/-- a value by another name -/
theorem X_v {x z : Int32} (h : x = z) (kk : X φ k n w L pc (.int z :: rest)) : X φ k n w L pc (.int x :: rest) := h ▸ kk
theorem X_v2 {x z : Int32} {v : Value} (h : x = z) (kk : X φ k n w L pc (v :: .int z :: rest)) : X φ k n w L pc (v :: .int x :: rest) := h ▸ kk
theorem X_eq {w' : va_W} {L' : List (Nat × Value)} {st st' : List Value} (h1 : w = w') (h2 : L = L') (h3 : st = st') (kk : X φ k n w' L' pc st') : X φ k n w L pc st := by subst h1; subst h2; subst h3; exact kk
end LY4
/-! the answers of the small methods -/
def lineF (fr st : Int32) : Nat → Int32
  | 0 => 0
  | i + 1 => lineF fr st i ||| ((1 : Int32) <<< ((fr + nI i * st) &&& 31))
def wdF (ri dn c r : Int32) : Int32 := r ||| ((r &&& ri) <<< ((1 : Int32) &&& 31)) ||| (ush r 1 &&& ri) ||| ((r &&& dn) <<< (c &&& 31)) ||| (ush r c &&& dn)
def itF (f : Int32 → Int32) : Nat → Int32 → Int32
  | 0, x => x
  | n + 1, x => itF f n (f x)
theorem itF_fix {f : Int32 → Int32} {x : Int32} (h : f x = x) : ∀ n, itF f n x = x
  | 0 => rfl
  | n + 1 => by rw [itF, h]; exact itF_fix h n
def spF (c ce ri dn fr : Int32) : Int32 := itF (wdF ri dn c) 25 (fr &&& ce)
def bcJ (x : Int32) : Int32 :=
  let x1 := x - (ush x 1 &&& 1431655765)
  let x2 := (x1 &&& 858993459) + (ush x1 2 &&& 858993459)
  let x3 := (x2 + ush x2 4) &&& 252645135
  let x4 := x3 + ush x3 8
  let x5 := x4 + ush x4 16
  x5 &&& 63
theorem itF_succ {f : Int32 → Int32} : ∀ (n : Nat) (x : Int32), itF f (n + 1) x = f (itF f n x)
  | 0, _ => rfl
  | n + 1, x => itF_succ n (f x)
theorem itF_add {f : Int32 → Int32} : ∀ (m n : Nat) (x : Int32), itF f (m + n) x = itF f n (itF f m x)
  | 0, n, x => by rw [Nat.zero_add]; rfl
  | m + 1, n, x => by rw [Nat.succ_add]; exact itF_add m n (f x)
theorem itF_stop {f : Int32 → Int32} {i N : Nat} {x : Int32} (h : f (itF f i x) = itF f i x) (hi : i ≤ N) : itF f N x = itF f i x := by
  obtain ⟨j, rfl⟩ := Nat.exists_eq_add_of_le hi
  rw [itF_add, itF_fix h]
theorem nI_sub1 {a : Nat} (h : 1 ≤ a) : nI a - 1 = nI (a - 1) := pk_sub (b := 1) h
def crF (R C : Nat) (ce ri dn way : Int32) : Bool := if way = 0 then decide (¬ (spF (nI C) ce ri dn (lineF 0 (nI C) R) &&& lineF (nI C - 1) (nI C) R) = 0) else decide (¬ (spF (nI C) ce ri dn (lineF 0 1 C) &&& lineF ((nI R - 1) * nI C) 1 C) = 0)
def haF (c ce ri dn x : Int32) : Int32 := spF c ce ri dn ((1 : Int32) <<< (x &&& 31))
def hcF (c ce ri dn : Int32) : Nat → Int32 × Int32
  | 0 => (ce, 0)
  | i + 1 => if hasB (hcF c ce ri dn i).1 (nI i) = true then ((hcF c ce ri dn i).1 &&& (haF c ce ri dn (nI i) ^^^ (-1)), (hcF c ce ri dn i).2 + 1) else hcF c ce ri dn i
theorem hc_y {c ce ri dn : Int32} {i : Nat} (h : hasB (hcF c ce ri dn i).1 (nI i) = true) : hcF c ce ri dn (i + 1) = ((hcF c ce ri dn i).1 &&& (haF c ce ri dn (nI i) ^^^ (-1)), (hcF c ce ri dn i).2 + 1) := by rw [hcF, if_pos h]
theorem hc_n {c ce ri dn : Int32} {i : Nat} (h : hasB (hcF c ce ri dn i).1 (nI i) = false) : hcF c ce ri dn (i + 1) = hcF c ce ri dn i := by rw [hcF, if_neg (by rw [h]; decide)]
def ghF (c ce ri dn : Int32) : Nat → Int32
  | 0 => 0
  | i + 1 => if ghF c ce ri dn i < bcJ (haF c ce ri dn (nI i)) then bcJ (haF c ce ri dn (nI i)) else ghF c ce ri dn i
def lbDc (sr : Int32) (gc r : Nat) (d0 : Int32) : Nat → Int32
  | 0 => d0
  | c + 1 => if hasB sr (nI r * nI gc + nI c) = true then lbDc sr gc r d0 c ||| ((1 : Int32) <<< ((nI r * nI (gc - 1) + nI c) &&& 31)) else lbDc sr gc r d0 c
def lbD (sr : Int32) (gc : Nat) : Nat → Int32
  | 0 => 0
  | r + 1 => lbDc sr gc r (lbD sr gc r) (gc - 1)
def lbRc (sd : Int32) (gc r : Nat) (d0 : Int32) : Nat → Int32
  | 0 => d0
  | c + 1 => if c + 2 < gc ∧ hasB sd (nI r * nI gc + nI c + 1) = true then lbRc sd gc r d0 c ||| ((1 : Int32) <<< (((nI r + 1) * nI (gc - 1) + nI c) &&& 31)) else lbRc sd gc r d0 c
def lbR (sd : Int32) (gc : Nat) : Nat → Int32
  | 0 => 0
  | r + 1 => lbRc sd gc r (lbR sd gc r) (gc - 1)
theorem lbD_y {sr d0 : Int32} {gc r c : Nat} (h : hasB sr (nI r * nI gc + nI c) = true) : lbDc sr gc r d0 (c + 1) = lbDc sr gc r d0 c ||| ((1 : Int32) <<< ((nI r * nI (gc - 1) + nI c) &&& 31)) := by rw [lbDc, if_pos h]
theorem lbD_n {sr d0 : Int32} {gc r c : Nat} (h : hasB sr (nI r * nI gc + nI c) = false) : lbDc sr gc r d0 (c + 1) = lbDc sr gc r d0 c := by rw [lbDc, if_neg (by rw [h]; decide)]
theorem lbR_y {sd d0 : Int32} {gc r c : Nat} (h1 : c + 2 < gc) (h : hasB sd (nI r * nI gc + nI c + 1) = true) : lbRc sd gc r d0 (c + 1) = lbRc sd gc r d0 c ||| ((1 : Int32) <<< (((nI r + 1) * nI (gc - 1) + nI c) &&& 31)) := by rw [lbRc, if_pos ⟨h1, h⟩]
theorem lbR_n {sd d0 : Int32} {gc r c : Nat} (h : hasB sd (nI r * nI gc + nI c + 1) = false) : lbRc sd gc r d0 (c + 1) = lbRc sd gc r d0 c := by rw [lbRc, if_neg (fun q => by rw [h] at q; exact absurd q.2 (by decide))]
theorem lbR_o {sd d0 : Int32} {gc r c : Nat} (h : ¬ c + 2 < gc) : lbRc sd gc r d0 (c + 1) = lbRc sd gc r d0 c := by rw [lbRc, if_neg (fun q => h q.1)]
abbrev oThings (pl ki el nu : Nat) (ch : Int32) (al : Int64) (wa wo : Nat) : va_E := .inr (3, [.ref pl, .ref ki, .ref el, .ref nu, .int ch, .long al, .ref wa, .ref wo])
abbrev oMain (pl th pg ga sh : Nat) (asked : Int64) (fi : Int32) : va_E := .inr (4, [.ref pl, .ref th, .ref pg, .ref ga, .ref sh, .long asked, .int fi])
theorem lw_self {w : va_W} {q : Nat} {x : Nat × va_E} (y : Nat × va_E) (h : w[q]? = some x) : (w.set q y)[q]? = some y := by
  have hl := (List.getElem?_eq_some_iff.mp h).1
  rw [List.getElem?_set_self hl]
theorem lw_id {w : va_W} {q : Nat} {x : Nat × va_E} (h : w[q]? = some x) : w = w.set q x := by
  obtain ⟨hl, e⟩ := List.getElem?_eq_some_iff.mp h
  rw [← e, List.set_getElem_self]
theorem upd2 (f : Nat → Int32) (i : Nat) (x z : Int32) : upd (upd f i x) i z = upd f i z := by funext j; by_cases h : j = i <;> simp [upd, h]
def fiF {α : Type} (f : Nat → α) (x : α) (i : Nat) : Nat → α := fun j => if j < i then x else f j
theorem fiF_0 {α : Type} (f : Nat → α) (x : α) : fiF f x 0 = f := by funext j; simp [fiF]
theorem fiF_s (f : Nat → Int32) (x : Int32) (i : Nat) : upd (fiF f x i) i x = fiF f x (i + 1) := by
  funext j
  by_cases h : j = i
  · subst h; simp [upd, fiF]
  · simp only [upd, fiF, if_neg h]
    by_cases h2 : j < i
    · rw [if_pos h2, if_pos (by omega)]
    · rw [if_neg h2, if_neg (by omega)]
theorem fiF_sL (f : Nat → Int64) (x : Int64) (i : Nat) : vp_updL (fiF f x i) i x = fiF f x (i + 1) := by
  funext j
  by_cases h : j = i
  · subst h; simp [vp_updL, fiF]
  · simp only [vp_updL, fiF, if_neg h]
    by_cases h2 : j < i
    · rw [if_pos h2, if_pos (by omega)]
    · rw [if_neg h2, if_neg (by omega)]
def co2 (C r : Nat) (m0 : Int32) : Nat → Int32
  | 0 => m0
  | c + 1 => co2 C r m0 c ||| ((1 : Int32) <<< ((nI r * nI C + nI c) &&& 31))
def coF (C wd : Nat) : Nat → Int32
  | 0 => 0
  | r + 1 => co2 C r (coF C wd r) wd
def ex2 (m : Int32) (R C r : Nat) (t0 : Int32) : Nat → Int32
  | 0 => t0
  | c + 1 => if hasB m (nI r * nI C + nI c) = true then ex2 m R C r t0 c ||| ((1 : Int32) <<< ((nI c * nI R + nI r) &&& 31)) else ex2 m R C r t0 c
def exF (m : Int32) (R C : Nat) : Nat → Int32
  | 0 => 0
  | r + 1 => ex2 m R C r (exF m R C r) C
theorem ex2_y {m t0 : Int32} {R C r c : Nat} (h : hasB m (nI r * nI C + nI c) = true) : ex2 m R C r t0 (c + 1) = ex2 m R C r t0 c ||| ((1 : Int32) <<< ((nI c * nI R + nI r) &&& 31)) := by rw [ex2, if_pos h]
theorem ex2_n {m t0 : Int32} {R C r c : Nat} (h : hasB m (nI r * nI C + nI c) = false) : ex2 m R C r t0 (c + 1) = ex2 m R C r t0 c := by rw [ex2, if_neg (by rw [h]; decide)]
def adF (mask base : Int32) (s0 : Nat → Int32) (t0 : Nat) : Nat → (Nat → Int32) × Nat
  | 0 => (s0, t0)
  | p + 1 => if hasB mask (nI p) = true ∧ (adF mask base s0 t0 p).2 < 40 then (upd (adF mask base s0 t0 p).1 (adF mask base s0 t0 p).2 (base + nI p), (adF mask base s0 t0 p).2 + 1) else adF mask base s0 t0 p
theorem ad_le {mask base : Int32} {s0 : Nat → Int32} {t0 : Nat} (h : t0 ≤ 40) : ∀ p, (adF mask base s0 t0 p).2 ≤ 40
  | 0 => h
  | p + 1 => by
    have ih := ad_le (mask := mask) (base := base) (s0 := s0) h p
    rw [adF]
    by_cases hc : hasB mask (nI p) = true ∧ (adF mask base s0 t0 p).2 < 40
    · rw [if_pos hc]; exact hc.2
    · rw [if_neg hc]; exact ih
theorem ad_y {mask base : Int32} {s0 : Nat → Int32} {t0 p : Nat} (h : hasB mask (nI p) = true) (h2 : (adF mask base s0 t0 p).2 < 40) : adF mask base s0 t0 (p + 1) = (upd (adF mask base s0 t0 p).1 (adF mask base s0 t0 p).2 (base + nI p), (adF mask base s0 t0 p).2 + 1) := by rw [adF, if_pos ⟨h, h2⟩]
theorem ad_n {mask base : Int32} {s0 : Nat → Int32} {t0 p : Nat} (h : hasB mask (nI p) = false) : adF mask base s0 t0 (p + 1) = adF mask base s0 t0 p := by rw [adF, if_neg (fun q => by rw [h] at q; exact absurd q.1 (by decide))]
theorem ad_o {mask base : Int32} {s0 : Nat → Int32} {t0 p : Nat} (h : ¬ (adF mask base s0 t0 p).2 < 40) : adF mask base s0 t0 (p + 1) = adF mask base s0 t0 p := by rw [adF, if_neg (fun q => h q.2)]
def ctF (kinds : Nat → Int32) : Nat → Nat
  | 0 => 0
  | i + 1 => if kinds i = 2 then ctF kinds i + 1 else ctF kinds i
theorem ct_le (kinds : Nat → Int32) : ∀ i, ctF kinds i ≤ i
  | 0 => Nat.le_refl 0
  | i + 1 => by
    have := ct_le kinds i
    rw [ctF]; split <;> omega
theorem ct_y {kinds : Nat → Int32} {i : Nat} (h : kinds i = 2) : ctF kinds (i + 1) = ctF kinds i + 1 := by rw [ctF, if_pos h]
theorem ct_n {kinds : Nat → Int32} {i : Nat} (h : ¬ kinds i = 2) : ctF kinds (i + 1) = ctF kinds i := by rw [ctF, if_neg h]
def nuF (kinds s0 : Nat → Int32) : Nat → Nat → Int32
  | 0 => s0
  | i + 1 => upd (nuF kinds s0 i) i (if kinds i = 2 then nI (ctF kinds i) else (-9))
theorem nu_y {kinds s0 : Nat → Int32} {i : Nat} (h : kinds i = 2) : upd (upd (nuF kinds s0 i) i (-9)) i (nI (ctF kinds i)) = nuF kinds s0 (i + 1) := by rw [nuF, if_pos h, upd2]
theorem nu_n {kinds s0 : Nat → Int32} {i : Nat} (h : ¬ kinds i = 2) : upd (nuF kinds s0 i) i (-9) = nuF kinds s0 (i + 1) := by rw [nuF, if_neg h]
def s1A (kinds : Nat → Int32) (t : Nat) (sl al : Int64) : Int64 := if kinds t = 1 then al ||| sl else al
def s1W (kinds elders numbers : Nat → Int32) (t : Nat) (sl : Int64) (wa : Nat → Int64) : Nat → Int64 := if kinds t = 2 then vp_updL wa (numbers t).toNatClampNeg (wa (numbers t).toNatClampNeg ||| sl) else if kinds t = 3 then vp_updL wa (numbers (elders t).toNatClampNeg).toNatClampNeg (wa (numbers (elders t).toNatClampNeg).toNatClampNeg ||| sl) else wa
def s1O (kinds elders numbers : Nat → Int32) (t : Nat) (sl : Int64) (wo : Nat → Int64) : Nat → Int64 := if kinds t = 4 then vp_updL wo (numbers (elders t).toNatClampNeg).toNatClampNeg (wo (numbers (elders t).toNatClampNeg).toNatClampNeg ||| sl) else wo
def seA (kinds slots : Nat → Int32) : Nat → Int64
  | 0 => 0
  | i + 1 => s1A kinds i (lsh 1 (slots i)) (seA kinds slots i)
def seW (kinds elders numbers slots : Nat → Int32) (f : Nat → Int64) : Nat → Nat → Int64
  | 0 => f
  | i + 1 => s1W kinds elders numbers i (lsh 1 (slots i)) (seW kinds elders numbers slots f i)
def seO (kinds elders numbers slots : Nat → Int32) (f : Nat → Int64) : Nat → Nat → Int64
  | 0 => f
  | i + 1 => s1O kinds elders numbers i (lsh 1 (slots i)) (seO kinds elders numbers slots f i)
/-- a thing is of a kind, and where its number stands is told -/
def tOK (kinds elders numbers : Nat → Int32) (t : Nat) : Prop := kinds t = 0 ∨ kinds t = 1 ∨ (kinds t = 2 ∧ ∃ j, j < 12 ∧ numbers t = nI j) ∨ (kinds t = 3 ∧ ∃ e, e < 40 ∧ elders t = nI e ∧ ∃ j, j < 12 ∧ numbers e = nI j) ∨ (kinds t = 4 ∧ ∃ e, e < 40 ∧ elders t = nI e ∧ ∃ j, j < 12 ∧ numbers e = nI j)
def opF (al : Int64) (wa wo : Nat → Int64) (se : Int32) : Nat → Int64
  | 0 => al
  | i + 1 => opF al wa wo se i ||| (if hasB se (nI i) = true then wa i else wo i)
theorem op_y {al : Int64} {wa wo : Nat → Int64} {se : Int32} {i : Nat} (h : hasB se (nI i) = true) : opF al wa wo se (i + 1) = opF al wa wo se i ||| wa i := by rw [opF, if_pos h]
theorem op_n {al : Int64} {wa wo : Nat → Int64} {se : Int32} {i : Nat} (h : hasB se (nI i) = false) : opF al wa wo se (i + 1) = opF al wa wo se i ||| wo i := by rw [opF, if_neg (by rw [h]; decide)]
/-- some one has this elder -/
def ieB (elders : Nat → Int32) (x : Int32) : Nat → Bool
  | 0 => false
  | i + 1 => ieB elders x i || decide (elders i = x)
def yoF (elders : Nat → Int32) : Nat → Int32
  | 0 => 0
  | i + 1 => if elders i = -9 then yoF elders i else yoF elders i + 1
theorem ie_yes {elders : Nat → Int32} {x : Int32} {i : Nat} : ∀ {T : Nat}, i < T → elders i = x → ieB elders x T = true
  | 0, h, _ => absurd h (Nat.not_lt_zero i)
  | T + 1, h, e => by
    rw [ieB]
    rcases Nat.lt_or_ge i T with q | q
    · rw [ie_yes q e]; rfl
    · have : i = T := by omega
      subst this
      rw [decide_eq_true e]; simp
def plF (R C : Nat) (op : Bool) (slots : Nat → Int32) : (Nat → Int32) × Nat := if op = true then adF (coF C C R) 0 slots 0 25 else adF (coF C C (R - 1)) 32 (adF (coF C (C - 1) R) 0 slots 0 25).1 (adF (coF C (C - 1) R) 0 slots 0 25).2 25
theorem plF_t {R C : Nat} {op : Bool} {slots : Nat → Int32} (h : op = true) : plF R C op slots = adF (coF C C R) 0 slots 0 25 := by rw [plF, if_pos h]
theorem plF_f {R C : Nat} {op : Bool} {slots : Nat → Int32} (h : op = false) : plF R C op slots = adF (coF C C (R - 1)) 32 (adF (coF C (C - 1) R) 0 slots 0 25).1 (adF (coF C (C - 1) R) 0 slots 0 25).2 25 := by rw [plF, if_neg (by rw [h]; decide)]
theorem pl_le {R C : Nat} {op : Bool} {slots : Nat → Int32} : (plF R C op slots).2 ≤ 40 := by
  cases op
  · rw [plF_f rfl]; exact ad_le (ad_le (Nat.zero_le _) _) _
  · rw [plF_t rfl]; exact ad_le (Nat.zero_le _) _
