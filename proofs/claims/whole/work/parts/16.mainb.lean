/-! words for OpenGrounds -/
theorem shl_m : ∀ m, m ≤ 12 → (1 : Int32) <<< (nI m &&& 31) = nI (2 ^ m) := by
  intro m hm
  rcases (show m = 0 ∨ m = 1 ∨ m = 2 ∨ m = 3 ∨ m = 4 ∨ m = 5 ∨ m = 6 ∨ m = 7 ∨ m = 8 ∨ m = 9 ∨ m = 10 ∨ m = 11 ∨ m = 12 by omega) with rfl | rfl | rfl | rfl | rfl | rfl | rfl | rfl | rfl | rfl | rfl | rfl | rfl <;> decide +kernel
theorem pow_m {m : Nat} (h : m ≤ 12) : 1 ≤ 2 ^ m ∧ 2 ^ m ≤ 4096 := ⟨Nat.one_le_two_pow, Nat.pow_le_pow_right (n := 2) (by decide) h⟩
/-- a number that is within 0 .. T - 1 -/
theorem wi_of {x : Int32} {T : Nat} (h : wiB x 0 (nI T - 1) = true) (hT : T < 2 ^ 30) : ∃ j, j < T ∧ x = nI j := by
  obtain ⟨h1, h2⟩ := wi_iff.mp h
  obtain ⟨j, hj, rfl⟩ := nI_of (Int32.not_lt.mpr h1)
  refine ⟨j, ?_, rfl⟩
  have e : (nI T - nI 1).toInt = (T : Int) - (1 : Nat) := pk_sub_toInt hT (by decide)
  have h3 : (nI j).toInt ≤ (nI T - nI 1).toInt := Int32.le_iff_toInt_le.mp h2
  rw [nI_toInt hj, e] at h3
  omega
theorem wi_nI {j T : Nat} (h : j < T) (hT : T < 2 ^ 30) : wiB (nI j) 0 (nI T - 1) = true := by
  refine wi_iff.mpr ⟨nI_pos' (by omega), ?_⟩
  rw [show (1 : Int32) = nI 1 from rfl, pk_sub (by omega)]
  exact nI_le (by omega) (by omega)
theorem wi_of' {x : Int32} {m : Nat} (h : wiB x 0 (nI m) = true) (hm : m < 2 ^ 30) : ∃ j, j ≤ m ∧ x = nI j := by
  obtain ⟨h1, h2⟩ := wi_iff.mp h
  obtain ⟨j, hj, rfl⟩ := nI_of (Int32.not_lt.mpr h1)
  exact ⟨j, (nI_leI hj (by omega)).mp h2, rfl⟩
def pbC (op : Bool) (ap : Int32) (on : Int64) : Int32 := if op = true then on.toInt32 else ap
def pbR (op : Bool) (rr : Int32) (on : Int64) : Int32 := if op = true then rr &&& on.toInt32 &&& ush on.toInt32 1 else on.toInt32
def pbD (op : Bool) (rd c : Int32) (on : Int64) : Int32 := if op = true then rd &&& on.toInt32 &&& ush on.toInt32 c else (lush on 32).toInt32
/-- crossing of the places by all that is open -/
def crO (R C : Nat) (op : Bool) (ap rr rd : Int32) (on : Int64) (way : Int32) : Bool := crF R C (pbC op ap on) (pbR op rr on) (pbD op rd (nI C) on) way
def ctB (R C : Nat) (op : Bool) (ap rr rd : Int32) (on : Int64) (way : Int32) : Bool := if way = 2 then crO R C op ap rr rd on 0 && crO R C op ap rr rd on 1 else if way = 3 then crO R C op ap rr rd on 0 || crO R C op ap rr rd on 1 else crO R C op ap rr rd on way
def hpO (C : Nat) (op : Bool) (ap rr rd : Int32) (on : Int64) (x : Int32) : Int32 := haF (nI C) (pbC op ap on) (pbR op rr on) (pbD op rd (nI C) on) x
def shR (rr : Int32) (on : Int64) : Int32 := rr &&& (on.toInt32 ^^^ (-1))
def shD (rd : Int32) (on : Int64) : Int32 := rd &&& ((lush on 32).toInt32 ^^^ (-1))
def gaC (gr gc : Nat) : Int32 := ((1 : Int32) <<< ((nI (gr + 1) * nI (gc - 1)) &&& 31)) - 1
def wlB (R C : Nat) (rr rd : Int32) (on : Int64) (way : Int32) : Bool := if way = 0 then crF (R + 1) (C - 1) (gaC R C) (lbR (shD rd on) C R) (lbD (shR rr on) C R) 1 else crF (C + 1) (R - 1) (gaC C R) (lbR (exF (shR rr on) R C R) R C) (lbD (exF (shD rd on) R C R) R C) 1
/-- how many s < n have both -/
def cnI (p : Nat → Bool) : Nat → Int32
  | 0 => 0
  | i + 1 => if p i = true then cnI p i + 1 else cnI p i
theorem cn_y {p : Nat → Bool} {i : Nat} (h : p i = true) : cnI p i + 1 = cnI p (i + 1) := by rw [cnI, if_pos h]
theorem cn_n {p : Nat → Bool} {i : Nat} (h : p i = false) : cnI p i = cnI p (i + 1) := by rw [cnI, if_neg (by rw [h]; decide)]
def smI (p : Nat → Bool) (v : Nat → Int32) : Nat → Int32
  | 0 => 0
  | i + 1 => if p i = true then smI p v i + v i else smI p v i
theorem sm_y {p : Nat → Bool} {v : Nat → Int32} {i : Nat} (h : p i = true) : smI p v i + v i = smI p v (i + 1) := by rw [smI, if_pos h]
theorem sm_n {p : Nat → Bool} {v : Nat → Int32} {i : Nat} (h : p i = false) : smI p v i = smI p v (i + 1) := by rw [smI, if_neg (by rw [h]; decide)]
def pwF (b : Int32) : Nat → Int64
  | 0 => 1
  | i + 1 => pwF b i * b.toInt64
def ntJ (x : Int32) : Int32 :=
  let y := (x ^^^ (-1)) &&& (x - 1)
  if y ≤ 0 then y &&& 32 else
  let n1 : Int32 := if y ≤ 65536 then 1 else 1 + 16
  let y1 := if y ≤ 65536 then y else ush y 16
  let n2 := if y1 ≤ 256 then n1 else n1 + 8
  let y2 := if y1 ≤ 256 then y1 else ush y1 8
  let n3 := if y2 ≤ 16 then n2 else n2 + 4
  let y3 := if y2 ≤ 16 then y2 else ush y2 4
  let n4 := if y3 ≤ 4 then n3 else n3 + 2
  let y4 := if y3 ≤ 4 then y3 else ush y3 2
  n4 + ush y4 1
def heV (h : Int32) : Int32 := if h = 0 then (-9) else ntJ h
/-- the first s < n of which p holds, or none -/
def FirstIs (p : Nat → Bool) (n : Nat) (r : Int32) : Prop := (∃ s, s < n ∧ p s = true ∧ (∀ t, t < s → p t = false) ∧ r = nI s) ∨ ((∀ s, s < n → p s = false) ∧ r = -9)
def chF (w : Nat → Int32) (p q : Int32) (m : Nat) : Nat → Int64
  | 0 => 0
  | k + 1 => chF w p q m k + (w k).toInt64 * pwF p k * pwF (q - p) (m - k)
/-- what kind() refuses by -/
def kdD (T : Nat) (kinds elders : Nat → Int32) (m : Nat) (x k : Int32) : Option Int32 := if (wiB x 0 (nI T - 1) && wiB k 0 2) = false then some (-1) else if ¬ k = 2 ∧ ieB elders x T = true then some (-2) else if k = 2 ∧ ¬ kinds x.toNatClampNeg = 2 ∧ 12 ≤ m then some (-3) else none
def twD (T : Nat) (kinds elders : Nat → Int32) (x e : Int32) : Option Int32 := if (wiB x 0 (nI T - 1) && wiB e 0 (nI T - 1)) = false ∨ x = e ∨ ¬ kinds e.toNatClampNeg = 2 then some (-1) else if ieB elders x T = true then some (-2) else none
def abV (T : Nat) (kinds elders numbers slots : Nat → Int32) (op : Bool) (c x what : Int32) : Int32 := if wiB x 0 (nI T - 1) = false then (-1) else if what = 0 then kinds x.toNatClampNeg else if what = 1 then elders x.toNatClampNeg else if what = 2 then numbers x.toNatClampNeg else if what = 3 then slots x.toNatClampNeg - slots x.toNatClampNeg / 32 * 32 else if what = 4 then (if op = true then slots x.toNatClampNeg - slots x.toNatClampNeg / 32 * 32 else (slots x.toNatClampNeg - slots x.toNatClampNeg / 32 * 32) + (if slots x.toNatClampNeg < 32 then 1 else c)) else (-1)
def toV (R C : Nat) (op : Bool) (T m : Nat) (elders : Nat → Int32) (what : Int32) : Int32 := if what = 0 then nI R else if what = 1 then nI C else if what = 2 then bI op else if what = 3 then nI T else if what = 4 then nI m else if what = 5 then yoF elders T else (-1)
theorem look_no {x : Int32} (h2 : ¬ x = 2) (h3 : ¬ x = 3) {a b c : Int} : Op.lookupswitch.offset [(2, a), (3, b)] c x.toInt = c := by
  have e2 : ¬ x.toInt = 2 := fun h => h2 (Int32.toInt_inj.mp (h.trans (by decide)))
  have e3 : ¬ x.toInt = 3 := fun h => h3 (Int32.toInt_inj.mp (h.trans (by decide)))
  simp [Op.lookupswitch.offset, e2, e3, Ne.symm e2, Ne.symm e3]
def wsP (R C : Nat) (op : Bool) (ap rr rd : Int32) (al : Int64) (waf wof : Nat → Int64) (m : Nat) (way k : Int32) (s : Nat) : Bool := decide (bcJ (nI s) = k) && ctB R C op ap rr rd (opF al waf wof (nI s) m) way
abbrev Sp3 : Type := Int32 × Int32 × Int32
abbrev Sp5 : Type := Int32 × Int32 × Int32 × Int32 × Int32
def thV (R C : Nat) (op : Bool) (ap rr rd : Int32) (al : Int64) (waf wof : Nat → Int64) (m : Nat) (se way : Int32) : Int32 := if (wiB se 0 (nI (2 ^ m) - 1) && wiB way 0 1) = true then bI (crO R C op ap rr rd (opF al waf wof se m) way) else (-1)
def waV (R C : Nat) (op : Bool) (rr rd : Int32) (al : Int64) (waf wof : Nat → Int64) (m : Nat) (se way : Int32) : Int32 := if (wiB se 0 (nI (2 ^ m) - 1) && wiB way 0 1) = true then (if op = true then (-2) else bI (wlB R C rr rd (opF al waf wof se m) way)) else (-1)
def hpV (R C : Nat) (op : Bool) (ap rr rd : Int32) (al : Int64) (waf wof : Nat → Int64) (m : Nat) (se x : Int32) : Int32 := if (wiB se 0 (nI (2 ^ m) - 1) && wiB x 0 (nI (R * C) - 1)) = true then heV (hpO C op ap rr rd (opF al waf wof se m) x) else (-1)
def hcO (C : Nat) (op : Bool) (ap rr rd : Int32) (on : Int64) : Int32 := (hcF (nI C) (pbC op ap on) (pbR op rr on) (pbD op rd (nI C) on) 25).2
def ghO (C : Nat) (op : Bool) (ap rr rd : Int32) (on : Int64) : Int32 := ghF (nI C) (pbC op ap on) (pbR op rr on) (pbD op rd (nI C) on) 25
def hsV (C : Nat) (op : Bool) (ap rr rd : Int32) (al : Int64) (waf wof : Nat → Int64) (m : Nat) (se what : Int32) : Int32 := if (wiB se 0 (nI (2 ^ m) - 1) && wiB what 0 1) = true then (if what = 0 then hcO C op ap rr rd (opF al waf wof se m) else ghO C op ap rr rd (opF al waf wof se m)) else (-1)
def coV (R C : Nat) (op : Bool) (ap rr rd : Int32) (al : Int64) (waf wof : Nat → Int64) (m : Nat) (way k : Int32) : Int32 := if (wiB way 0 3 && wiB k 0 (nI m)) = true then cnI (wsP R C op ap rr rd al waf wof m way k) (2 ^ m) else (-1)
def wlP (R C : Nat) (rr rd : Int32) (al : Int64) (waf wof : Nat → Int64) (m : Nat) (way k : Int32) (s : Nat) : Bool := decide (bcJ (nI s) = k) && wlB R C rr rd (opF al waf wof (nI s) m) way
def wlsV (R C : Nat) (op : Bool) (rr rd : Int32) (al : Int64) (waf wof : Nat → Int64) (m : Nat) (way k : Int32) : Int32 := if op = true then (-2) else if (wiB way 0 1 && wiB k 0 (nI m)) = true then cnI (wlP R C rr rd al waf wof m way k) (2 ^ m) else (-1)
def joP (C : Nat) (op : Bool) (ap rr rd : Int32) (al : Int64) (waf wof : Nat → Int64) (m : Nat) (a b k : Int32) (s : Nat) : Bool := decide (bcJ (nI s) = k) && hasB (hpO C op ap rr rd (opF al waf wof (nI s) m) a) b
def joV (R C : Nat) (op : Bool) (ap rr rd : Int32) (al : Int64) (waf wof : Nat → Int64) (m : Nat) (a b k : Int32) : Int32 := if (wiB a 0 (nI (R * C) - 1) && (wiB b 0 (nI (R * C) - 1) && wiB k 0 (nI m))) = true then cnI (joP C op ap rr rd al waf wof m a b k) (2 ^ m) else (-1)
def szP (C : Nat) (op : Bool) (ap rr rd : Int32) (al : Int64) (waf wof : Nat → Int64) (m : Nat) (x n k : Int32) (s : Nat) : Bool := decide (bcJ (nI s) = k) && decide (bcJ (hpO C op ap rr rd (opF al waf wof (nI s) m) x) = n)
def szV (R C : Nat) (op : Bool) (ap rr rd : Int32) (al : Int64) (waf wof : Nat → Int64) (m : Nat) (x n k : Int32) : Int32 := if (wiB x 0 (nI (R * C) - 1) && (wiB n 0 25 && wiB k 0 (nI m))) = true then cnI (szP C op ap rr rd al waf wof m x n k) (2 ^ m) else (-1)
def hmV (C : Nat) (op : Bool) (ap rr rd : Int32) (al : Int64) (waf wof : Nat → Int64) (m : Nat) (k : Int32) : Int32 := if wiB k 0 (nI m) = true then smI (fun s => decide (bcJ (nI s) = k)) (fun s => hcO C op ap rr rd (opF al waf wof (nI s) m)) (2 ^ m) else (-1)
def cvV (R C : Nat) (op : Bool) (ap rr rd : Int32) (al : Int64) (waf wof : Nat → Int64) (m : Nat) (way p q : Int32) : Int64 := if (wiB way 0 3 && (wiB q 1 9 && wiB p 0 q)) = true then chF (fun k => cnI (wsP R C op ap rr rd al waf wof m way (nI k)) (2 ^ m)) p q m (m + 1) else (-1)
def pvP (R C : Nat) (op : Bool) (ap rr rd : Int32) (al : Int64) (waf wof : Nat → Int64) (m : Nat) (way i : Int32) (s : Nat) : Bool := hasB (nI s) i && (ctB R C op ap rr rd (opF al waf wof (nI s) m) way && !ctB R C op ap rr rd (opF al waf wof (nI s &&& (((1 : Int32) <<< (i &&& 31)) ^^^ (-1))) m) way)
def pvV (R C : Nat) (op : Bool) (ap rr rd : Int32) (al : Int64) (waf wof : Nat → Int64) (m : Nat) (way i : Int32) : Int32 := if (wiB way 0 3 && wiB i 0 (nI m - 1)) = true then cnI (pvP R C op ap rr rd al waf wof m way i) (2 ^ m) else (-1)
theorem p_yn {a b : Bool} (ha : a = true) (hb : b = false) : (a && b) = false := by rw [ha, hb]; rfl
theorem p_yy {a b : Bool} (ha : a = true) (hb : b = true) : (a && b) = true := by rw [ha, hb]; rfl
theorem p_n {a b : Bool} (ha : a = false) : (a && b) = false := by rw [ha]; rfl
theorem cn2_n1 {p : Nat → Bool} {i : Nat} {x k : Int32} {q : Bool} (hp : p i = (decide (x = k) && q)) (h : ¬ x = k) : cnI p (i + 1) = cnI p i := (cn_n (by rw [hp, decide_eq_false h]; rfl)).symm
theorem cn2_n2 {p : Nat → Bool} {i : Nat} {x k : Int32} {q : Bool} (hp : p i = (decide (x = k) && q)) (h : bI q = 0) : cnI p (i + 1) = cnI p i := (cn_n (by rw [hp, bI_0.mp h, Bool.and_false])).symm
theorem cn2_y {p : Nat → Bool} {i : Nat} {x k : Int32} {q : Bool} (hp : p i = (decide (x = k) && q)) (h : x = k) (h2 : ¬ bI q = 0) : cnI p (i + 1) = cnI p i + 1 := (cn_y (by rw [hp, decide_eq_true h, bI_n0.mp h2]; rfl)).symm
theorem cnd_n2 {p : Nat → Bool} {i : Nat} {x k u v : Int32} (hp : p i = (decide (x = k) && decide (u = v))) (h : ¬ u = v) : cnI p (i + 1) = cnI p i := (cn_n (by rw [hp, decide_eq_false h, Bool.and_false])).symm
theorem cnd_y {p : Nat → Bool} {i : Nat} {x k u v : Int32} (hp : p i = (decide (x = k) && decide (u = v))) (h : x = k) (h2 : u = v) : cnI p (i + 1) = cnI p i + 1 := (cn_y (by rw [hp, decide_eq_true h, decide_eq_true h2]; rfl)).symm
theorem cn3_n1 {p : Nat → Bool} {i : Nat} {a b c : Bool} (hp : p i = (a && (b && !c))) (h : bI a = 0) : cnI p (i + 1) = cnI p i := (cn_n (by rw [hp, bI_0.mp h]; rfl)).symm
theorem cn3_n2 {p : Nat → Bool} {i : Nat} {a b c : Bool} (hp : p i = (a && (b && !c))) (h : bI b = 0) : cnI p (i + 1) = cnI p i := (cn_n (by rw [hp, bI_0.mp h]; simp)).symm
theorem cn3_n3 {p : Nat → Bool} {i : Nat} {a b c : Bool} (hp : p i = (a && (b && !c))) (h : ¬ bI c = 0) : cnI p (i + 1) = cnI p i := (cn_n (by rw [hp, bI_n0.mp h]; simp)).symm
theorem cn3_y {p : Nat → Bool} {i : Nat} {a b c : Bool} (hp : p i = (a && (b && !c))) (h : ¬ bI a = 0) (h2 : ¬ bI b = 0) (h3 : bI c = 0) : cnI p (i + 1) = cnI p i + 1 := (cn_y (by rw [hp, bI_n0.mp h, bI_n0.mp h2, bI_0.mp h3]; rfl)).symm
theorem sm1_n {p : Nat → Bool} {v : Nat → Int32} {i : Nat} {x k : Int32} (hp : p i = decide (x = k)) (h : ¬ x = k) : smI p v (i + 1) = smI p v i := (sm_n (by rw [hp, decide_eq_false h])).symm
theorem sm1_y {p : Nat → Bool} {v : Nat → Int32} {i : Nat} {x k : Int32} (hp : p i = decide (x = k)) (h : x = k) : smI p v (i + 1) = smI p v i + v i := (sm_y (by rw [hp, decide_eq_true h])).symm
