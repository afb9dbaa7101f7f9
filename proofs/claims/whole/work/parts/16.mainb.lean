/-! words for OpenGrounds -/
theorem shl_m : ∀ m, m ≤ 12 → (1 : Int32) <<< (nI m &&& 31) = nI (2 ^ m) := by
  intro m hm
  rcases (show m = 0 ∨ m = 1 ∨ m = 2 ∨ m = 3 ∨ m = 4 ∨ m = 5 ∨ m = 6 ∨ m = 7 ∨ m = 8 ∨ m = 9 ∨ m = 10 ∨ m = 11 ∨ m = 12 by omega) with rfl | rfl | rfl | rfl | rfl | rfl | rfl | rfl | rfl | rfl | rfl | rfl | rfl <;> decide +kernel
theorem pow_m {m : Nat} (h : m ≤ 12) : 1 ≤ 2 ^ m ∧ 2 ^ m ≤ 4096 := ⟨Nat.one_le_two_pow, Nat.pow_le_pow_right (n := 2) (by decide) h⟩
/-- a number that is within 0 .. T - 1 -/
theorem wi_of {x : Int32} {T : Nat} (h : wiB x 0 (nI T - 1) = true) (hT : T < 2 ^ 30) : ∃ j, j < T ∧ x = nI j := by
  obtain ⟨h1, h2⟩ := wi_iff.mp h
  obtain ⟨j, hj, rfl⟩ := nI_of (Int32.not_lt.mpr h1)
  refine ⟨j, ?_, rfl⟩
  have e : (nI T - nI 1).toInt = (T : Int) - (1 : Nat) := pk_sub_toInt hT (by decide)
  have h3 : (nI j).toInt ≤ (nI T - nI 1).toInt := Int32.le_iff_toInt_le.mp h2
  rw [nI_toInt hj, e] at h3
  omega
theorem wi_nI {j T : Nat} (h : j < T) (hT : T < 2 ^ 30) : wiB (nI j) 0 (nI T - 1) = true := by
  refine wi_iff.mpr ⟨nI_pos' (by omega), ?_⟩
  rw [show (1 : Int32) = nI 1 from rfl, pk_sub (by omega)]
  exact nI_le (by omega) (by omega)
theorem wi_of' {x : Int32} {m : Nat} (h : wiB x 0 (nI m) = true) (hm : m < 2 ^ 30) : ∃ j, j ≤ m ∧ x = nI j := by
  obtain ⟨h1, h2⟩ := wi_iff.mp h
  obtain ⟨j, hj, rfl⟩ := nI_of (Int32.not_lt.mpr h1)
  exact ⟨j, (nI_leI hj (by omega)).mp h2, rfl⟩
def pbC (op : Bool) (ap : Int32) (on : Int64) : Int32 := if op = true then on.toInt32 else ap
def pbR (op : Bool) (rr : Int32) (on : Int64) : Int32 := if op = true then rr &&& on.toInt32 &&& ush on.toInt32 1 else on.toInt32
def pbD (op : Bool) (rd c : Int32) (on : Int64) : Int32 := if op = true then rd &&& on.toInt32 &&& ush on.toInt32 c else (lush on 32).toInt32
/-- crossing of the places by all that is open -/
def crO (R C : Nat) (op : Bool) (ap rr rd : Int32) (on : Int64) (way : Int32) : Bool := crF R C (pbC op ap on) (pbR op rr on) (pbD op rd (nI C) on) way
def ctB (R C : Nat) (op : Bool) (ap rr rd : Int32) (on : Int64) (way : Int32) : Bool := if way = 2 then crO R C op ap rr rd on 0 && crO R C op ap rr rd on 1 else if way = 3 then crO R C op ap rr rd on 0 || crO R C op ap rr rd on 1 else crO R C op ap rr rd on way
def hpO (C : Nat) (op : Bool) (ap rr rd : Int32) (on : Int64) (x : Int32) : Int32 := haF (nI C) (pbC op ap on) (pbR op rr on) (pbD op rd (nI C) on) x
def shR (rr : Int32) (on : Int64) : Int32 := rr &&& (on.toInt32 ^^^ (-1))
def shD (rd : Int32) (on : Int64) : Int32 := rd &&& ((lush on 32).toInt32 ^^^ (-1))
def gaC (gr gc : Nat) : Int32 := ((1 : Int32) <<< ((nI (gr + 1) * nI (gc - 1)) &&& 31)) - 1
def wlB (R C : Nat) (rr rd : Int32) (on : Int64) (way : Int32) : Bool := if way = 0 then crF (R + 1) (C - 1) (gaC R C) (lbR (shD rd on) C R) (lbD (shR rr on) C R) 1 else crF (C + 1) (R - 1) (gaC C R) (lbR (exF (shR rr on) R C R) R C) (lbD (exF (shD rd on) R C R) R C) 1
/-- how many s < n have both -/
def cnI (p : Nat → Bool) : Nat → Int32
  | 0 => 0
  | i + 1 => if p i = true then cnI p i + 1 else cnI p i
theorem cn_y {p : Nat → Bool} {i : Nat} (h : p i = true) : cnI p i + 1 = cnI p (i + 1) := by rw [cnI, if_pos h]
theorem cn_n {p : Nat → Bool} {i : Nat} (h : p i = false) : cnI p i = cnI p (i + 1) := by rw [cnI, if_neg (by rw [h]; decide)]
def smI (p : Nat → Bool) (v : Nat → Int32) : Nat → Int32
  | 0 => 0
  | i + 1 => if p i = true then smI p v i + v i else smI p v i
theorem sm_y {p : Nat → Bool} {v : Nat → Int32} {i : Nat} (h : p i = true) : smI p v i + v i = smI p v (i + 1) := by rw [smI, if_pos h]
theorem sm_n {p : Nat → Bool} {v : Nat → Int32} {i : Nat} (h : p i = false) : smI p v i = smI p v (i + 1) := by rw [smI, if_neg (by rw [h]; decide)]
def pwF (b : Int32) : Nat → Int64
  | 0 => 1
  | i + 1 => pwF b i * b.toInt64
def ntJ (x : Int32) : Int32 :=
  let y := (x ^^^ (-1)) &&& (x - 1)
  if 0 < y then
    let n1 : Int32 := if y ≤ 65536 then 1 else 1 + 16
    let y1 := if y ≤ 65536 then y else ush y 16
    let n2 := if y1 ≤ 256 then n1 else n1 + 8
    let y2 := if y1 ≤ 256 then y1 else ush y1 8
    let n3 := if y2 ≤ 16 then n2 else n2 + 4
    let y3 := if y2 ≤ 16 then y2 else ush y2 4
    let n4 := if y3 ≤ 4 then n3 else n3 + 2
    let y4 := if y3 ≤ 4 then y3 else ush y3 2
    n4 + ush y4 1
  else y &&& 32
def heV (h : Int32) : Int32 := if h = 0 then (-9) else ntJ h
/-- the first s < n of which p holds, or none -/
def FirstIs (p : Nat → Bool) (n : Nat) (r : Int32) : Prop := (∃ s, s < n ∧ p s = true ∧ (∀ t, t < s → p t = false) ∧ r = nI s) ∨ ((∀ s, s < n → p s = false) ∧ r = -9)
def chF (w : Nat → Int32) (p q : Int32) (m : Nat) : Nat → Int64
  | 0 => 0
  | k + 1 => chF w p q m k + (w k).toInt64 * pwF p k * pwF (q - p) (m - k)
/-- what kind() refuses by -/
def kdD (T : Nat) (kinds elders : Nat → Int32) (m : Nat) (x k : Int32) : Option Int32 := if (wiB x 0 (nI T - 1) && wiB k 0 2) = false then some (-1) else if ¬ k = 2 ∧ ieB elders x T = true then some (-2) else if k = 2 ∧ ¬ kinds x.toNatClampNeg = 2 ∧ 12 ≤ m then some (-3) else none
def twD (T : Nat) (kinds elders : Nat → Int32) (x e : Int32) : Option Int32 := if (wiB x 0 (nI T - 1) && wiB e 0 (nI T - 1)) = false ∨ x = e ∨ ¬ kinds e.toNatClampNeg = 2 then some (-1) else if ieB elders x T = true then some (-2) else none
def abV (T : Nat) (kinds elders numbers slots : Nat → Int32) (op : Bool) (c x what : Int32) : Int32 := if wiB x 0 (nI T - 1) = false then (-1) else if what = 0 then kinds x.toNatClampNeg else if what = 1 then elders x.toNatClampNeg else if what = 2 then numbers x.toNatClampNeg else if what = 3 then slots x.toNatClampNeg - slots x.toNatClampNeg / 32 * 32 else if what = 4 then (if op = true then slots x.toNatClampNeg - slots x.toNatClampNeg / 32 * 32 else (slots x.toNatClampNeg - slots x.toNatClampNeg / 32 * 32) + (if slots x.toNatClampNeg < 32 then 1 else c)) else (-1)
def toV (R C : Nat) (op : Bool) (T m : Nat) (elders : Nat → Int32) (what : Int32) : Int32 := if what = 0 then nI R else if what = 1 then nI C else if what = 2 then bI op else if what = 3 then nI T else if what = 4 then nI m else if what = 5 then yoF elders T else (-1)
theorem look_no {x : Int32} (h2 : ¬ x = 2) (h3 : ¬ x = 3) {a b c : Int} : Op.lookupswitch.offset [(2, a), (3, b)] c x.toInt = c := by
  have e2 : ¬ x.toInt = 2 := fun h => h2 (Int32.toInt_inj.mp (h.trans (by decide)))
  have e3 : ¬ x.toInt = 3 := fun h => h3 (Int32.toInt_inj.mp (h.trans (by decide)))
  simp [Op.lookupswitch.offset, e2, e3, Ne.symm e2, Ne.symm e3]
def wsP (R C : Nat) (op : Bool) (ap rr rd : Int32) (al : Int64) (waf wof : Nat → Int64) (m : Nat) (way k : Int32) (s : Nat) : Bool := decide (bcJ (nI s) = k) && ctB R C op ap rr rd (opF al waf wof (nI s) m) way
abbrev Sp3 : Type := Int32 × Int32 × Int32
abbrev Sp5 : Type := Int32 × Int32 × Int32 × Int32 × Int32
def thV (R C : Nat) (op : Bool) (ap rr rd : Int32) (al : Int64) (waf wof : Nat → Int64) (m : Nat) (se way : Int32) : Int32 := if (wiB se 0 (nI (2 ^ m) - 1) && wiB way 0 1) = true then bI (crO R C op ap rr rd (opF al waf wof se m) way) else (-1)
def waV (R C : Nat) (op : Bool) (rr rd : Int32) (al : Int64) (waf wof : Nat → Int64) (m : Nat) (se way : Int32) : Int32 := if (wiB se 0 (nI (2 ^ m) - 1) && wiB way 0 1) = true then (if op = true then (-2) else bI (wlB R C rr rd (opF al waf wof se m) way)) else (-1)
def hpV (R C : Nat) (op : Bool) (ap rr rd : Int32) (al : Int64) (waf wof : Nat → Int64) (m : Nat) (se x : Int32) : Int32 := if (wiB se 0 (nI (2 ^ m) - 1) && wiB x 0 (nI (R * C) - 1)) = true then heV (hpO C op ap rr rd (opF al waf wof se m) x) else (-1)
def hcO (C : Nat) (op : Bool) (ap rr rd : Int32) (on : Int64) : Int32 := (hcF (nI C) (pbC op ap on) (pbR op rr on) (pbD op rd (nI C) on) 25).2
def ghO (C : Nat) (op : Bool) (ap rr rd : Int32) (on : Int64) : Int32 := ghF (nI C) (pbC op ap on) (pbR op rr on) (pbD op rd (nI C) on) 25
def hsV (C : Nat) (op : Bool) (ap rr rd : Int32) (al : Int64) (waf wof : Nat → Int64) (m : Nat) (se what : Int32) : Int32 := if (wiB se 0 (nI (2 ^ m) - 1) && wiB what 0 1) = true then (if what = 0 then hcO C op ap rr rd (opF al waf wof se m) else ghO C op ap rr rd (opF al waf wof se m)) else (-1)
def coV (R C : Nat) (op : Bool) (ap rr rd : Int32) (al : Int64) (waf wof : Nat → Int64) (m : Nat) (way k : Int32) : Int32 := if (wiB way 0 3 && wiB k 0 (nI m)) = true then cnI (wsP R C op ap rr rd al waf wof m way k) (2 ^ m) else (-1)
def wlP (R C : Nat) (rr rd : Int32) (al : Int64) (waf wof : Nat → Int64) (m : Nat) (way k : Int32) (s : Nat) : Bool := decide (bcJ (nI s) = k) && wlB R C rr rd (opF al waf wof (nI s) m) way
def wlsV (R C : Nat) (op : Bool) (rr rd : Int32) (al : Int64) (waf wof : Nat → Int64) (m : Nat) (way k : Int32) : Int32 := if op = true then (-2) else if (wiB way 0 1 && wiB k 0 (nI m)) = true then cnI (wlP R C rr rd al waf wof m way k) (2 ^ m) else (-1)
def joP (C : Nat) (op : Bool) (ap rr rd : Int32) (al : Int64) (waf wof : Nat → Int64) (m : Nat) (a b k : Int32) (s : Nat) : Bool := decide (bcJ (nI s) = k) && hasB (hpO C op ap rr rd (opF al waf wof (nI s) m) a) b
def joV (R C : Nat) (op : Bool) (ap rr rd : Int32) (al : Int64) (waf wof : Nat → Int64) (m : Nat) (a b k : Int32) : Int32 := if (wiB a 0 (nI (R * C) - 1) && (wiB b 0 (nI (R * C) - 1) && wiB k 0 (nI m))) = true then cnI (joP C op ap rr rd al waf wof m a b k) (2 ^ m) else (-1)
def szP (C : Nat) (op : Bool) (ap rr rd : Int32) (al : Int64) (waf wof : Nat → Int64) (m : Nat) (x n k : Int32) (s : Nat) : Bool := decide (bcJ (nI s) = k) && decide (bcJ (hpO C op ap rr rd (opF al waf wof (nI s) m) x) = n)
def szV (R C : Nat) (op : Bool) (ap rr rd : Int32) (al : Int64) (waf wof : Nat → Int64) (m : Nat) (x n k : Int32) : Int32 := if (wiB x 0 (nI (R * C) - 1) && (wiB n 0 25 && wiB k 0 (nI m))) = true then cnI (szP C op ap rr rd al waf wof m x n k) (2 ^ m) else (-1)
def hmV (C : Nat) (op : Bool) (ap rr rd : Int32) (al : Int64) (waf wof : Nat → Int64) (m : Nat) (k : Int32) : Int32 := if wiB k 0 (nI m) = true then smI (fun s => decide (bcJ (nI s) = k)) (fun s => hcO C op ap rr rd (opF al waf wof (nI s) m)) (2 ^ m) else (-1)
def cvV (R C : Nat) (op : Bool) (ap rr rd : Int32) (al : Int64) (waf wof : Nat → Int64) (m : Nat) (way p q : Int32) : Int64 := if (wiB way 0 3 && (wiB q 1 9 && wiB p 0 q)) = true then chF (fun k => cnI (wsP R C op ap rr rd al waf wof m way (nI k)) (2 ^ m)) p q m (m + 1) else (-1)
def pvP (R C : Nat) (op : Bool) (ap rr rd : Int32) (al : Int64) (waf wof : Nat → Int64) (m : Nat) (way i : Int32) (s : Nat) : Bool := hasB (nI s) i && (ctB R C op ap rr rd (opF al waf wof (nI s) m) way && !ctB R C op ap rr rd (opF al waf wof (nI s &&& (((1 : Int32) <<< (i &&& 31)) ^^^ (-1))) m) way)
def pvV (R C : Nat) (op : Bool) (ap rr rd : Int32) (al : Int64) (waf wof : Nat → Int64) (m : Nat) (way i : Int32) : Int32 := if (wiB way 0 3 && wiB i 0 (nI m - 1)) = true then cnI (pvP R C op ap rr rd al waf wof m way i) (2 ^ m) else (-1)
theorem p_yn {a b : Bool} (ha : a = true) (hb : b = false) : (a && b) = false := by rw [ha, hb]; rfl
theorem p_yy {a b : Bool} (ha : a = true) (hb : b = true) : (a && b) = true := by rw [ha, hb]; rfl
theorem p_n {a b : Bool} (ha : a = false) : (a && b) = false := by rw [ha]; rfl
theorem cn2_n1 {p : Nat → Bool} {i : Nat} {x k : Int32} {q : Bool} (hp : p i = (decide (x = k) && q)) (h : ¬ x = k) : cnI p (i + 1) = cnI p i := (cn_n (by rw [hp, decide_eq_false h]; rfl)).symm
theorem cn2_n2 {p : Nat → Bool} {i : Nat} {x k : Int32} {q : Bool} (hp : p i = (decide (x = k) && q)) (h : bI q = 0) : cnI p (i + 1) = cnI p i := (cn_n (by rw [hp, bI_0.mp h, Bool.and_false])).symm
theorem cn2_y {p : Nat → Bool} {i : Nat} {x k : Int32} {q : Bool} (hp : p i = (decide (x = k) && q)) (h : x = k) (h2 : ¬ bI q = 0) : cnI p (i + 1) = cnI p i + 1 := (cn_y (by rw [hp, decide_eq_true h, bI_n0.mp h2]; rfl)).symm
theorem cnd_n2 {p : Nat → Bool} {i : Nat} {x k u v : Int32} (hp : p i = (decide (x = k) && decide (u = v))) (h : ¬ u = v) : cnI p (i + 1) = cnI p i := (cn_n (by rw [hp, decide_eq_false h, Bool.and_false])).symm
theorem cnd_y {p : Nat → Bool} {i : Nat} {x k u v : Int32} (hp : p i = (decide (x = k) && decide (u = v))) (h : x = k) (h2 : u = v) : cnI p (i + 1) = cnI p i + 1 := (cn_y (by rw [hp, decide_eq_true h, decide_eq_true h2]; rfl)).symm
theorem cn3_n1 {p : Nat → Bool} {i : Nat} {a b c : Bool} (hp : p i = (a && (b && !c))) (h : bI a = 0) : cnI p (i + 1) = cnI p i := (cn_n (by rw [hp, bI_0.mp h]; rfl)).symm
theorem cn3_n2 {p : Nat → Bool} {i : Nat} {a b c : Bool} (hp : p i = (a && (b && !c))) (h : bI b = 0) : cnI p (i + 1) = cnI p i := (cn_n (by rw [hp, bI_0.mp h]; simp)).symm
theorem cn3_n3 {p : Nat → Bool} {i : Nat} {a b c : Bool} (hp : p i = (a && (b && !c))) (h : ¬ bI c = 0) : cnI p (i + 1) = cnI p i := (cn_n (by rw [hp, bI_n0.mp h]; simp)).symm
theorem cn3_y {p : Nat → Bool} {i : Nat} {a b c : Bool} (hp : p i = (a && (b && !c))) (h : ¬ bI a = 0) (h2 : ¬ bI b = 0) (h3 : bI c = 0) : cnI p (i + 1) = cnI p i + 1 := (cn_y (by rw [hp, bI_n0.mp h, bI_n0.mp h2, bI_0.mp h3]; rfl)).symm
theorem sm1_n {p : Nat → Bool} {v : Nat → Int32} {i : Nat} {x k : Int32} (hp : p i = decide (x = k)) (h : ¬ x = k) : smI p v (i + 1) = smI p v i := (sm_n (by rw [hp, decide_eq_false h])).symm
theorem sm1_y {p : Nat → Bool} {v : Nat → Int32} {i : Nat} {x k : Int32} (hp : p i = decide (x = k)) (h : x = k) : smI p v (i + 1) = smI p v i + v i := (sm_y (by rw [hp, decide_eq_true h])).symm
/-- what holds of kinds and elders between calls -/
def KI (T : Nat) (kinds elders : Nat → Int32) : Prop := (∀ t, t < T → (kinds t = 0 ∧ elders t = -9) ∨ (kinds t = 1 ∧ elders t = -9) ∨ (kinds t = 2 ∧ elders t = -9) ∨ ((kinds t = 3 ∨ kinds t = 4) ∧ ∃ e, e < T ∧ elders t = nI e ∧ kinds e = 2)) ∧ ctF kinds T ≤ 12
theorem ct_mono (kinds : Nat → Int32) {a : Nat} : ∀ {b : Nat}, a ≤ b → ctF kinds a ≤ ctF kinds b
  | 0, h => by rw [show a = 0 by omega]; exact Nat.le_refl _
  | b + 1, h => by
    rcases Nat.lt_or_ge a (b + 1) with q | q
    · have := ct_mono kinds (a := a) (b := b) (by omega)
      rw [ctF]; split <;> omega
    · rw [show a = b + 1 by omega]; exact Nat.le_refl _
theorem ct_lt {kinds : Nat → Int32} {t T : Nat} (ht : t < T) (hk : kinds t = 2) : ctF kinds t < ctF kinds T := by
  have h1 : ctF kinds (t + 1) ≤ ctF kinds T := ct_mono kinds ht
  rw [ct_y hk] at h1; omega
theorem nu_at {kinds s0 : Nat → Int32} {t : Nat} : ∀ {T : Nat}, t < T → nuF kinds s0 T t = if kinds t = 2 then nI (ctF kinds t) else (-9)
  | 0, h => absurd h (Nat.not_lt_zero t)
  | T + 1, h => by
    rw [nuF]
    rcases Nat.lt_or_ge t T with q | q
    · rw [show ∀ (f : Nat → Int32) v, upd f T v t = f t from fun f v => pk_un (by omega)]; exact nu_at q
    · have : t = T := by omega
      subst this
      rw [pk_us]
theorem KI.tok {T : Nat} {kinds elders : Nat → Int32} (h : KI T kinds elders) (hT : T ≤ 40) (s0 : Nat → Int32) : ∀ t, t < T → tOK kinds elders (nuF kinds s0 T) t := by
  intro t ht
  rcases h.1 t ht with h1 | h1 | h1 | ⟨h1, e, he, h2, h3⟩
  · exact Or.inl h1.1
  · exact Or.inr (Or.inl h1.1)
  · exact Or.inr (Or.inr (Or.inl ⟨h1.1, _, Nat.lt_of_lt_of_le (ct_lt ht h1.1) h.2, by rw [nu_at ht, if_pos h1.1]⟩))
  · have hq : ∃ e, e < 40 ∧ elders t = nI e ∧ ∃ j, j < 12 ∧ nuF kinds s0 T e = nI j := ⟨e, by omega, h2, _, Nat.lt_of_lt_of_le (ct_lt he h3) h.2, by rw [nu_at he, if_pos h3]⟩
    rcases h1 with h1 | h1
    · exact Or.inr (Or.inr (Or.inr (Or.inl ⟨h1, hq⟩)))
    · exact Or.inr (Or.inr (Or.inr (Or.inr ⟨h1, hq⟩)))
theorem ie_no {elders : Nat → Int32} {x : Int32} {T i : Nat} (h : ieB elders x T = false) (hi : i < T) : ¬ elders i = x := fun e => by rw [ie_yes hi e] at h; cases h
theorem ct_upd_out {kinds : Nat → Int32} {j : Nat} {v : Int32} : ∀ {T : Nat}, T ≤ j → ctF (upd kinds j v) T = ctF kinds T
  | 0, _ => rfl
  | T + 1, h => by rw [ctF, ctF, ct_upd_out (by omega), pk_un (by omega)]
theorem ct_upd {kinds : Nat → Int32} {j : Nat} {v : Int32} : ∀ {T : Nat}, j < T → ctF (upd kinds j v) T + (if kinds j = 2 then 1 else 0) = ctF kinds T + (if v = 2 then 1 else 0)
  | 0, h => absurd h (Nat.not_lt_zero j)
  | T + 1, h => by
    rw [ctF, ctF]
    rcases Nat.lt_or_ge j T with q | q
    · have ih := ct_upd (kinds := kinds) (v := v) q
      rw [pk_un (show T ≠ j by omega)]
      by_cases hk : kinds T = 2
      · rw [if_pos hk, if_pos hk]; omega
      · rw [if_neg hk, if_neg hk]; exact ih
    · have : j = T := by omega
      subst this
      rw [pk_us, ct_upd_out (Nat.le_refl _)]
      split <;> split <;> omega
theorem nI_ne9 {e : Nat} (h : e < 2 ^ 31) : ¬ nI e = -9 := fun q => by have := congrArg Int32.toInt q; rw [nI_toInt h] at this; exact absurd this (by rw [show (-9 : Int32).toInt = -9 by decide]; omega)
theorem KI.kind {T : Nat} {kinds elders : Nat → Int32} (h : KI T kinds elders) (hT : T ≤ 40) {j : Nat} (hj : j < T) {kd : Int32} (hkd : kd = 0 ∨ kd = 1 ∨ kd = 2) (h1 : ¬ kd = 2 → ieB elders (nI j) T = false) (h2 : kd = 2 → ¬ kinds j = 2 → ctF kinds T < 12) : KI T (upd kinds j kd) (upd elders j (-9)) := by
  refine ⟨fun t ht => ?_, ?_⟩
  · by_cases e : t = j
    · subst e
      rw [pk_us, pk_us]
      rcases hkd with q | q | q
      · exact Or.inl ⟨q, rfl⟩
      · exact Or.inr (Or.inl ⟨q, rfl⟩)
      · exact Or.inr (Or.inr (Or.inl ⟨q, rfl⟩))
    · rw [pk_un e, pk_un e]
      rcases h.1 t ht with q | q | q | ⟨q, x, hx, q2, q3⟩
      · exact Or.inl q
      · exact Or.inr (Or.inl q)
      · exact Or.inr (Or.inr (Or.inl q))
      · refine Or.inr (Or.inr (Or.inr ⟨q, x, hx, q2, ?_⟩))
        by_cases ex : x = j
        · subst ex
          rw [pk_us]
          refine Classical.byContradiction fun hk => ?_
          exact ie_no (h1 hk) ht q2
        · rw [pk_un ex]; exact q3
  · have e := ct_upd (kinds := kinds) (v := kd) hj
    have := h.2
    by_cases q : kd = 2
    · rw [if_pos q] at e
      by_cases q2 : kinds j = 2
      · rw [if_pos q2] at e; omega
      · rw [if_neg q2] at e
        have := h2 q q2
        omega
    · rw [if_neg q] at e
      split at e <;> omega
theorem KI.twin {T : Nat} {kinds elders : Nat → Int32} (h : KI T kinds elders) (hT : T ≤ 40) {j e : Nat} (hj : j < T) (he : e < T) (hne : ¬ j = e) (hk : kinds e = 2) {kd : Int32} (hkd : kd = 3 ∨ kd = 4) (h1 : ieB elders (nI j) T = false) : KI T (upd kinds j kd) (upd elders j (nI e)) := by
  refine ⟨fun t ht => ?_, ?_⟩
  · by_cases et : t = j
    · subst et
      rw [pk_us, pk_us]
      exact Or.inr (Or.inr (Or.inr ⟨hkd, e, he, rfl, by rw [pk_un (fun q => hne q.symm)]; exact hk⟩))
    · rw [pk_un et, pk_un et]
      rcases h.1 t ht with q | q | q | ⟨q, x, hx, q2, q3⟩
      · exact Or.inl q
      · exact Or.inr (Or.inl q)
      · exact Or.inr (Or.inr (Or.inl q))
      · refine Or.inr (Or.inr (Or.inr ⟨q, x, hx, q2, ?_⟩))
        by_cases ex : x = j
        · subst ex
          exact absurd q2 (ie_no h1 ht)
        · rw [pk_un ex]; exact q3
  · have e := ct_upd (kinds := kinds) (v := kd) hj
    have := h.2
    rw [if_neg (show ¬ kd = 2 by rcases hkd with rfl | rfl <;> decide)] at e
    split at e <;> omega
theorem out6 {x : Int32} (h0 : ¬ x = 0) (h1 : ¬ x = 1) (h2 : ¬ x = 2) (h3 : ¬ x = 3) (h4 : ¬ x = 4) (h5 : ¬ x = 5) : x.toInt < 0 ∨ 5 < x.toInt := by
  have q : ∀ (y : Int32), ¬ x = y → ¬ x.toInt = y.toInt := fun y h e => h (Int32.toInt_inj.mp e)
  have e0 := q _ h0; have e1 := q _ h1; have e2 := q _ h2; have e3 := q _ h3; have e4 := q _ h4; have e5 := q _ h5
  rw [show (0 : Int32).toInt = 0 by decide] at e0
  rw [show (1 : Int32).toInt = 1 by decide] at e1
  rw [show (2 : Int32).toInt = 2 by decide] at e2
  rw [show (3 : Int32).toInt = 3 by decide] at e3
  rw [show (4 : Int32).toInt = 4 by decide] at e4
  rw [show (5 : Int32).toInt = 5 by decide] at e5
  omega
theorem out5 {x : Int32} (h0 : ¬ x = 0) (h1 : ¬ x = 1) (h2 : ¬ x = 2) (h3 : ¬ x = 3) (h4 : ¬ x = 4) : x.toInt < 0 ∨ 4 < x.toInt := by
  have q : ∀ (y : Int32), ¬ x = y → ¬ x.toInt = y.toInt := fun y h e => h (Int32.toInt_inj.mp e)
  have e0 := q _ h0; have e1 := q _ h1; have e2 := q _ h2; have e3 := q _ h3; have e4 := q _ h4
  rw [show (0 : Int32).toInt = 0 by decide] at e0
  rw [show (1 : Int32).toInt = 1 by decide] at e1
  rw [show (2 : Int32).toInt = 2 by decide] at e2
  rw [show (3 : Int32).toInt = 3 by decide] at e3
  rw [show (4 : Int32).toInt = 4 by decide] at e4
  omega
theorem wi15 {x : Int32} (h : wiB x 1 5 = true) : ∃ j, (1 ≤ j ∧ j ≤ 5) ∧ x = nI j := by
  obtain ⟨h1, h2⟩ := wi_iff.mp h
  have h3 : ¬ x < 0 := Int32.not_lt.mpr (Int32.le_trans (by decide) h1)
  obtain ⟨j, hj, rfl⟩ := nI_of h3
  exact ⟨j, ⟨(nI_leI (a := 1) (by decide) hj).mp h1, (nI_leI (b := 5) hj (by decide)).mp h2⟩, rfl⟩
theorem wi02 {x : Int32} (h : wiB x 0 2 = true) : x = 0 ∨ x = 1 ∨ x = 2 := by
  obtain ⟨h1, h2⟩ := wi_iff.mp h
  obtain ⟨j, hj, rfl⟩ := nI_of (Int32.not_lt.mpr h1)
  have : j ≤ 2 := (nI_leI (b := 2) hj (by decide)).mp h2
  rcases (show j = 0 ∨ j = 1 ∨ j = 2 by omega) with rfl | rfl | rfl
  · exact Or.inl rfl
  · exact Or.inr (Or.inl rfl)
  · exact Or.inr (Or.inr rfl)
def frR (R C : Nat) (op : Bool) (ap rr rd : Int32) (al : Int64) (waf wof : Nat → Int64) (m : Nat) (way k r : Int32) : Prop := ((wiB way 0 3 && wiB k 0 (nI m)) = false ∧ r = -1) ∨ ((wiB way 0 3 && wiB k 0 (nI m)) = true ∧ FirstIs (wsP R C op ap rr rd al waf wof m way k) (2 ^ m) r)
section WSP
variable {R C : Nat} {op : Bool} {ap rr rd : Int32} {al : Int64} {waf wof : Nat → Int64} {m : Nat} {way k : Int32} {s : Nat}
theorem ws_n1 (h : ¬ bcJ (nI s) = k) : wsP R C op ap rr rd al waf wof m way k s = false := by rw [wsP, decide_eq_false h]; rfl
theorem ws_n2 (h : bI (ctB R C op ap rr rd (opF al waf wof (nI s) m) way) = 0) : wsP R C op ap rr rd al waf wof m way k s = false := by rw [wsP, bI_0.mp h, Bool.and_false]
theorem ws_y (h : bcJ (nI s) = k) (h2 : ¬ bI (ctB R C op ap rr rd (opF al waf wof (nI s) m) way) = 0) : wsP R C op ap rr rd al waf wof m way k s = true := by rw [wsP, bI_n0.mp h2, decide_eq_true h]; rfl
end WSP
theorem ab_ok {T : Nat} {kinds elders numbers slots : Nat → Int32} {op : Bool} {c what : Int32} {j : Nat} (h : wiB (nI j) 0 (nI T - 1) = true) (hj : j < 2 ^ 31) : abV T kinds elders numbers slots op c (nI j) what = if what = 0 then kinds j else if what = 1 then elders j else if what = 2 then numbers j else if what = 3 then slots j - slots j / 32 * 32 else if what = 4 then (if op = true then slots j - slots j / 32 * 32 else (slots j - slots j / 32 * 32) + (if slots j < 32 then 1 else c)) else (-1) := by
  rw [abV, if_neg (by rw [h]; decide), nI_clamp hj]
theorem kd_none {T : Nat} {kinds elders : Nat → Int32} {m : Nat} {x k : Int32} (h1 : wiB x 0 (nI T - 1) = true) (h2 : wiB k 0 2 = true) (h3 : k = 2 ∨ ieB elders x T = false) (h4 : ¬ k = 2 ∨ kinds x.toNatClampNeg = 2 ∨ m < 12) : kdD T kinds elders m x k = none := by
  rw [kdD, if_neg (by rw [p_yy h1 h2]; decide), if_neg (fun q => by rcases h3 with h | h; exact q.1 h; (rw [h] at q; exact absurd q.2 (by decide))), if_neg (fun q => by rcases h4 with h | h | h; exact h q.1; exact q.2.1 h; exact absurd q.2.2 (by omega))]
theorem lt12 {m : Nat} (hm : m ≤ 12) (h : nI m < 12) : m < 12 := by
  rcases Nat.lt_or_ge m 12 with q | q
  · exact q
  · exact absurd (nI_le (a := 12) q (by omega)) (Int32.not_le.mpr h)
