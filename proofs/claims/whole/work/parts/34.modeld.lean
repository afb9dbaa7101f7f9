/-! words for the model, 3: the heaps by their roots -/
def ovr (n : Nat) (f g : Nat → Int32) : Nat → Int32 := fun p => if p < n then f p else g p
theorem ovr_0 (f g : Nat → Int32) : ovr 0 f g = g := by funext p; simp [ovr]
theorem ovr_lt {n : Nat} {f g : Nat → Int32} {p : Nat} (h : p < n) : ovr n f g p = f p := by simp [ovr, h]
theorem ovr_s (i : Nat) (f g : Nat → Int32) {x : Int32} (h : x = f i) : upd (ovr i f g) i x = ovr (i + 1) f g := by
  subst h
  funext j
  by_cases h : j = i
  · subst h; simp [upd, ovr]
  · simp only [upd, ovr, if_neg h]
    by_cases h2 : j < i
    · rw [if_pos h2, if_pos (by omega)]
    · rw [if_neg h2, if_neg (by omega)]
theorem ovr_upd {P x : Nat} (h : x < P) (f g : Nat → Int32) (v : Int32) : upd (ovr P f g) x v = ovr P (upd f x v) g := by
  funext j
  by_cases h2 : j = x
  · subst h2; simp [upd, ovr, h]
  · simp [upd, ovr, h2]
def UF (to : Nat → Int32) (P : Nat) : Prop := ∀ p, p < P → to p = -9 ∨ ∃ q, q ≤ p ∧ to p = nI q ∧ ¬ to q = -9
def rtF (to : Nat → Int32) : Nat → Nat → Nat
  | 0, p => p
  | k + 1, p => if to p = nI p then p else rtF to k (to p).toNatClampNeg
def rt (to : Nat → Int32) (p : Nat) : Nat := rtF to p p
theorem uf_at {to : Nat → Int32} {P p : Nat} (h : UF to P) (hp : p < P) (hne : ¬ to p = -9) (hn : ¬ to p = nI p) : ∃ q, q < p ∧ to p = nI q ∧ ¬ to q = -9 := by
  rcases h p hp with e | ⟨q, q1, q2, q3⟩
  · exact absurd e hne
  · refine ⟨q, ?_, q2, q3⟩
    rcases Nat.lt_or_ge q p with z | z
    · exact z
    · have : q = p := by omega
      subst this; exact absurd q2 hn
theorem rtF_fuel {to : Nat → Int32} {P : Nat} (h : UF to P) (hP : P ≤ 25) : ∀ (p : Nat), p < P → ¬ to p = -9 → ∀ k, p ≤ k → rtF to k p = rtF to p p := by
  intro p
  induction p using Nat.strongRecOn with
  | ind p ih =>
    intro hp hne k hk
    by_cases hn : to p = nI p
    · have : ∀ k, rtF to k p = p := fun k => by cases k <;> simp [rtF, hn]
      rw [this, this]
    · obtain ⟨q, q1, q2, q3⟩ := uf_at h hp hne hn
      obtain ⟨k', rfl⟩ := Nat.exists_eq_add_of_le' (show 1 ≤ k by omega)
      obtain ⟨p', rfl⟩ := Nat.exists_eq_add_of_le' (show 1 ≤ p by omega)
      rw [rtF, if_neg hn, rtF, if_neg hn, q2, nI_clamp (by omega), ih q q1 (by omega) q3 k' (by omega), ih q q1 (by omega) q3 p' (by omega)]
theorem rt_fix {to : Nat → Int32} {p : Nat} (h : to p = nI p) : rt to p = p := by
  unfold rt
  cases p <;> simp [rtF, h]
theorem rt_step {to : Nat → Int32} {P p q : Nat} (h : UF to P) (hP : P ≤ 25) (hp : p < P) (hq : q < p) (e : to p = nI q) (hne : ¬ to q = -9) : rt to p = rt to q := by
  unfold rt
  obtain ⟨p', rfl⟩ := Nat.exists_eq_add_of_le' (show 1 ≤ p by omega)
  rw [rtF, if_neg (by rw [e]; exact fun z => absurd ((nI_eq (by omega) (by omega)).mp z) (by omega)), e, nI_clamp (by omega)]
  exact rtF_fuel h hP q (by omega) hne p' (by omega)
theorem rt_spec {to : Nat → Int32} {P : Nat} (h : UF to P) (hP : P ≤ 25) : ∀ (p : Nat), p < P → ¬ to p = -9 → rt to p ≤ p ∧ to (rt to p) = nI (rt to p) := by
  intro p
  induction p using Nat.strongRecOn with
  | ind p ih =>
    intro hp hne
    by_cases hn : to p = nI p
    · rw [rt_fix hn]; exact ⟨Nat.le_refl _, hn⟩
    · obtain ⟨q, q1, q2, q3⟩ := uf_at h hp hne hn
      rw [rt_step h hP hp q1 q2 q3]
      have := ih q q1 (by omega) q3
      exact ⟨by omega, this.2⟩
theorem nI_n9 {q : Nat} (h : q < 2 ^ 31) : ¬ nI q = -9 := nI_ne9 h
def hoF (to : Nat → Int32) (p : Nat) : Int32 := if to p = -9 then (-9) else nI (rt to p)
/-- the places' heaps are told by hf -/
def JH (to : Nat → Int32) (P : Nat) (hf : Nat → Int32) : Prop := UF to P ∧ ∀ p, p < P → hoF to p = hf p
theorem ovr_uf {P : Nat} {f g : Nat → Int32} (h : UF f P) : UF (ovr P f g) P := by
  intro p hp
  rw [ovr_lt hp]
  rcases h p hp with e | ⟨q, q1, q2, q3⟩
  · exact Or.inl e
  · exact Or.inr ⟨q, q1, q2, by rw [ovr_lt (by omega)]; exact q3⟩
theorem ovr_rt {P : Nat} {f g : Nat → Int32} (h : UF f P) (hP : P ≤ 25) : ∀ p, p < P → ¬ f p = -9 → rt (ovr P f g) p = rt f p := by
  intro p
  induction p using Nat.strongRecOn with
  | ind p ih =>
    intro hp hne
    by_cases hn : f p = nI p
    · rw [rt_fix hn, rt_fix (by rw [ovr_lt hp]; exact hn)]
    · obtain ⟨q, q1, q2, q3⟩ := uf_at h hp hne hn
      rw [rt_step h hP hp q1 q2 q3, rt_step (ovr_uf h) hP hp q1 (by rw [ovr_lt hp]; exact q2) (by rw [ovr_lt (by omega)]; exact q3)]
      exact ih q q1 (by omega) q3
theorem ovr_ho {P : Nat} {f g : Nat → Int32} (h : UF f P) (hP : P ≤ 25) {p : Nat} (hp : p < P) : hoF (ovr P f g) p = hoF f p := by
  unfold hoF
  rw [ovr_lt hp]
  by_cases e : f p = -9
  · rw [if_pos e, if_pos e]
  · rw [if_neg e, if_neg e, ovr_rt h hP p hp e]
theorem ovr_JH {P : Nat} {f g : Nat → Int32} (h : UF f P) (hP : P ≤ 25) : JH (ovr P f g) P (hoF f) := ⟨ovr_uf h, fun _ hp => ovr_ho h hP hp⟩
def to0 (op : Bool) (io : Nat → Int32) : Nat → Int32 := fun p => if op = true ∧ io p = 0 then (-9) else nI p
def jS (R C : Nat) (op : Bool) (io f : Nat → Int32) (r : Nat) : Nat → Int32 := if ¬ f (enM R C r false) = -9 ∧ ¬ f (enM R C r true) = -9 ∧ (op = true ∨ ¬ io r = 0) then (if rt f (enM R C r false) = rt f (enM R C r true) then f else upd f (if rt f (enM R C r false) ≤ rt f (enM R C r true) then rt f (enM R C r true) else rt f (enM R C r false)) (nI (if rt f (enM R C r true) ≤ rt f (enM R C r false) then rt f (enM R C r true) else rt f (enM R C r false)))) else f
def jC (R C : Nat) (op : Bool) (io : Nat → Int32) : Nat → Nat → Int32
  | 0 => to0 op io
  | r + 1 => jS R C op io (jC R C op io r) r
def ioC (kinds elders : Nat → Int32) (se : Int32) : Nat → Int32 := fun t => bI (obM kinds elders t se)
theorem to0_uf (op : Bool) (io : Nat → Int32) (P : Nat) (hP : P ≤ 25) : UF (to0 op io) P := by
  intro p hp
  by_cases h : op = true ∧ io p = 0
  · exact Or.inl (by rw [to0, if_pos h])
  · refine Or.inr ⟨p, Nat.le_refl p, by rw [to0, if_neg h], by rw [to0, if_neg h]; exact nI_n9 (by omega)⟩
theorem en_lt0 : ∀ R, R < 6 → ∀ C, C < 6 → ∀ r, r < 40 → r < rdM R C → enM R C r false < R * C ∧ enM R C r true < R * C := by decide +kernel
theorem en_lt {R C r : Nat} (hR : 1 ≤ R ∧ R ≤ 5) (hC : 1 ≤ C ∧ C ≤ 5) (h : r < rdM R C) (b : Bool) : enM R C r b < R * C := by
  have := en_lt0 R (by omega) C (by omega) r (by have := rd_M hR hC; omega) h
  cases b
  · exact this.1
  · exact this.2
theorem uni_uf {f : Nat → Int32} {P x y : Nat} (h : UF f P) (hP : P ≤ 25) (hx : x < P) (hy : y < P) (ex : f x = nI x) (ey : f y = nI y) (hne : ¬ x = y) : UF (upd f (if x ≤ y then y else x) (nI (if y ≤ x then y else x))) P := by
  intro p hp
  by_cases c : x ≤ y
  · rw [if_pos c, if_neg (by omega)]
    by_cases e : p = y
    · subst e
      refine Or.inr ⟨x, c, by simp [upd], ?_⟩
      simp only [upd, if_neg hne]; rw [ex]; exact nI_n9 (by omega)
    · simp only [upd, if_neg e]
      rcases h p hp with z | ⟨q, q1, q2, q3⟩
      · exact Or.inl z
      · refine Or.inr ⟨q, q1, q2, ?_⟩
        by_cases e2 : q = y
        · rw [if_pos e2]; exact nI_n9 (by omega)
        · rw [if_neg e2]; exact q3
  · rw [if_neg c, if_pos (by omega)]
    by_cases e : p = x
    · subst e
      refine Or.inr ⟨y, by omega, by simp [upd], ?_⟩
      simp only [upd, if_neg (fun q : y = p => hne q.symm)]; rw [ey]; exact nI_n9 (by omega)
    · simp only [upd, if_neg e]
      rcases h p hp with z | ⟨q, q1, q2, q3⟩
      · exact Or.inl z
      · refine Or.inr ⟨q, q1, q2, ?_⟩
        by_cases e2 : q = x
        · rw [if_pos e2]; exact nI_n9 (by omega)
        · rw [if_neg e2]; exact q3
theorem jC_uf {R C : Nat} (hR : 1 ≤ R ∧ R ≤ 5) (hC : 1 ≤ C ∧ C ≤ 5) (op : Bool) (io : Nat → Int32) : ∀ r, r ≤ rdM R C → UF (jC R C op io r) (R * C)
  | 0, _ => to0_uf op io _ (pl_M hR hC)
  | r + 1, hr => by
    have ih := jC_uf hR hC op io r (by omega)
    have hP := pl_M hR hC
    have ha := en_lt hR hC (show r < rdM R C by omega) false
    have hb := en_lt hR hC (show r < rdM R C by omega) true
    rw [jC, jS]
    by_cases c : ¬ jC R C op io r (enM R C r false) = -9 ∧ ¬ jC R C op io r (enM R C r true) = -9 ∧ (op = true ∨ ¬ io r = 0)
    · rw [if_pos c]
      have s1 := rt_spec ih hP _ ha c.1
      have s2 := rt_spec ih hP _ hb c.2.1
      by_cases e : rt (jC R C op io r) (enM R C r false) = rt (jC R C op io r) (enM R C r true)
      · rw [if_pos e]; exact ih
      · rw [if_neg e]
        exact uni_uf ih hP (by omega) (by omega) s1.2 s2.2 e
    · rw [if_neg c]; exact ih
/-- a step of joining, by what the walk has seen -/
theorem jS_n1 {R C : Nat} {op : Bool} {io f : Nat → Int32} {r : Nat} (h : f (enM R C r false) = -9) : jS R C op io f r = f := by rw [jS, if_neg (fun q => q.1 h)]
theorem jS_n2 {R C : Nat} {op : Bool} {io f : Nat → Int32} {r : Nat} (h : f (enM R C r true) = -9) : jS R C op io f r = f := by rw [jS, if_neg (fun q => q.2.1 h)]
theorem jS_n3 {R C : Nat} {op : Bool} {io f : Nat → Int32} {r : Nat} (h : op = false) (h2 : io r = 0) : jS R C op io f r = f := by rw [jS, if_neg (fun q => q.2.2.elim (fun z => by rw [h] at z; cases z) (fun z => z h2))]
theorem jS_e {R C : Nat} {op : Bool} {io f : Nat → Int32} {r : Nat} (h : rt f (enM R C r false) = rt f (enM R C r true)) : jS R C op io f r = f := by rw [jS, if_pos h, ite_self]
theorem jS_y {R C : Nat} {op : Bool} {io f : Nat → Int32} {r x y u v : Nat} (hx : rt f (enM R C r false) = x) (hy : rt f (enM R C r true) = y) (h1 : ¬ f (enM R C r false) = -9) (h2 : ¬ f (enM R C r true) = -9) (h3 : op = true ∨ ¬ io r = 0) (h4 : ¬ x = y) (hu : u = if x ≤ y then y else x) (hv : v = if y ≤ x then y else x) : upd f u (nI v) = jS R C op io f r := by
  subst hx; subst hy; subst hu; subst hv
  exact (show jS R C op io f r = _ by unfold jS; rw [if_pos ⟨h1, h2, h3⟩, if_neg h4]).symm
/-- heaps by setting -/
def hM (R C : Nat) (op : Bool) (kinds elders : Nat → Int32) (se : Int32) : Nat → Int32 := hoF (jC R C op (ioC kinds elders se) (rdM R C))
def anF (p : Nat → Bool) : Nat → Bool
  | 0 => false
  | n + 1 => anF p n || p n
theorem an_iff {p : Nat → Bool} : ∀ {n : Nat}, anF p n = true ↔ ∃ i, i < n ∧ p i = true
  | 0 => by simp [anF]
  | n + 1 => by
    rw [anF, Bool.or_eq_true, an_iff (n := n)]
    constructor
    · rintro (⟨i, h, h2⟩ | h)
      · exact ⟨i, by omega, h2⟩
      · exact ⟨n, by omega, h⟩
    · rintro ⟨i, h, h2⟩
      rcases Nat.lt_or_ge i n with z | z
      · exact Or.inl ⟨i, z, h2⟩
      · exact Or.inr (by rw [show n = i by omega]; exact h2)
theorem an_no {p : Nat → Bool} {n : Nat} (h : ∀ i, i < n → p i = false) : anF p n = false := by
  cases hz : anF p n with
  | false => rfl
  | true => obtain ⟨i, h1, h2⟩ := an_iff.mp hz; rw [h i h1] at h2; cases h2
theorem an_yes {p : Nat → Bool} {n i : Nat} (h : i < n) (h2 : p i = true) : anF p n = true := an_iff.mpr ⟨i, h, h2⟩
theorem JH.le {to hf : Nat → Int32} {P : Nat} (h : JH to P hf) {p : Nat} (hp : p < P) : hoF to p = hf p := h.2 p hp
def eqH (hf : Nat → Int32) (a b : Nat) : Bool := decide (¬ hf a = -9 ∧ hf a = hf b)
def thr0 (R C : Nat) (hf : Nat → Int32) : Bool := anF (fun i => anF (fun j => eqH hf (i * C) (j * C + C - 1)) R) R
def thr1 (R C : Nat) (hf : Nat → Int32) : Bool := anF (fun i => anF (fun j => eqH hf i ((R - 1) * C + j)) C) C
theorem eq_n1 {hf : Nat → Int32} {a b : Nat} (h : hf a = -9) : eqH hf a b = false := decide_eq_false (fun q => q.1 h)
theorem eq_n2 {hf : Nat → Int32} {a b : Nat} (h : ¬ hf a = hf b) : eqH hf a b = false := decide_eq_false (fun q => h q.2)
theorem eq_y {hf : Nat → Int32} {a b : Nat} (h : ¬ hf a = -9) (h2 : hf a = hf b) : eqH hf a b = true := decide_eq_true ⟨h, h2⟩
theorem mulC_lt {R C i : Nat} (hi : i < R) (hC : 1 ≤ C) : i * C < R * C := Nat.mul_lt_mul_of_pos_right hi (by omega)
theorem mulC_lt2 {R C j : Nat} (hj : j < R) (hC : 1 ≤ C) : j * C + C - 1 < R * C := by
  have : (j + 1) * C ≤ R * C := Nat.mul_le_mul_right C hj
  rw [Nat.add_mul, Nat.one_mul] at this
  omega
theorem mulC_lt3 {R C j : Nat} (hR : 1 ≤ R) (hj : j < C) : (R - 1) * C + j < R * C := by
  have : R * C = (R - 1) * C + C := by
    obtain ⟨k, rfl⟩ := Nat.exists_eq_add_of_le' hR
    rw [Nat.add_sub_cancel, Nat.add_mul, Nat.one_mul]
  omega
theorem mulC_lt4 {R C i : Nat} (hR : 1 ≤ R) (hi : i < C) : i < R * C := by
  have : 1 * C ≤ R * C := Nat.mul_le_mul_right C hR
  omega
def wyV (b0 b1 : Bool) : Int32 := (if b0 = true then 1 else 0) + (if b1 = true then 2 else 0)
def isB (b0 b1 : Bool) (way : Int32) : Bool := if way = 0 then b0 else if way = 1 then b1 else if way = 2 then b0 && b1 else b0 || b1
def wyM (R C : Nat) (op : Bool) (kinds elders : Nat → Int32) (s : Nat) : Int32 := wyV (thr0 R C (hM R C op kinds elders (nI s))) (thr1 R C (hM R C op kinds elders (nI s)))
/-- ways are as they were last worked out -/
def WY (R C : Nat) (op : Bool) (kinds elders : Nat → Int32) (hw : Bool) (wy : Nat → Int32) : Prop := hw = true → ∀ s, s < 2 ^ ctF kinds (thM R C op) → wy s = wyM R C op kinds elders s
def isM (R C : Nat) (op : Bool) (kinds elders : Nat → Int32) (s : Nat) (way : Int32) : Bool := isB (thr0 R C (hM R C op kinds elders (nI s))) (thr1 R C (hM R C op kinds elders (nI s))) way
theorem is_0 {b0 b1 : Bool} : isB b0 b1 0 = b0 := by cases b0 <;> cases b1 <;> decide
theorem is_1 {b0 b1 : Bool} : isB b0 b1 1 = b1 := by cases b0 <;> cases b1 <;> decide
theorem is_0a {b0 b1 : Bool} : b0 = decide (wyV b0 b1 - wyV b0 b1 / 2 * 2 = 1) := by cases b0 <;> cases b1 <;> decide
theorem is_1a {b0 b1 : Bool} : b1 = decide (¬ wyV b0 b1 ≤ 1) := by cases b0 <;> cases b1 <;> decide
theorem is_2a {b0 b1 : Bool} : (b0 && b1) = decide (wyV b0 b1 = 3) := by cases b0 <;> cases b1 <;> decide
theorem is_3a {b0 b1 : Bool} : (b0 || b1) = decide (¬ wyV b0 b1 ≤ 0) := by cases b0 <;> cases b1 <;> decide
theorem is_2 {b0 b1 : Bool} {way : Int32} (h : ¬ way = 0) (h1 : ¬ way = 1) (h2 : way = 2) : isB b0 b1 way = (b0 && b1) := by rw [isB, if_neg h, if_neg h1, if_pos h2]
theorem is_3 {b0 b1 : Bool} {way : Int32} (h : ¬ way = 0) (h1 : ¬ way = 1) (h2 : ¬ way = 2) : isB b0 b1 way = (b0 || b1) := by rw [isB, if_neg h, if_neg h1, if_neg h2]
theorem nle {a b : Nat} (h : nI a ≤ nI b) (ha : a < 2 ^ 31) (hb : b < 2 ^ 31) : a ≤ b := (nI_leI ha hb).mp h
theorem nnle {a b : Nat} (h : ¬ nI a ≤ nI b) (ha : a < 2 ^ 31) (hb : b < 2 ^ 31) : ¬ a ≤ b := fun q => h ((nI_leI ha hb).mpr q)
theorem ovr_e {P p : Nat} {f g : Nat → Int32} {x : Int32} (hp : p < P) (h : ovr P f g p = x) : f p = x := (ovr_lt hp).symm.trans h
theorem ovr_ne {P p : Nat} {f g : Nat → Int32} {x : Int32} (hp : p < P) (h : ¬ ovr P f g p = x) : ¬ f p = x := fun q => h ((ovr_lt hp).trans q)
theorem t0_a {op : Bool} {io : Nat → Int32} {p : Nat} (h : bI op = 0) : nI p = to0 op io p := by rw [to0, if_neg (fun q => by rw [bI_0.mp h] at q; exact absurd q.1 (by decide))]
theorem t0_b {op : Bool} {io : Nat → Int32} {p : Nat} (h : ¬ bI op = 0) (h2 : io p = 0) : -9 = to0 op io p := by rw [to0, if_pos ⟨bI_n0.mp h, h2⟩]
theorem t0_c {op : Bool} {io : Nat → Int32} {p : Nat} (h2 : ¬ io p = 0) : nI p = to0 op io p := by rw [to0, if_neg (fun q => h2 q.2)]
