/-! words for the model, 5: pivots and walls -/
theorem sm32 : ∀ n, n < 32 → ((nI n &&& 31).toBitVec.smod 32).toNat = n := by decide +kernel
theorem bitM_nI {s i : Nat} (hs : s < 2 ^ 31) (hi : i < 32) : bitM (nI s) i = nI (s / 2 ^ i % 2) := by
  rw [bitM, pk_shrN hs _ i (sm32 i hi)]
  exact pk_andN (Nat.lt_of_le_of_lt (Nat.div_le_self _ _) (by omega)) 1 (by decide)
theorem pv_sub {s i : Nat} (hs : s < 4096) (hi : i < 12) (h : (nI s >>> (nI i &&& 31)) &&& 1 = 1) : 2 ^ i ≤ s ∧ nI s - ((1 : Int32) <<< (nI i &&& 31)) = nI (s - 2 ^ i) := by
  have h1 : nI (s / 2 ^ i % 2) = nI 1 := (bitM_nI (by omega) (by omega)).symm.trans h
  have h2 : s / 2 ^ i % 2 = 1 := (nI_eq (by omega) (by omega)).mp h1
  have h3 : 2 ^ i ≤ s := by
    rcases Nat.lt_or_ge s (2 ^ i) with q | q
    · rw [Nat.div_eq_of_lt q] at h2; exact absurd h2 (by decide)
    · exact q
  exact ⟨h3, by rw [shl_m i (by omega), pk_sub h3]⟩
def pvM (R C : Nat) (op : Bool) (kinds elders : Nat → Int32) (way : Int32) (i s : Nat) : Bool := decide (bitM (nI s) i = 1) && (isM R C op kinds elders s way && !isM R C op kinds elders (s - 2 ^ i) way)
def pvVM (R C : Nat) (op : Bool) (kinds elders : Nat → Int32) (way i : Int32) : Int32 := if (wiB way 0 3 && wiB i 0 (nI (ctF kinds (thM R C op)) - 1)) = true then cnI (pvM R C op kinds elders way i.toNatClampNeg) (2 ^ ctF kinds (thM R C op)) else (-1)
section PVq
variable {R C : Nat} {op : Bool} {kinds elders : Nat → Int32} {way : Int32} {s i : Nat}
theorem pm_n1 (h : ¬ (nI s >>> (nI i &&& 31)) &&& 1 = 1) : pvM R C op kinds elders way i s = false := by rw [pvM, bitM, decide_eq_false h]; rfl
theorem pm_n2 (h : bI (isM R C op kinds elders s way) = 0) : pvM R C op kinds elders way i s = false := by rw [pvM, bI_0.mp h]; simp
theorem pm_n3 (h : ¬ bI (isM R C op kinds elders (s - 2 ^ i) way) = 0) : pvM R C op kinds elders way i s = false := by rw [pvM, bI_n0.mp h]; simp
theorem pm_y (h : (nI s >>> (nI i &&& 31)) &&& 1 = 1) (h2 : ¬ bI (isM R C op kinds elders s way) = 0) (h3 : bI (isM R C op kinds elders (s - 2 ^ i) way) = 0) : pvM R C op kinds elders way i s = true := by rw [pvM, bI_n0.mp h2, bI_0.mp h3, bitM, decide_eq_true h]; rfl
end PVq
def rrM (R C : Nat) (tu : Bool) (r c : Nat) : Nat := if tu = true then R * (C - 1) + c * C + r else r * (C - 1) + c
def rnM (R C : Nat) (tu : Bool) (r c : Nat) : Nat := if tu = true then c * (C - 1) + r else R * (C - 1) + r * C + c
/-- hanging together -/
def Cn (E : Nat → Nat → Prop) (a b : Nat) : Prop := ∀ S : Nat → Prop, (∀ x y, E x y → (S x ↔ S y)) → S a → S b
theorem Cn.refl {E : Nat → Nat → Prop} (a : Nat) : Cn E a a := fun _ _ h => h
theorem Cn.trans {E : Nat → Nat → Prop} {a b c : Nat} (h : Cn E a b) (h2 : Cn E b c) : Cn E a c := fun S hS ha => h2 S hS (h S hS ha)
theorem Cn.symm {E : Nat → Nat → Prop} {a b : Nat} (h : Cn E a b) : Cn E b a := by
  intro S hS hb
  refine Classical.byContradiction (fun na => ?_)
  exact h (fun x => ¬ S x) (fun x y e => not_congr (hS x y e)) na hb
theorem Cn.edge {E : Nat → Nat → Prop} {a b : Nat} (h : E a b) : Cn E a b := fun _ hS ha => (hS a b h).mp ha
theorem Cn.mono {E F : Nat → Nat → Prop} (h : ∀ x y, E x y → F x y) {a b : Nat} (hc : Cn E a b) : Cn F a b := fun S hS => hc S (fun x y e => hS x y (h x y e))
def GE (H G : Nat) (sR sD : Nat → Nat → Bool) (x y : Nat) : Prop := (∃ r c, r < H ∧ c < G ∧ sR r c = true ∧ x = 6 * r + c ∧ y = 6 * r + c + 6) ∨ (∃ r c, 0 < r ∧ r < H ∧ c + 1 < G ∧ sD r c = true ∧ x = 6 * r + c ∧ y = 6 * r + c + 1)
def shRM (R C : Nat) (tu : Bool) (io : Nat → Int32) (r c : Nat) : Bool := decide (io (rrM R C tu r c) = 0)
def shDM (R C : Nat) (tu : Bool) (io : Nat → Int32) (r c : Nat) : Bool := decide (io (rnM R C tu (r - 1) (c + 1)) = 0)
def WLP (H G : Nat) (sR sD : Nat → Nat → Bool) : Prop := ∃ c c', c < G ∧ c' < G ∧ Cn (GE H G sR sD) c (6 * H + c')
noncomputable def wlM (H G : Nat) (sR sD : Nat → Nat → Bool) : Bool := @decide (WLP H G sR sD) (Classical.propDecidable _)
theorem wl_iff {H G : Nat} {sR sD : Nat → Nat → Bool} : wlM H G sR sD = true ↔ WLP H G sR sD := @decide_eq_true_iff _ (Classical.propDecidable _)
def bF (mb : Nat → Bool) : Nat → Int32 := fun k => bI (mb k)
def ub (mb : Nat → Bool) (k : Nat) : Nat → Bool := fun j => if j = k then true else mb j
theorem bF_ub (mb : Nat → Bool) (k : Nat) : upd (bF mb) k (bI true) = bF (ub mb k) := by
  funext j; by_cases h : j = k <;> simp [upd, bF, ub, h]
def cf (mb : Nat → Bool) : Nat → Nat
  | 0 => 0
  | n + 1 => cf mb n + (if mb n = true then 0 else 1)
theorem ub_t {mb : Nat → Bool} {k : Nat} (h : mb k = true) : ub mb k = mb := by
  funext j; by_cases e : j = k
  · subst e; simp [ub, h]
  · simp [ub, e]
theorem ub_self (mb : Nat → Bool) (k : Nat) : ub mb k k = true := by simp [ub]
theorem ub_ne {mb : Nat → Bool} {k j : Nat} (h : ¬ j = k) : ub mb k j = mb j := by simp [ub, h]
theorem ub_mono {mb : Nat → Bool} {k j : Nat} (h : mb j = true) : ub mb k j = true := by
  by_cases e : j = k
  · subst e; exact ub_self _ _
  · rw [ub_ne e]; exact h
theorem cf_ge {mb : Nat → Bool} {k : Nat} : ∀ n, n ≤ k → cf (ub mb k) n = cf mb n
  | 0, _ => rfl
  | n + 1, h => by rw [cf, cf, cf_ge n (by omega), ub_ne (by omega)]
theorem cf_lt {mb : Nat → Bool} {k : Nat} (h : mb k = false) : ∀ n, k < n → cf (ub mb k) n + 1 = cf mb n
  | 0, hk => absurd hk (Nat.not_lt_zero _)
  | n + 1, hk => by
    rw [cf, cf]
    by_cases e : n = k
    · subst e
      rw [cf_ge n (Nat.le_refl _), ub_self, h]; rfl
    · have := cf_lt h n (by omega)
      rw [ub_ne e]; omega
/-- both ends of an edge are met; one was before -/
theorem cf_two {mb : Nat → Bool} {a b : Nat} (ha : a < 36) (hb : b < 36) (hab : ¬ a = b) (hne : ¬ mb a = mb b) : cf (ub (ub mb a) b) 36 + 1 = cf mb 36 := by
  cases h1 : mb a with
  | true =>
    have h2 : mb b = false := by cases h2 : mb b; rfl; exact absurd (h1.trans h2.symm) hne
    rw [ub_t h1]; exact cf_lt h2 36 hb
  | false =>
    have h2 : mb b = true := by cases h2 : mb b; exact absurd (h1.trans h2.symm) hne; rfl
    rw [ub_t (ub_mono h2)]; exact cf_lt h1 36 ha
section WLq
variable {H G : Nat} {sR sD : Nat → Nat → Bool} {N0 r c : Nat} {mb : Nat → Bool} {mr : Bool}
def WI (H G : Nat) (sR sD : Nat → Nat → Bool) (mb : Nat → Bool) : Prop := (∀ k, k < 36 → mb k = true → ∃ c, c < G ∧ Cn (GE H G sR sD) c k) ∧ ∀ c, c < G → mb c = true
def BR (H : Nat) (sR : Nat → Nat → Bool) (mb : Nat → Bool) (r c : Nat) : Prop := r < H → sR r c = true → mb (6 * r + c) = mb (6 * r + c + 6)
def BD (H G : Nat) (sD : Nat → Nat → Bool) (mb : Nat → Bool) (r c : Nat) : Prop := 0 < r → r < H → c + 1 < G → sD r c = true → mb (6 * r + c) = mb (6 * r + c + 1)
def PI (H G : Nat) (sR sD : Nat → Nat → Bool) (N0 r c : Nat) (mb : Nat → Bool) (mr : Bool) : Prop := WI H G sR sD mb ∧ (mr = false → cf mb 36 = N0 ∧ ∀ r' c', c' < G → (r' < r ∨ (r' = r ∧ c' < c)) → BR H sR mb r' c' ∧ BD H G sD mb r' c') ∧ (mr = true → cf mb 36 < N0)
def PI1 (H G : Nat) (sR sD : Nat → Nat → Bool) (N0 r c : Nat) (mb : Nat → Bool) (mr : Bool) : Prop := PI H G sR sD N0 r c mb mr ∧ (mr = false → BR H sR mb r c)
theorem PI.b1 (h : PI H G sR sD N0 r c mb mr) (hb : BR H sR mb r c) : PI1 H G sR sD N0 r c mb mr := ⟨h, fun _ => hb⟩
theorem PI1.b2 (h : PI1 H G sR sD N0 r c mb mr) (hb : BD H G sD mb r c) : PI H G sR sD N0 r (c + 1) mb mr := by
  refine ⟨h.1.1, fun e => ⟨(h.1.2.1 e).1, fun r' c' h1 h2 => ?_⟩, h.1.2.2⟩
  by_cases q : r' < r ∨ (r' = r ∧ c' < c)
  · exact (h.1.2.1 e).2 r' c' h1 q
  · have e1 : r' = r := by omega
    have e2 : c' = c := by omega
    subst e1; subst e2
    exact ⟨h.2 e, hb⟩
theorem PI.row (h : PI H G sR sD N0 r G mb mr) : PI H G sR sD N0 (r + 1) 0 mb mr :=
  ⟨h.1, fun e => ⟨(h.2.1 e).1, fun r' c' h1 h2 => (h.2.1 e).2 r' c' h1 (by omega)⟩, h.2.2⟩
theorem WI.two (h : WI H G sR sD mb) {a b : Nat} (ha : a < 36) (hb : b < 36) (he : GE H G sR sD a b) (hne : ¬ mb a = mb b) : WI H G sR sD (ub (ub mb a) b) := by
  have hr : ∃ c, c < G ∧ Cn (GE H G sR sD) c a ∧ Cn (GE H G sR sD) c b := by
    cases h1 : mb a with
    | true => obtain ⟨c, c1, c2⟩ := h.1 a ha h1; exact ⟨c, c1, c2, c2.trans (Cn.edge he)⟩
    | false =>
      have h2 : mb b = true := by cases h2 : mb b; exact absurd (h1.trans h2.symm) hne; rfl
      obtain ⟨c, c1, c2⟩ := h.1 b hb h2; exact ⟨c, c1, c2.trans (Cn.edge he).symm, c2⟩
  obtain ⟨c, c1, c2, c3⟩ := hr
  refine ⟨fun k hk hm => ?_, fun d hd => ub_mono (ub_mono (h.2 d hd))⟩
  by_cases e : k = b
  · subst e; exact ⟨c, c1, c3⟩
  · rw [ub_ne e] at hm
    by_cases e2 : k = a
    · subst e2; exact ⟨c, c1, c2⟩
    · rw [ub_ne e2] at hm; exact h.1 k hk hm
theorem PI.less (h : PI H G sR sD N0 r c mb mr) : cf mb 36 ≤ N0 := by
  cases mr with
  | false => exact Nat.le_of_eq (h.2.1 rfl).1
  | true => exact Nat.le_of_lt (h.2.2 rfl)
theorem PI.s1 (h : PI H G sR sD N0 r c mb mr) (hH : H ≤ 5) (hG : G ≤ 4) (hr : r < H) (hc : c < G) (hs : sR r c = true) (hne : ¬ mb (6 * r + c) = mb (6 * r + c + 6)) : PI1 H G sR sD N0 r c (ub (ub mb (6 * r + c)) (6 * r + c + 6)) true := by
  have h1 := cf_two (mb := mb) (a := 6 * r + c) (b := 6 * r + c + 6) (by omega) (by omega) (by omega) hne
  have h2 := h.less
  exact ⟨⟨h.1.two (by omega) (by omega) (Or.inl ⟨r, c, hr, hc, hs, rfl, rfl⟩) hne, fun e => (by cases e), fun _ => by omega⟩, fun e => by cases e⟩
theorem PI1.s2 (h : PI1 H G sR sD N0 r c mb mr) (hH : H ≤ 5) (hG : G ≤ 4) (h0 : 0 < r) (hr : r < H) (hc : c + 1 < G) (hs : sD r c = true) (hne : ¬ mb (6 * r + c) = mb (6 * r + c + 1)) : PI H G sR sD N0 r (c + 1) (ub (ub mb (6 * r + c)) (6 * r + c + 1)) true := by
  have h1 := cf_two (mb := mb) (a := 6 * r + c) (b := 6 * r + c + 1) (by omega) (by omega) (by omega) hne
  have h2 := h.1.less
  exact ⟨h.1.1.two (by omega) (by omega) (Or.inr ⟨r, c, h0, hr, hc, hs, rfl, rfl⟩) hne, fun e => (by cases e), fun _ => by omega⟩
theorem PI.start (h : WI H G sR sD mb) : PI H G sR sD (cf mb 36) 0 0 mb false := ⟨h, fun _ => ⟨rfl, fun r' c' _ q => by omega⟩, fun e => by cases e⟩
theorem PI.fin (h : PI H G sR sD N0 (H + 1) 0 mb false) (hH : H ≤ 5) (hG : G ≤ 4) : anF (fun c => mb (6 * H + c)) G = wlM H G sR sD := by
  have hcl : ∀ x y, GE H G sR sD x y → (mb x = true ↔ mb y = true) := by
    intro x y e
    rcases e with ⟨r, c, h1, h2, h3, rfl, rfl⟩ | ⟨r, c, h0, h1, h2, h3, rfl, rfl⟩
    · rw [((h.2.1 rfl).2 r c h2 (by omega)).1 h1 h3]
    · rw [((h.2.1 rfl).2 r c (by omega) (by omega)).2 h0 h1 h2 h3]
  rw [Bool.eq_iff_iff, an_iff, wl_iff]
  constructor
  · rintro ⟨c', h1, h2⟩
    obtain ⟨c, c1, c2⟩ := h.1.1 (6 * H + c') (by omega) h2
    exact ⟨c, c', c1, h1, c2⟩
  · rintro ⟨c, c', h1, h2, h3⟩
    exact ⟨c', h2, h3 (fun k => mb k = true) hcl (h.1.2 c h1)⟩
theorem WI.start (hH : H ≤ 5) (hG : G ≤ 4) : WI H G sR sD (fun k => decide (k < G)) := ⟨fun k _ h => ⟨k, of_decide_eq_true h, Cn.refl k⟩, fun _ h => decide_eq_true h⟩
end WLq
theorem bF_inj {mb : Nat → Bool} {a b : Nat} (h : bF mb a = bF mb b) : mb a = mb b := by
  revert h; unfold bF; cases mb a <;> cases mb b <;> simp [bI]
theorem bF_ninj {mb : Nat → Bool} {a b : Nat} (h : ¬ bF mb a = bF mb b) : ¬ mb a = mb b := fun q => h (by unfold bF; rw [q])
theorem rr_lt0 : ∀ R C r c : Fin 6, (r.val < R.val → c.val < C.val - 1 → rrM R.val C.val false r.val c.val < rdM R.val C.val) ∧ (r.val < C.val → c.val < R.val - 1 → rrM R.val C.val true r.val c.val < rdM R.val C.val) := by decide +kernel
theorem rn_lt0 : ∀ R C r c : Fin 6, (r.val + 1 < R.val → c.val < C.val - 1 → rnM R.val C.val false r.val c.val < rdM R.val C.val) ∧ (r.val + 1 < C.val → c.val < R.val - 1 → rnM R.val C.val true r.val c.val < rdM R.val C.val) := by decide +kernel
theorem rrf_lt {R C r c : Nat} (hR : 1 ≤ R ∧ R ≤ 5) (hC : 1 ≤ C ∧ C ≤ 5) (hr : r < R) (hc : c < C - 1) : rrM R C false r c < rdM R C := (rr_lt0 ⟨R, by omega⟩ ⟨C, by omega⟩ ⟨r, by omega⟩ ⟨c, by omega⟩).1 hr hc
theorem rrt_lt {R C r c : Nat} (hR : 1 ≤ R ∧ R ≤ 5) (hC : 1 ≤ C ∧ C ≤ 5) (hr : r < C) (hc : c < R - 1) : rrM R C true r c < rdM R C := (rr_lt0 ⟨R, by omega⟩ ⟨C, by omega⟩ ⟨r, by omega⟩ ⟨c, by omega⟩).2 hr hc
theorem rnf_lt {R C r c : Nat} (hR : 1 ≤ R ∧ R ≤ 5) (hC : 1 ≤ C ∧ C ≤ 5) (hr : r + 1 < R) (hc : c < C - 1) : rnM R C false r c < rdM R C := (rn_lt0 ⟨R, by omega⟩ ⟨C, by omega⟩ ⟨r, by omega⟩ ⟨c, by omega⟩).1 hr hc
theorem rnt_lt {R C r c : Nat} (hR : 1 ≤ R ∧ R ≤ 5) (hC : 1 ≤ C ∧ C ≤ 5) (hr : r + 1 < C) (hc : c < R - 1) : rnM R C true r c < rdM R C := (rn_lt0 ⟨R, by omega⟩ ⟨C, by omega⟩ ⟨r, by omega⟩ ⟨c, by omega⟩).2 hr hc
/-- whether a wall stands, as the model says it -/
noncomputable def waM (R C : Nat) (tu : Bool) (io : Nat → Int32) : Bool := if tu = true then wlM C (R - 1) (shRM R C true io) (shDM R C true io) else wlM R (C - 1) (shRM R C false io) (shDM R C false io)
noncomputable def waVM (R C : Nat) (op : Bool) (kinds elders : Nat → Int32) (se way : Int32) : Int32 := if (wiB se 0 (nI (2 ^ ctF kinds (thM R C op)) - 1) && wiB way 0 1) = true then (if op = true then (-2) else bI (waM R C (decide (way = 1)) (ioC kinds elders se))) else (-1)
noncomputable def wlQ (R C : Nat) (kinds elders : Nat → Int32) (way k : Int32) (s : Nat) : Bool := decide (bsM (nI s) 12 = k) && waM R C (decide (way = 1)) (ioC kinds elders (nI s))
noncomputable def wlsVM (R C : Nat) (op : Bool) (kinds elders : Nat → Int32) (way k : Int32) : Int32 := if op = true then (-2) else if (wiB way 0 1 && wiB k 0 (nI (ctF kinds (thM R C op)))) = true then cnI (wlQ R C kinds elders way k) (2 ^ ctF kinds (thM R C op)) else (-1)
theorem z_r {r : Nat} (h : nI r ≤ 0) (hr : r < 2 ^ 31) : ¬ 0 < r := Nat.not_lt.mpr (nle (b := 0) h hr (by decide))
theorem p_r {r : Nat} (h : ¬ nI r ≤ 0) : 0 < r := by
  rcases Nat.eq_zero_or_pos r with q | q
  · subst q; exact absurd (Int32.le_refl _) h
  · exact q
theorem b_no {i n : Nat} (h : nI n ≤ nI i) (hn : n < 2 ^ 31) (hi : i < 2 ^ 31) : bI false = bF (fun k => decide (k < n)) i := by
  show _ = bI (decide (i < n)); rw [decide_eq_false (Nat.not_lt.mpr (nle h hn hi))]
theorem b_ye {i n : Nat} (h : ¬ nI n ≤ nI i) (hn : n < 2 ^ 31) (hi : i < 2 ^ 31) : bI true = bF (fun k => decide (k < n)) i := by
  show _ = bI (decide (i < n)); rw [decide_eq_true (nlt_nat h hi hn)]
theorem wq_y {R C : Nat} {kinds elders : Nat → Int32} {way k : Int32} {s : Nat} {b : Bool} (h : bsM (nI s) 12 = k) (hb : decide (way = 1) = b) (h2 : ¬ bI (waM R C b (ioC kinds elders (nI s))) = 0) : wlQ R C kinds elders way k s = true := by
  rw [wlQ, hb, bI_n0.mp h2, decide_eq_true h]; rfl
theorem wq_n {R C : Nat} {kinds elders : Nat → Int32} {way k : Int32} {s : Nat} {b : Bool} (hb : decide (way = 1) = b) (h2 : bI (waM R C b (ioC kinds elders (nI s))) = 0) : wlQ R C kinds elders way k s = false := by
  rw [wlQ, hb, bI_0.mp h2, Bool.and_false]
