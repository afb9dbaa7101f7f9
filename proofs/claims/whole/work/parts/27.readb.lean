/-! reading kinds from a row -/
/-- what follows from kinds and elders, as settle() leaves it -/
def DV (T : Nat) (slots kinds elders numbers : Nat → Int32) (m : Nat) (al : Int64) (waf wof : Nat → Int64) : Prop := m = ctF kinds T ∧ (∃ s0, numbers = nuF kinds s0 T) ∧ al = seA kinds slots T ∧ (∃ w0, waf = seW kinds elders numbers slots (fiF w0 0 12) T) ∧ ∃ w0, wof = seO kinds elders numbers slots (fiF w0 0 12) T
def rkK (row kinds : Nat → Int32) : Nat → Nat → Int32
  | 0 => kinds
  | i + 1 => upd (rkK row kinds i) i (row i)
def rkE (elders : Nat → Int32) : Nat → Nat → Int32
  | 0 => elders
  | i + 1 => upd (rkE elders i) i (-9)
def rkD (T : Nat) (row kinds elders : Nat → Int32) (i : Nat) : Option Int32 := kdD T (rkK row kinds i) (rkE elders i) (ctF (rkK row kinds i) T) (nI i) (row i)
/-- i things took their kinds; f is what it ended at -/
def rkO (T n : Nat) (row kinds elders : Nat → Int32) (i : Nat) (f : Int32) : Prop := i ≤ n ∧ (∀ t, t < i → rkD T row kinds elders t = none) ∧ ((i = n ∧ f = 0) ∨ (i < n ∧ rkD T row kinds elders i = some f))
theorem kd_neg {T : Nat} {kinds elders : Nat → Int32} {m : Nat} {x k e : Int32} (h : kdD T kinds elders m x k = some e) : ¬ 0 ≤ e := by
  unfold kdD at h
  split at h
  · cases h; decide
  · split at h
    · cases h; decide
    · split at h
      · cases h; decide
      · cases h
theorem kd_ok {T : Nat} {kinds elders : Nat → Int32} {m : Nat} {x k : Int32} (h : kdD T kinds elders m x k = none) : wiB x 0 (nI T - 1) = true ∧ (k = 0 ∨ k = 1 ∨ k = 2) ∧ (¬ k = 2 → ieB elders x T = false) ∧ (k = 2 → ¬ kinds x.toNatClampNeg = 2 → m < 12) := by
  by_cases c : (wiB x 0 (nI T - 1) && wiB k 0 2) = false
  · rw [kdD, if_pos c] at h; cases h
  · have c1 := Bool.and_eq_true_iff.mp (Bool.not_eq_false _ ▸ c)
    by_cases c2 : ¬ k = 2 ∧ ieB elders x T = true
    · rw [kdD, if_neg c, if_pos c2] at h; cases h
    · by_cases c3 : k = 2 ∧ ¬ kinds x.toNatClampNeg = 2 ∧ 12 ≤ m
      · rw [kdD, if_neg c, if_neg c2, if_pos c3] at h; cases h
      · refine ⟨c1.1, wi02 c1.2, fun q => ?_, fun q q2 => ?_⟩
        · cases hz : ieB elders x T with
          | false => rfl
          | true => exact absurd ⟨q, hz⟩ c2
        · exact Nat.lt_of_not_le (fun z => c3 ⟨q, q2, z⟩)
theorem KI.ge0 {T : Nat} {kinds elders : Nat → Int32} (h : KI T kinds elders) {t : Nat} (ht : t < T) : 0 ≤ kinds t := by
  rcases h.1 t ht with q | q | q | ⟨q | q, -⟩
  · rw [q.1]; decide
  · rw [q.1]; decide
  · rw [q.1]; decide
  · rw [q]; decide
  · rw [q]; decide
theorem KI.step {T : Nat} {kinds elders : Nat → Int32} (h : KI T kinds elders) (hT : T ≤ 40) {j : Nat} (hj : j < T) {k : Int32} (hk : kdD T kinds elders (ctF kinds T) (nI j) k = none) : KI T (upd kinds j k) (upd elders j (-9)) := by
  obtain ⟨-, h2, h3, h4⟩ := kd_ok hk
  rw [nI_clamp (by omega)] at h4
  exact h.kind hT hj h2 h3 h4
theorem min_nI {T len : Nat} (hT : T ≤ 40) (hl : len ≤ 40) : (if nI T < nI len then nI T else nI len) = nI (if T < len then T else len) := by
  by_cases h : T < len
  · rw [if_pos h, if_pos (nI_lt h (by omega))]
  · rw [if_neg h, if_neg (nI_nlt (by omega) (by omega))]
