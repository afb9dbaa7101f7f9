/-! words for the model, 6: sheets in flat arrays -/
def MR (r : RW) (k b : Nat) (rs ce : Nat → Int32) : Prop := match r with
  | none => rs k = -9
  | some (len, f) => rs k = nI len ∧ len ≤ 40 ∧ ∀ i, i < len → ce (b + i) = f i
def MS1 (s : SH) (a : Nat) (hs so sr rs ce : Nat → Int32) : Prop := match s with
  | none => hs a = 0
  | some (s1, nr, rows) => hs a = 1 ∧ so a = s1 ∧ sr a = nI nr ∧ (s1 = 0 ∨ s1 = 1) ∧ nr ≤ 4 ∧ ∀ j, j < nr → MR (rows j) (4 * a + j) (160 * a + 40 * j) rs ce
def MSh (abs : Nat → SH) (hs so sr rs ce : Nat → Int32) : Prop := ∀ a, a < 3 → MS1 (abs a) a hs so sr rs ce
section MSq
variable {abs : Nat → SH} {hs so sr rs ce hs' so' sr' rs' ce' : Nat → Int32} {a nr : Nat} {s1 : Int32} {rows : Nat → RW}
theorem ms_none (h : MSh abs hs so sr rs ce) (ha : a < 3) (e : abs a = none) : hs a = 0 := by
  have := h a ha; rw [e] at this; exact this
theorem ms_some (h : MSh abs hs so sr rs ce) (ha : a < 3) (e : abs a = some (s1, nr, rows)) : hs a = 1 ∧ so a = s1 ∧ sr a = nI nr ∧ (s1 = 0 ∨ s1 = 1) ∧ nr ≤ 4 ∧ ∀ j, j < nr → MR (rows j) (4 * a + j) (160 * a + 40 * j) rs ce := by
  have := h a ha; rw [e] at this; exact this
theorem mr_none {r : RW} {k b : Nat} (h : MR r k b rs ce) (e : r = none) : rs k = -9 := by subst e; exact h
theorem mr_some {r : RW} {k b len : Nat} {f : Nat → Int32} (h : MR r k b rs ce) (e : r = some (len, f)) : rs k = nI len ∧ len ≤ 40 ∧ ∀ i, i < len → ce (b + i) = f i := by subst e; exact h
theorem MR.kept {r : RW} {k b : Nat} (h : MR r k b rs ce) (h1 : rs' k = rs k) (h2 : ∀ i, i < 40 → ce' (b + i) = ce (b + i)) : MR r k b rs' ce' := by
  cases r with
  | none => show rs' k = -9; rw [h1]; exact h
  | some v =>
    obtain ⟨len, f⟩ := v
    have h3 : rs k = nI len ∧ len ≤ 40 ∧ ∀ i, i < len → ce (b + i) = f i := h
    exact ⟨by rw [h1]; exact h3.1, h3.2.1, fun i hi => by rw [h2 i (by omega)]; exact h3.2.2 i hi⟩
theorem MSh.change (h : MSh abs hs so sr rs ce) (s' : SH) (h1 : MS1 s' a hs' so' sr' rs' ce') (h2 : ∀ b, b < 3 → ¬ b = a → hs' b = hs b ∧ so' b = so b ∧ sr' b = sr b ∧ (∀ j, j < 4 → rs' (4 * b + j) = rs (4 * b + j)) ∧ (∀ j i, j < 4 → i < 40 → ce' (160 * b + 40 * j + i) = ce (160 * b + 40 * j + i))) : MSh (upA abs a s') hs' so' sr' rs' ce' := by
  intro b hb
  by_cases e : b = a
  · subst e; rw [upA_s]; exact h1
  · rw [upA_n e]
    obtain ⟨q1, q2, q3, q4, q5⟩ := h2 b hb e
    have hh := h b hb
    cases hz : abs b with
    | none => rw [hz] at hh; show hs' b = 0; rw [q1]; exact hh
    | some v =>
      obtain ⟨t1, n1, r1⟩ := v
      rw [hz] at hh
      obtain ⟨g1, g2, g3, g4, g5, g6⟩ := (show hs b = 1 ∧ so b = t1 ∧ sr b = nI n1 ∧ (t1 = 0 ∨ t1 = 1) ∧ n1 ≤ 4 ∧ ∀ j, j < n1 → MR (r1 j) (4 * b + j) (160 * b + 40 * j) rs ce from hh)
      exact ⟨by rw [q1]; exact g1, by rw [q2]; exact g2, by rw [q3]; exact g3, g4, g5, fun j hj => (g6 j hj).kept (q4 j (by omega)) (fun i hi => q5 j i (by omega) hi)⟩
/-- one row of a sheet that is there is another -/
theorem MSh.row (h : MSh abs hs so sr rs ce) (ha : a < 3) (e : abs a = some (s1, nr, rows)) {jr : Nat} (hj : jr < nr) (r' : RW) (h1 : MR r' (4 * a + jr) (160 * a + 40 * jr) rs' ce') (h2 : ∀ k, k < 12 → ¬ k = 4 * a + jr → rs' k = rs k) (h3 : ∀ k, k < 160 * a + 40 * jr ∨ 160 * a + 40 * jr + 40 ≤ k → ce' k = ce k) : MSh (upA abs a (some (s1, nr, upA rows jr r'))) hs so sr rs' ce' := by
  obtain ⟨g1, g2, g3, g4, g5, g6⟩ := ms_some h ha e
  refine h.change _ ⟨g1, g2, g3, g4, g5, fun j hjn => ?_⟩ (fun b hb hne => ⟨rfl, rfl, rfl, fun j hj4 => h2 _ (by omega) (by omega), fun j i hj4 hi => h3 _ (by omega)⟩)
  by_cases q : j = jr
  · subst q; rw [upA_s]; exact h1
  · rw [upA_n q]
    exact (g6 j hjn).kept (h2 _ (by omega) (by omega)) (fun i hi => h3 _ (by omega))
end MSq
def ovW (b n : Nat) (f g : Nat → Int32) : Nat → Int32 := fun k => if b ≤ k ∧ k < b + n then f (k - b) else g k
theorem ovW_0 (b : Nat) (f g : Nat → Int32) : ovW b 0 f g = g := by funext k; simp only [ovW]; rw [if_neg (by omega)]
theorem ovW_s (b i : Nat) (f g : Nat → Int32) {x : Int32} (h : x = f i) : upd (ovW b i f g) (b + i) x = ovW b (i + 1) f g := by
  subst h
  funext k
  simp only [upd, ovW]
  by_cases h : k = b + i
  · subst h; rw [if_pos rfl, if_pos (by omega), Nat.add_sub_cancel_left]
  · rw [if_neg h]
    by_cases h2 : b ≤ k ∧ k < b + i
    · rw [if_pos h2, if_pos (by omega)]
    · rw [if_neg h2, if_neg (by omega)]
theorem ovW_in {b n k : Nat} {f g : Nat → Int32} (h : k < n) : ovW b n f g (b + k) = f k := by simp only [ovW]; rw [if_pos (by omega), Nat.add_sub_cancel_left]
theorem ovW_out {b n k : Nat} {f g : Nat → Int32} (h : k < b ∨ b + n ≤ k) : ovW b n f g k = g k := by simp only [ovW]; rw [if_neg (by omega)]
theorem upd_n {f : Nat → Int32} {k j : Nat} {x : Int32} (h : ¬ j = k) : upd f k x j = f j := if_neg h
theorem upd_s {f : Nat → Int32} {k : Nat} {x : Int32} : upd f k x k = x := if_pos rfl
theorem ms_sheet {abs : Nat → SH} {hs so sr rs ce : Nat → Int32} (h : MSh abs hs so sr rs ce) {j n' : Nat} {s1 : Int32} (hj : j < 3) (hs1 : s1 = 0 ∨ s1 = 1) (hn : n' ≤ 4) : MSh (upA abs j (some (s1, n', fun _ => none))) (upd hs j 1) (upd so j s1) (upd sr j (nI n')) (ovW (4 * j) 4 (fun _ => -9) rs) ce := by
  refine h.change _ ⟨upd_s, upd_s, upd_s, hs1, hn, fun i hi => ?_⟩ (fun b hb hne => ⟨upd_n hne, upd_n hne, upd_n hne, fun i hi => ovW_out (by omega), fun _ _ _ _ => rfl⟩)
  show ovW (4 * j) 4 (fun _ => -9) rs (4 * j + i) = -9
  exact ovW_in (by omega)
theorem ms_row {abs : Nat → SH} {hs so sr rs ce : Nat → Int32} (h : MSh abs hs so sr rs ce) {j jr nr n' : Nat} {s1 : Int32} {rows : Nat → RW} (hj : j < 3) (e : abs j = some (s1, nr, rows)) (hjr : jr < nr) (hn : n' ≤ 40) : MSh (upA abs j (some (s1, nr, upA rows jr (some (n', fun _ => 0))))) hs so sr (upd rs (4 * j + jr) (nI n')) (ovW (160 * j + 40 * jr) 40 (fun _ => 0) ce) :=
  h.row hj e hjr _ ⟨upd_s, hn, fun i hi => ovW_in (by omega)⟩ (fun _ _ q => upd_n q) (fun _ q => ovW_out q)
theorem ms_put {abs : Nat → SH} {hs so sr rs ce : Nat → Int32} (h : MSh abs hs so sr rs ce) {j jr nr len i' : Nat} {s1 v : Int32} {rows : Nat → RW} {f : Nat → Int32} (hj : j < 3) (e : abs j = some (s1, nr, rows)) (hjr : jr < nr) (er : rows jr = some (len, f)) (hi : i' < len) : MSh (upA abs j (some (s1, nr, upA rows jr (some (len, upd f i' v))))) hs so sr rs (upd ce (160 * j + 40 * jr + i') v) := by
  obtain ⟨g1, g2, g3, g4, g5, g6⟩ := ms_some h hj e
  obtain ⟨m1, m2, m3⟩ := mr_some (g6 jr hjr) er
  refine h.row hj e hjr _ ⟨m1, m2, fun i hil => ?_⟩ (fun _ _ _ => rfl) (fun k q => upd_n (by omega))
  by_cases q : i = i'
  · subst q; rw [upd_s, upd_s]
  · rw [upd_n (by omega), upd_n q]; exact m3 i hil
theorem ms_copy {abs : Nat → SH} {hs so sr rs ce : Nat → Int32} (h : MSh abs hs so sr rs ce) {a b jr js n1 n2 l1 l2 i' j' n' : Nat} {s1 : Int32} {rows1 rows2 : Nat → RW} {f1 f2 : Nat → Int32} {cp' : Nat → Int32} (ha : a < 3) (hb : b < 3) (e1 : abs a = some (s1, n1, rows1)) (e2 : abs b = some (s1, n2, rows2)) (hjr : jr < n1) (hjs : js < n2) (r1 : rows1 jr = some (l1, f1)) (r2 : rows2 js = some (l2, f2)) (hi : i' + n' ≤ l1) (hj : j' + n' ≤ l2) (hcp : ∀ k, k < n' → cp' k = ce (160 * a + 40 * jr + i' + k)) : MSh (upA abs b (some (s1, n2, upA rows2 js (some (l2, va_cpy f1 f2 i' j' n'))))) hs so sr rs (ovW (160 * b + 40 * js + j') n' cp' ce) := by
  obtain ⟨-, -, -, -, g5, g6⟩ := ms_some h ha e1
  obtain ⟨-, m2, m3⟩ := mr_some (g6 jr hjr) r1
  obtain ⟨-, -, -, -, k5, k6⟩ := ms_some h hb e2
  obtain ⟨p1, p2, p3⟩ := mr_some (k6 js hjs) r2
  refine h.row hb e2 hjs _ ⟨p1, p2, fun i hil => ?_⟩ (fun _ _ _ => rfl) (fun k q => ovW_out (by omega))
  by_cases q : j' ≤ i ∧ i < j' + n'
  · rw [pk_cpy_in q.1 q.2]
    have := ovW_in (b := 160 * b + 40 * js + j') (n := n') (k := i - j') (f := cp') (g := ce) (by omega)
    rw [show 160 * b + 40 * js + j' + (i - j') = 160 * b + 40 * js + i by omega] at this
    rw [this, hcp _ (by omega), ← m3 (i' + (i - j')) (by omega)]
    congr 1; omega
  · rw [pk_cpy_out (by omega), ovW_out (by omega)]; exact p3 i hil
theorem wi_so {so : Int32} : wiB so 0 1 = soB so := by
  rw [Bool.eq_iff_iff, wi_iff, soB, decide_eq_true_iff]
  constructor
  · rintro ⟨h1, h2⟩
    obtain ⟨j, hj, rfl⟩ := nI_of (Int32.not_lt.mpr h1)
    have := (nI_leI (b := 1) hj (by decide)).mp h2
    rcases (show j = 0 ∨ j = 1 by omega) with rfl | rfl
    · exact Or.inl rfl
    · exact Or.inr rfl
  · rintro (rfl | rfl) <;> decide
theorem wi_hr {nr : Nat} (h : nr ≤ 4) {r : Int32} : wiB r 0 (nI nr - 1) = hrB nr r := by
  cases hz : hrB nr r with
  | true => obtain ⟨j, hj, rfl⟩ := hr_of hz h; exact wi_nI hj (by omega)
  | false =>
    cases hw : wiB r 0 (nI nr - 1) with
    | false => rfl
    | true => obtain ⟨j, hj, rfl⟩ := wi_of hw (by omega); rw [hr_in hj h] at hz; cases hz
theorem ho_nI {len i n : Nat} (hl : len ≤ 40) (hi : i < 2 ^ 31) (hn : n < 2 ^ 31) : hoB len (nI i) (nI n) = decide (i + n ≤ len) := by
  by_cases h : i + n ≤ len
  · rw [decide_eq_true h]
    refine decide_eq_true ⟨nI_pos' (by omega), nI_pos' (by omega), nI_le (by omega) (by omega), ?_⟩
    rw [pk_sub (by omega)]; exact nI_le (by omega) (by omega)
  · rw [decide_eq_false h]
    refine decide_eq_false (fun q => ?_)
    obtain ⟨-, -, q3, q4⟩ := q
    have h3 := (nI_leI hn (by omega)).mp q3
    rw [pk_sub h3] at q4
    have h4 := (nI_leI hi (by omega)).mp q4
    omega
theorem wi_ho {len : Nat} (h : len ≤ 40) {i : Int32} : wiB i 0 (nI len - 1) = hoB len i 1 := by
  by_cases c : i < 0
  · rw [ho_n2 c]
    exact decide_eq_false (fun q => Int32.not_le.mpr c q.1)
  · obtain ⟨j, hj, rfl⟩ := nI_of c
    rw [show (1 : Int32) = nI 1 from rfl, ho_nI h hj (by decide)]
    by_cases q : j < len
    · rw [decide_eq_true (by omega)]; exact wi_nI q (by omega)
    · rw [decide_eq_false (by omega)]
      cases hw : wiB (nI j) 0 (nI len - nI 1) with
      | false => rfl
      | true =>
        obtain ⟨k, hk, e⟩ := wi_of hw (by omega)
        have := (nI_eq hj (by omega)).mp e
        omega
theorem lN_a (a b : Nat) : lN a + lN b = lN (a + b) := (Int64.ofNat_add a b).symm
theorem ar_eq {len : Nat} {i n : Int32} (hl : len ≤ 40) (h1 : ¬ i < 0) (h2 : ¬ n < 0) : (0 < lg_cmp (i.toInt64 + n.toInt64) (nI len).toInt64) ↔ hoB len i n = false := by
  obtain ⟨a, ha, rfl⟩ := nI_of h1
  obtain ⟨b, hb, rfl⟩ := nI_of h2
  rw [lg_cmp_gt, nI_l ha, nI_l hb, nI_l (by omega), lN_a, pk_lLT (by omega) (by omega), ho_nI hl ha hb, decide_eq_false_iff_not]
  omega
theorem ar_y {len : Nat} {i n : Int32} (hl : len ≤ 40) (h1 : ¬ i < 0) (h2 : ¬ n < 0) (h3 : ¬ 0 < lg_cmp (i.toInt64 + n.toInt64) (nI len).toInt64) : hoB len i n = true := by
  cases hz : hoB len i n with
  | true => rfl
  | false => exact absurd ((ar_eq hl h1 h2).mpr hz) h3
theorem rk_uniq {T n : Nat} {row kinds elders : Nat → Int32} {i i' : Nat} {f f' : Int32} (h : rkO T n row kinds elders i f) (h' : rkO T n row kinds elders i' f') : i = i' ∧ f = f' := by
  obtain ⟨a1, a2, a3⟩ := h
  obtain ⟨b1, b2, b3⟩ := h'
  have hi : i = i' := by
    rcases Nat.lt_trichotomy i i' with q | q | q
    · rcases a3 with ⟨z, -⟩ | ⟨-, z⟩
      · omega
      · rw [b2 i q] at z; cases z
    · exact q
    · rcases b3 with ⟨z, -⟩ | ⟨-, z⟩
      · omega
      · rw [a2 i' q] at z; cases z
  subst hi
  refine ⟨rfl, ?_⟩
  rcases a3 with ⟨z, e⟩ | ⟨z, e⟩ <;> rcases b3 with ⟨z', e'⟩ | ⟨z', e'⟩
  · rw [e, e']
  · omega
  · omega
  · rw [e] at e'; cases e'; rfl
theorem soy {so : Int32} (h : ¬ bI (wiB so 0 1) = 0) : soB so = true := by rw [← wi_so]; exact bI_n0.mp h
theorem son {so : Int32} (h : bI (wiB so 0 1) = 0) : soB so = false := by rw [← wi_so]; exact bI_0.mp h
theorem so01 {so : Int32} (h : ¬ bI (wiB so 0 1) = 0) : so = 0 ∨ so = 1 := of_decide_eq_true (soy h)
theorem hry {nr : Nat} {r : Int32} (e : nr ≤ 4) (h : ¬ bI (wiB r 0 (nI nr - 1)) = 0) : hrB nr r = true := by rw [← wi_hr e]; exact bI_n0.mp h
theorem hrn {nr : Nat} {r : Int32} (e : nr ≤ 4) (h : bI (wiB r 0 (nI nr - 1)) = 0) : hrB nr r = false := by rw [← wi_hr e]; exact bI_0.mp h
theorem she_b1 {x so n : Int32} (h : bI (wiB x 0 2) = 0) : sheD x so n = -1 := by rw [sheD, if_neg (fun q => by rw [p_n (bI_0.mp h)] at q; exact absurd q.1 (by decide))]
theorem she_b2 {x so n : Int32} (h : bI (wiB so 0 1) = 0) : sheD x so n = -1 := by rw [sheD, if_neg (fun q => by rw [son h, Bool.and_false] at q; exact absurd q.1 (by decide))]
theorem she_b3 {x so n : Int32} (h : ¬ n ≤ 4) : sheD x so n = -1 := by rw [sheD, if_neg (fun q => h q.2)]
theorem rw_b1 {abs : Nat → SH} {x r n : Int32} (h : bI (wiB x 0 2) = 0) : rwD abs x r n = -1 := by rw [rwD, if_neg (fun q => by rw [bI_0.mp h] at q; exact absurd q.1 (by decide))]
theorem rw_b2 {abs : Nat → SH} {x r n : Int32} (h : ¬ n ≤ 40) : rwD abs x r n = -1 := by rw [rwD, if_neg (fun q => h q.2)]
theorem pt_b1 {abs : Nat → SH} {x so r i : Int32} (h : bI (wiB x 0 2) = 0) : ptD abs x so r i = -1 := by rw [ptD, if_neg (by rw [p_n (bI_0.mp h)]; decide)]
theorem pt_b2 {abs : Nat → SH} {x so r i : Int32} (h : bI (wiB so 0 1) = 0) : ptD abs x so r i = -1 := by rw [ptD, if_neg (by rw [son h, Bool.and_false]; decide)]
section RPq
variable {abs : Nat → SH} {j nr : Nat} {so s1 r i n : Int32} {rows : Nat → RW}
theorem rw_at (hj : j < 3) (h1 : ¬ bI (wiB (nI j) 0 2) = 0) (h2 : n ≤ 40) (e : abs j = some (s1, nr, rows)) : rwD abs (nI j) r n = if hrB nr r = false then (-12) else if n < 0 then (-15) else 0 := by
  rw [rwD, if_pos ⟨bI_n0.mp h1, h2⟩, nI_clamp (by omega), e]; rfl
theorem rw_no (hj : j < 3) (h1 : ¬ bI (wiB (nI j) 0 2) = 0) (h2 : n ≤ 40) (e : abs j = none) : rwD abs (nI j) r n = -11 := by
  rw [rwD, if_pos ⟨bI_n0.mp h1, h2⟩, nI_clamp (by omega), e]; rfl
theorem pt_at (hj : j < 3) (h1 : ¬ bI (wiB (nI j) 0 2) = 0) (h2 : ¬ bI (wiB so 0 1) = 0) (e : abs j = some (s1, nr, rows)) : ptD abs (nI j) so r i = if s1 = so then (if hrB nr r = false then (-12) else ptD2 (rows r.toNatClampNeg) i) else (-13) := by
  rw [ptD, if_pos (p_yy (bI_n0.mp h1) (soy h2)), nI_clamp (by omega), e]; rfl
theorem pt_no (hj : j < 3) (h1 : ¬ bI (wiB (nI j) 0 2) = 0) (h2 : ¬ bI (wiB so 0 1) = 0) (e : abs j = none) : ptD abs (nI j) so r i = -11 := by
  rw [ptD, if_pos (p_yy (bI_n0.mp h1) (soy h2)), nI_clamp (by omega), e]; rfl
end RPq
