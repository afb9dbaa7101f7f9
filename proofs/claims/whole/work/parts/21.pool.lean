/-! the sheets: what they are (abs), and how the pool holds them -/
abbrev RW : Type := Option (Nat × (Nat → Int32))
abbrev SH : Type := Option (Int32 × Nat × (Nat → RW))
def nrA (s : SH) : Nat := match s with | none => 0 | some x => x.2.1
def upA {α : Type} (f : Nat → α) (k : Nat) (x : α) : Nat → α := fun j => if j = k then x else f j
theorem upA_s {α : Type} {f : Nat → α} {k : Nat} {x : α} : upA f k x k = x := if_pos rfl
theorem upA_n {α : Type} {f : Nat → α} {k j : Nat} {x : α} (h : j ≠ k) : upA f k x j = f j := if_neg h
def isIA (e : va_E) : Bool := match e with | .inl (_, _, .inl _) => true | _ => false
theorem aI_aR {g : Gx} {n n2 : Nat} {f : Nat → Int32} {f2 : Nat → Option Nat} (h : aI g n f = aR g n2 f2) : False := by have := congrArg isIA h; cases this
/-- one sheet, in the pool -/
def PO1 (g : Gx) (pool : va_W) (s : Option Nat) (ab : SH) (ra : Nat) (rf : Nat → Option Nat) : Prop :=
  (ab = none ∧ s = none) ∨ ∃ (so : Int32) (nr : Nat) (rows : Nat → RW) (a : Nat), ab = some (so, nr, rows) ∧ s = some a ∧ (so = 0 ∨ so = 1) ∧ nr ≤ 4 ∧ (∃ p : Nat, pool[p]? = some (a, oSheet so ra)) ∧ (∃ p : Nat, pool[p]? = some (ra, aR g nr rf)) ∧ ∀ r, r < nr → (rows r = none ∧ rf r = none) ∨ ∃ (len : Nat) (f : Nat → Int32) (b : Nat), rows r = some (len, f) ∧ rf r = some b ∧ len ≤ 40 ∧ ∃ p : Nat, pool[p]? = some (b, aI g len f)
def PO (g : Gx) (pool : va_W) (shf : Nat → Option Nat) (abs : Nat → SH) : Prop := ∃ (ra : Nat → Nat) (rf : Nat → Nat → Option Nat),
  (∀ i, i < 3 → PO1 g pool (shf i) (abs i) (ra i) (rf i))
  ∧ (∀ i i', i < 3 → i' < 3 → abs i ≠ none → abs i' ≠ none → ra i = ra i' → i = i')
  ∧ (∀ i i' r r' b, i < 3 → i' < 3 → r < nrA (abs i) → r' < nrA (abs i') → rf i r = some b → rf i' r' = some b → i = i' ∧ r = r')
theorem po_none {g : Gx} {pool : va_W} {shf : Nat → Option Nat} {abs : Nat → SH} (h : PO g pool shf abs) {j : Nat} (hj : j < 3) (hs : shf j = none) : abs j = none := by
  obtain ⟨ra, rf, h1, -⟩ := h
  rcases h1 j hj with q | ⟨_, _, _, a, -, q, -⟩
  · exact q.1
  · rw [hs] at q; cases q
theorem po_some {g : Gx} {pool : va_W} {shf : Nat → Option Nat} {abs : Nat → SH} (h : PO g pool shf abs) {j a : Nat} (hj : j < 3) (hs : shf j = some a) : ∃ (so : Int32) (nr : Nat) (rows : Nat → RW) (ra : Nat) (rf : Nat → Option Nat) (p1 p2 : Nat), abs j = some (so, nr, rows) ∧ (so = 0 ∨ so = 1) ∧ nr ≤ 4 ∧ pool[p1]? = some (a, oSheet so ra) ∧ pool[p2]? = some (ra, aR g nr rf) ∧ ∀ r, r < nr → (rows r = none ∧ rf r = none) ∨ ∃ (len : Nat) (f : Nat → Int32) (b p : Nat), rows r = some (len, f) ∧ rf r = some b ∧ len ≤ 40 ∧ pool[p]? = some (b, aI g len f) := by
  obtain ⟨ra, rf, h1, -⟩ := h
  rcases h1 j hj with q | ⟨so, nr, rows, a', q1, q2, q3, q4, ⟨p1, q5⟩, ⟨p2, q6⟩, q7⟩
  · rw [hs] at q; cases q.2
  · rw [hs] at q2; cases q2
    refine ⟨so, nr, rows, ra j, rf j, p1, p2, q1, q3, q4, q5, q6, fun r hr => ?_⟩
    rcases q7 r hr with z | ⟨len, f, b, z1, z2, z3, p, z4⟩
    · exact Or.inl z
    · exact Or.inr ⟨len, f, b, p, z1, z2, z3, z4⟩
/-- addresses are apart -/
def ND (w : va_W) : Prop := ∀ (i j : Nat) (p q : Nat × va_E), w[i]? = some p → w[j]? = some q → p.1 = q.1 → i = j
theorem X_nd {φ : Fx} {k n pc : Nat} {w : va_W} {L : List (Nat × Value)} {st : List Value} (kk : ND w → X φ k n w L pc st) : X φ k n w L pc st := by
  obtain ⟨p, l, e, R, s, m, args, below, meth, c, A, Q, nL, g⟩ := φ
  exact fun H locs ls hP hD hS hl => kk hD.1 H locs ls hP hD hS hl
theorem ND.drop {w : va_W} {x : Nat × va_E} (h : ND (x :: w)) : ND w := fun i j p q hi hj e => by
  have := h (i + 1) (j + 1) p q hi hj e
  omega
theorem nd_set {w : va_W} {p : Nat} {a : Nat} {e e' : va_E} (h : ND (w.set p (a, e'))) (hp : w[p]? = some (a, e)) : ND w := by
  have hl := (List.getElem?_eq_some_iff.mp hp).1
  have q : ∀ (i : Nat) (x : Nat × va_E), w[i]? = some x → ∃ y, (w.set p (a, e'))[i]? = some y ∧ y.1 = x.1 := by
    intro i x hx
    by_cases hi : i = p
    · subst hi
      rw [hp] at hx; cases hx
      exact ⟨(a, e'), List.getElem?_set_self hl, rfl⟩
    · exact ⟨x, by rw [List.getElem?_set_ne (fun z => hi z.symm)]; exact hx, rfl⟩
  intro i j x y hx hy exy
  obtain ⟨x', h1, h2⟩ := q i x hx
  obtain ⟨y', h3, h4⟩ := q j y hy
  exact h i j x' y' h1 h3 (by rw [h2, h4]; exact exy)
theorem nd_same {w : va_W} (h : ND w) {i j a : Nat} {e e' : va_E} (hi : w[i]? = some (a, e)) (hj : w[j]? = some (a, e')) : e = e' := by
  have := h i j _ _ hi hj rfl
  subst this
  rw [hi] at hj; cases hj; rfl
theorem get_app {w w2 : va_W} {i : Nat} {x : Nat × va_E} (h : w[i]? = some x) : (w ++ w2)[i]? = some x := by
  rw [List.getElem?_append_left (List.getElem?_eq_some_iff.mp h).1]; exact h
/-- a sheet is kept when another cell is set, or cells come -/
theorem PO1.app {g : Gx} {pool p2 : va_W} {s : Option Nat} {ab : SH} {ra : Nat} {rf : Nat → Option Nat} (h : PO1 g pool s ab ra rf) : PO1 g (pool ++ p2) s ab ra rf := by
  rcases h with q | ⟨so, nr, rows, a, q1, q2, q3, q4, ⟨x1, q5⟩, ⟨x2, q6⟩, q7⟩
  · exact Or.inl q
  · refine Or.inr ⟨so, nr, rows, a, q1, q2, q3, q4, ⟨x1, get_app q5⟩, ⟨x2, get_app q6⟩, fun r hr => ?_⟩
    rcases q7 r hr with z | ⟨len, f, b, z1, z2, z3, p, z4⟩
    · exact Or.inl z
    · exact Or.inr ⟨len, f, b, z1, z2, z3, p, get_app z4⟩
theorem set_ne {w : va_W} {p i a : Nat} {e e0 : va_E} {x : Nat × va_E} (hp : w[p]? = some (a, e0)) (h : w[i]? = some x) (hne : x.1 ≠ a) : (w.set p (a, e))[i]? = some x := by
  rw [List.getElem?_set_ne (fun q => by subst q; rw [hp] at h; cases h; exact hne rfl)]; exact h
theorem PO1.set {g : Gx} {pool : va_W} {s : Option Nat} {ab : SH} {ra : Nat} {rf : Nat → Option Nat} (h : PO1 g pool s ab ra rf) {p c : Nat} {e e0 : va_E} (hp : pool[p]? = some (c, e0)) (h1 : s ≠ some c) (h2 : ab ≠ none → ra ≠ c) (h3 : ∀ r, r < nrA ab → rf r ≠ some c) : PO1 g (pool.set p (c, e)) s ab ra rf := by
  rcases h with q | ⟨so, nr, rows, a, q1, q2, q3, q4, ⟨x1, q5⟩, ⟨x2, q6⟩, q7⟩
  · exact Or.inl q
  · refine Or.inr ⟨so, nr, rows, a, q1, q2, q3, q4, ⟨x1, set_ne hp q5 (fun z => h1 (by rw [q2]; exact congrArg some z))⟩, ⟨x2, set_ne hp q6 (h2 (by rw [q1]; exact fun z => by cases z))⟩, fun r hr => ?_⟩
    rcases q7 r hr with z | ⟨len, f, b, z1, z2, z3, y, z4⟩
    · exact Or.inl z
    · refine Or.inr ⟨len, f, b, z1, z2, z3, y, set_ne hp z4 (fun z => h3 r (by rw [q1]; exact hr) (by rw [z2]; exact congrArg some z))⟩
/-- a new sheet -/
theorem po_sheet {g : Gx} {pool : va_W} {shf : Nat → Option Nat} {abs : Nat → SH} (h : PO g pool shf abs) {j q q2 n : Nat} {so : Int32} (hj : j < 3) (hso : so = 0 ∨ so = 1) (hn : n ≤ 4) (hnd : ND (pool ++ [(q, oSheet so q2), (q2, aR g n (fun _ => none))])) : PO g (pool ++ [(q, oSheet so q2), (q2, aR g n (fun _ => none))]) (va_up shf j (some q)) (upA abs j (some (so, n, fun _ => none))) := by
  obtain ⟨ra, rf, h1, h2, h3⟩ := h
  have fresh : ∀ (i : Nat) (x : Nat × va_E), pool[i]? = some x → x.1 ≠ q2 := by
    intro i x hx e
    have hl := (List.getElem?_eq_some_iff.mp hx).1
    have := hnd i (pool.length + 1) x (q2, aR g n (fun _ => none)) (get_app hx) (by rw [List.getElem?_append_right (by omega)]; simp) e
    omega
  have raf : ∀ i, i < 3 → abs i ≠ none → ra i ≠ q2 := by
    intro i hi ha e
    rcases h1 i hi with z | ⟨_, _, _, _, -, -, -, -, -, ⟨p, z⟩, -⟩
    · exact ha z.1
    · exact fresh p _ z e
  refine ⟨upA ra j q2, upA rf j (fun _ => none), fun i hi => ?_, fun i i' hi hi' ha ha' e => ?_, fun i i' r r' b hi hi' hr hr' e e' => ?_⟩
  · by_cases e : i = j
    · subst e
      rw [upA_s, upA_s, upA_s, va_up_self]
      refine Or.inr ⟨so, n, fun _ => none, q, rfl, rfl, hso, hn, ⟨pool.length, by rw [List.getElem?_append_right (Nat.le_refl _)]; simp⟩, ⟨pool.length + 1, by rw [List.getElem?_append_right (by omega)]; simp⟩, fun r _ => Or.inl ⟨rfl, rfl⟩⟩
    · rw [upA_n e, upA_n e, upA_n e, va_up_ne _ _ e]
      exact (h1 i hi).app
  · by_cases x1 : i = j <;> by_cases x2 : i' = j
    · rw [x1, x2]
    · rw [x1, upA_s, upA_n x2] at e
      rw [upA_n x2] at ha'
      exact absurd e.symm (raf i' hi' ha')
    · rw [x2, upA_s, upA_n x1] at e
      rw [upA_n x1] at ha
      exact absurd e (raf i hi ha)
    · rw [upA_n x1, upA_n x2] at e
      rw [upA_n x1] at ha
      rw [upA_n x2] at ha'
      exact h2 i i' hi hi' ha ha' e
  · by_cases x1 : i = j
    · rw [x1, upA_s] at e; cases e
    · by_cases x2 : i' = j
      · rw [x2, upA_s] at e'; cases e'
      · rw [upA_n x1] at e hr
        rw [upA_n x2] at e' hr'
        exact h3 i i' r r' b hi hi' hr hr' e e'
/-- a row's content changes -/
theorem po_cell {g : Gx} {pool : va_W} {shf : Nat → Option Nat} {abs : Nat → SH} (h : PO g pool shf abs) (hnd : ND pool) {j r nr len a ra0 b p1 p2 p : Nat} {so : Int32} {rows : Nat → RW} {rf0 : Nat → Option Nat} {f f' : Nat → Int32} (hj : j < 3) (hs : shf j = some a) (hab : abs j = some (so, nr, rows)) (hp1 : pool[p1]? = some (a, oSheet so ra0)) (hp2 : pool[p2]? = some (ra0, aR g nr rf0)) (hr : r < nr) (hrow : rows r = some (len, f)) (hrf : rf0 r = some b) (hp : pool[p]? = some (b, aI g len f)) : PO g (pool.set p (b, aI g len f')) shf (upA abs j (some (so, nr, upA rows r (some (len, f'))))) := by
  obtain ⟨ra, rf, h1, h2, h3⟩ := h
  have hl := (List.getElem?_eq_some_iff.mp hp).1
  have kind : ∀ (i x : Nat) (e : va_E), pool[i]? = some (x, e) → x = b → e = aI g len f := fun i x e hx hxb => by
    subst hxb
    exact nd_same hnd hx hp
  -- the sheet's own row array is the one that PO names
  have own : ra j = ra0 ∧ rf j = rf0 := by
    rcases h1 j hj with z | ⟨so', nr', rows', a', z1, z2, -, -, ⟨y1, z5⟩, ⟨y2, z6⟩, -⟩
    · rw [hab] at z; cases z.1
    · rw [hs] at z2; cases z2
      have e1 := nd_same hnd z5 hp1
      cases e1
      have e2 := nd_same hnd z6 hp2
      rw [hab] at z1; cases z1
      injection e2 with e3
      injection e3 with e4 e5
      injection e5 with e6 e7
      injection e7 with e8
      injection e8 with e9
      injection e9 with e10
      injection e10 with e11
      exact ⟨rfl, e11⟩
  refine ⟨ra, rf, fun i hi => ?_, fun i i' hi hi' ha ha' e => ?_, fun i i' r1 r2 c hi hi' q1 q2 e e' => ?_⟩
  · by_cases e : i = j
    · subst e
      rw [upA_s]
      rcases h1 i hi with z | ⟨so', nr', rows', a', z1, z2, z3, z4, ⟨y1, z5⟩, ⟨y2, z6⟩, z7⟩
      · rw [hab] at z; cases z.1
      · rw [hab] at z1; cases z1
        refine Or.inr ⟨so, nr, upA rows r (some (len, f')), a', rfl, z2, z3, z4, ⟨y1, set_ne hp z5 (fun z => by have := kind _ _ _ z5 z; cases this)⟩, ⟨y2, set_ne hp z6 (fun z => aI_aR (kind _ _ _ z6 z).symm)⟩, fun r1 hr1 => ?_⟩
        by_cases er : r1 = r
        · subst er
          rw [upA_s]
          rcases z7 r1 hr1 with y | ⟨len', f1, b', y1, y2, y3, y, y4⟩
          · rw [hrow] at y; cases y.1
          · rw [hrow] at y1; cases y1
            exact Or.inr ⟨len, f', b, rfl, by rw [own.2]; exact hrf, y3, p, List.getElem?_set_self hl⟩
        · rw [upA_n er]
          rcases z7 r1 hr1 with y | ⟨len', f1, b', y1, y2, y3, y, y4⟩
          · exact Or.inl y
          · refine Or.inr ⟨len', f1, b', y1, y2, y3, y, set_ne hp y4 (fun z => ?_)⟩
            have z : b' = b := z
            subst z
            have := h3 i i r1 r b' hi hi (by rw [hab]; exact hr1) (by rw [hab]; exact hr) y2 (by rw [own.2]; exact hrf)
            exact er this.2
    · rw [upA_n e]
      have hi1 := h1 i hi
      refine hi1.set hp (fun z => ?_) (fun ha z => ?_) (fun r1 hr1 z => ?_)
      · rcases hi1 with y | ⟨_, _, _, a', -, y, -, -, ⟨y1, y5⟩, -⟩
        · rw [y.2] at z; cases z
        · rw [y] at z; cases z
          have := kind _ _ _ y5 rfl; cases this
      · rcases hi1 with y | ⟨_, _, _, a', -, -, -, -, -, ⟨y1, y5⟩, -⟩
        · exact ha y.1
        · exact aI_aR (kind _ _ _ y5 z).symm
      · have := h3 i j r1 r b hi hj hr1 (by rw [hab]; exact hr) z (by rw [own.2]; exact hrf)
        exact e this.1
  · have q : ∀ i, upA abs j (some (so, nr, upA rows r (some (len, f')))) i ≠ none → abs i ≠ none := fun i z => by
      by_cases e : i = j
      · subst e; rw [hab]; exact fun z => by cases z
      · rw [upA_n e] at z; exact z
    exact h2 i i' hi hi' (q i ha) (q i' ha') e
  · have q : ∀ i, nrA (upA abs j (some (so, nr, upA rows r (some (len, f')))) i) = nrA (abs i) := fun i => by
      by_cases e : i = j
      · subst e; rw [upA_s, hab]; rfl
      · rw [upA_n e]
    rw [q] at q1 q2
    exact h3 i i' r1 r2 c hi hi' q1 q2 e e'
/-- a new row -/
theorem po_row {g : Gx} {pool : va_W} {shf : Nat → Option Nat} {abs : Nat → SH} (h : PO g pool shf abs) {j r nr n a ra0 b p1 p2 : Nat} {so : Int32} {rows : Nat → RW} {rf0 : Nat → Option Nat} (hj : j < 3) (hs : shf j = some a) (hab : abs j = some (so, nr, rows)) (hp1 : pool[p1]? = some (a, oSheet so ra0)) (hp2 : pool[p2]? = some (ra0, aR g nr rf0)) (hr : r < nr) (hn : n ≤ 40) (hnd : ND (pool ++ [(b, aI g n (fun _ => 0))])) : PO g ((pool ++ [(b, aI g n (fun _ => 0))]).set p2 (ra0, aR g nr (va_up rf0 r (some b)))) shf (upA abs j (some (so, nr, upA rows r (some (n, fun _ => 0))))) := by
  obtain ⟨ra, rf, h1, h2, h3⟩ := h
  have hl2 := (List.getElem?_eq_some_iff.mp hp2).1
  have hp2' := get_app (w2 := [(b, aI g n (fun _ => 0))]) hp2
  have hlast : (pool ++ [(b, aI g n (fun _ => 0))])[pool.length]? = some (b, aI g n (fun _ => 0)) := by rw [List.getElem?_append_right (Nat.le_refl _)]; simp
  have fresh : ∀ (i : Nat) (x : Nat × va_E), pool[i]? = some x → x.1 ≠ b := by
    intro i x hx e
    have hl := (List.getElem?_eq_some_iff.mp hx).1
    have := hnd i pool.length x (b, aI g n (fun _ => 0)) (get_app hx) hlast e
    omega
  have kind : ∀ (i x : Nat) (e : va_E), (pool ++ [(b, aI g n (fun _ => 0))])[i]? = some (x, e) → x = ra0 → e = aR g nr rf0 := fun i x e hx hxb => by
    subst hxb
    exact nd_same hnd hx hp2'
  have own : ra j = ra0 ∧ rf j = rf0 := by
    rcases h1 j hj with z | ⟨so', nr', rows', a', z1, z2, -, -, ⟨y1, z5⟩, ⟨y2, z6⟩, -⟩
    · rw [hab] at z; cases z.1
    · rw [hs] at z2; cases z2
      have e1 := nd_same hnd (get_app z5) (get_app hp1)
      cases e1
      have e2 := nd_same hnd (get_app z6) hp2'
      rw [hab] at z1; cases z1
      injection e2 with e3
      injection e3 with e4 e5
      injection e5 with e6 e7
      injection e7 with e8
      injection e8 with e9
      injection e9 with e10
      injection e10 with e11
      exact ⟨rfl, e11⟩
  have rowf : ∀ i r1, i < 3 → r1 < nrA (abs i) → rf i r1 ≠ some b := by
    intro i r1 hi hr1 z
    rcases h1 i hi with y | ⟨_, nr', rows', a', y0, -, -, -, -, -, y7⟩
    · rw [y.1] at hr1; exact absurd hr1 (Nat.not_lt_zero _)
    · rw [y0] at hr1
      rcases y7 r1 hr1 with y | ⟨len, f, b', -, y2, -, y, y4⟩
      · rw [y.2] at z; cases z
      · rw [y2] at z; cases z
        exact fresh _ _ y4 rfl
  refine ⟨ra, upA rf j (va_up rf0 r (some b)), fun i hi => ?_, fun i i' hi hi' ha ha' e => ?_, fun i i' r1 r2 c hi hi' q1 q2 e e' => ?_⟩
  · by_cases e : i = j
    · subst e
      rw [upA_s, upA_s]
      rcases h1 i hi with z | ⟨so', nr', rows', a', z1, z2, z3, z4, ⟨y1, z5⟩, ⟨y2, z6⟩, z7⟩
      · rw [hab] at z; cases z.1
      · rw [hab] at z1; cases z1
        refine Or.inr ⟨so, nr, upA rows r (some (n, fun _ => 0)), a', rfl, z2, z3, z4, ⟨y1, set_ne hp2' (get_app z5) (fun z => by have := kind _ _ _ (get_app z5) z; cases this)⟩, ⟨p2, by rw [own.1]; exact List.getElem?_set_self (by rw [List.length_append]; omega)⟩, fun r1 hr1 => ?_⟩
        by_cases er : r1 = r
        · subst er
          rw [upA_s, va_up_self]
          exact Or.inr ⟨n, fun _ => 0, b, rfl, rfl, hn, pool.length, set_ne hp2' hlast (fun z => aI_aR (kind _ _ _ hlast z))⟩
        · rw [upA_n er, va_up_ne _ _ er, ← own.2]
          rcases z7 r1 hr1 with y | ⟨len', f1, b', y1, y2, y3, y, y4⟩
          · exact Or.inl y
          · exact Or.inr ⟨len', f1, b', y1, y2, y3, y, set_ne hp2' (get_app y4) (fun z => aI_aR (kind _ _ _ (get_app y4) z))⟩
    · rw [upA_n e, upA_n e]
      have hi1 := h1 i hi
      refine hi1.app.set hp2' (fun z => ?_) (fun ha z => ?_) (fun r1 hr1 z => ?_)
      · rcases hi1 with y | ⟨_, _, _, a', -, y, -, -, ⟨y1, y5⟩, -⟩
        · rw [y.2] at z; cases z
        · rw [y] at z; cases z
          have := kind _ _ _ (get_app y5) rfl; cases this
      · exact e (h2 i j hi hj ha (by rw [hab]; exact fun z => by cases z) (by rw [z, own.1]))
      · rcases hi1 with y | ⟨_, nr', rows', a', y0, -, -, -, -, -, y7⟩
        · rw [y.1] at hr1; exact absurd hr1 (Nat.not_lt_zero _)
        · rw [y0] at hr1
          rcases y7 r1 hr1 with y | ⟨len, f, b', -, y2, -, y, y4⟩
          · rw [y.2] at z; cases z
          · rw [y2] at z; cases z
            exact aI_aR (kind _ _ _ (get_app y4) rfl)
  · have q : ∀ i, upA abs j (some (so, nr, upA rows r (some (n, fun _ => 0)))) i ≠ none → abs i ≠ none := fun i z => by
      by_cases e : i = j
      · subst e; rw [hab]; exact fun z => by cases z
      · rw [upA_n e] at z; exact z
    exact h2 i i' hi hi' (q i ha) (q i' ha') e
  · have q : ∀ i, nrA (upA abs j (some (so, nr, upA rows r (some (n, fun _ => 0)))) i) = nrA (abs i) := fun i => by
      by_cases e : i = j
      · subst e; rw [upA_s, hab]; rfl
      · rw [upA_n e]
    rw [q] at q1 q2
    -- which rows hold c
    have old : ∀ i r1, i < 3 → r1 < nrA (abs i) → upA rf j (va_up rf0 r (some b)) i r1 = some c → (i = j ∧ r1 = r ∧ c = b) ∨ (rf i r1 = some c ∧ c ≠ b) := by
      intro i r1 hi hr1 z
      by_cases e1 : i = j
      · subst e1
        rw [upA_s] at z
        by_cases e2 : r1 = r
        · subst e2; rw [va_up_self] at z; cases z; exact Or.inl ⟨rfl, rfl, rfl⟩
        · rw [va_up_ne _ _ e2, ← own.2] at z
          exact Or.inr ⟨z, fun y => by subst y; exact rowf i r1 hi hr1 z⟩
      · rw [upA_n e1] at z
        exact Or.inr ⟨z, fun y => by subst y; exact rowf i r1 hi hr1 z⟩
    rcases old i r1 hi q1 e with ⟨x1, x2, x3⟩ | ⟨x1, x2⟩ <;> rcases old i' r2 hi' q2 e' with ⟨y1, y2, y3⟩ | ⟨y1, y2⟩
    · exact ⟨by rw [x1, y1], by rw [x2, y2]⟩
    · exact absurd x3 y2
    · exact absurd y3 x2
    · exact h3 i i' r1 r2 c hi hi' q1 q2 x1 y1
