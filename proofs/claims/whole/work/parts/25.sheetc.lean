/-! what a finding of 0 tells -/
theorem get_l0 {pool : va_W} {x : Nat × va_E} : (pool ++ [x])[pool.length]? = some x := by rw [List.getElem?_append_right (Nat.le_refl _)]; simp
theorem get_l1 {pool : va_W} {x z : Nat × va_E} : ((pool ++ [x]) ++ [z])[pool.length]? = some x := get_app get_l0
theorem set_l1 {pool : va_W} {x z v : Nat × va_E} : ((pool ++ [x]) ++ [z]).set pool.length v = pool ++ [v, z] := by
  rw [List.append_assoc, List.set_append_right _ _ (Nat.le_refl _)]
  simp
theorem get_l2 {pool : va_W} {x z : Nat × va_E} : (pool ++ [x, z])[pool.length]? = some x := by rw [List.getElem?_append_right (Nat.le_refl _)]; simp
theorem po_abs {g : Gx} {pool : va_W} {shf : Nat → Option Nat} {abs : Nat → SH} (h : PO g pool shf abs) {j nr : Nat} {so : Int32} {rows : Nat → RW} (hj : j < 3) (hab : abs j = some (so, nr, rows)) : ∃ (a ra : Nat) (rf : Nat → Option Nat) (p1 p2 : Nat), shf j = some a ∧ (so = 0 ∨ so = 1) ∧ nr ≤ 4 ∧ pool[p1]? = some (a, oSheet so ra) ∧ pool[p2]? = some (ra, aR g nr rf) ∧ ∀ r, r < nr → (rows r = none ∧ rf r = none) ∨ ∃ (len : Nat) (f : Nat → Int32) (b p : Nat), rows r = some (len, f) ∧ rf r = some b ∧ len ≤ 40 ∧ pool[p]? = some (b, aI g len f) := by
  cases hs : shf j with
  | none => rw [po_none h hj hs] at hab; cases hab
  | some a =>
    obtain ⟨so', nr', rows', ra, rf, p1, p2, q1, q2, q3, q4, q5, q6⟩ := po_some h hj hs
    rw [hab] at q1; cases q1
    exact ⟨a, ra, rf, p1, p2, rfl, q2, q3, q4, q5, q6⟩
theorem po_nr {g : Gx} {pool : va_W} {shf : Nat → Option Nat} {abs : Nat → SH} (h : PO g pool shf abs) {j nr : Nat} {so : Int32} {rows : Nat → RW} (hj : j < 3) (hab : abs j = some (so, nr, rows)) : nr ≤ 4 := by
  obtain ⟨_, _, _, _, _, -, -, q, -⟩ := po_abs h hj hab
  exact q
theorem she_of {x so n : Int32} (h : sheD x so n = 0) : ∃ j n', j < 3 ∧ x = nI j ∧ (so = 0 ∨ so = 1) ∧ n' ≤ 4 ∧ n = nI n' := by
  by_cases c : (wiB x 0 2 && soB so) = true ∧ n ≤ 4
  · rw [sheD, if_pos c] at h
    have c1 := Bool.and_eq_true_iff.mp c.1
    obtain ⟨j, hj, rfl⟩ := wi_3 c1.1
    by_cases c2 : n < 0
    · rw [if_pos c2] at h; exact absurd h (by decide)
    · obtain ⟨n', hn, rfl⟩ := nI_of c2
      exact ⟨j, n', hj, rfl, of_decide_eq_true c1.2, (nI_leI (b := 4) hn (by decide)).mp c.2, rfl⟩
  · rw [sheD, if_neg c] at h; exact absurd h (by decide)
theorem rw_of {g : Gx} {pool : va_W} {shf : Nat → Option Nat} {abs : Nat → SH} (hPO : PO g pool shf abs) {x r n : Int32} (h : rwD abs x r n = 0) : ∃ (j jr n' : Nat) (so : Int32) (nr : Nat) (rows : Nat → RW), j < 3 ∧ x = nI j ∧ abs j = some (so, nr, rows) ∧ jr < nr ∧ r = nI jr ∧ n' ≤ 40 ∧ n = nI n' := by
  by_cases c : wiB x 0 2 = true ∧ n ≤ 40
  · rw [rwD, if_pos c] at h
    obtain ⟨j, hj, rfl⟩ := wi_3 c.1
    rw [nI_clamp (by omega)] at h
    cases hab : abs j with
    | none => rw [hab] at h; exact absurd (show (-11 : Int32) = 0 from h) (by decide)
    | some v =>
      obtain ⟨so, nr, rows⟩ := v
      rw [hab] at h
      have h : (if hrB nr r = false then (-12 : Int32) else if n < 0 then (-15) else 0) = 0 := h
      cases hr : hrB nr r with
      | false => rw [hr] at h; exact absurd (show (-12 : Int32) = 0 from h) (by decide)
      | true =>
        obtain ⟨jr, hjr, rfl⟩ := hr_of hr (po_nr hPO hj hab)
        rw [ite_f hr] at h
        by_cases c2 : n < 0
        · rw [if_pos c2] at h; exact absurd h (by decide)
        · obtain ⟨n', hn, rfl⟩ := nI_of c2
          exact ⟨j, jr, n', so, nr, rows, hj, rfl, hab, hjr, rfl, (nI_leI (b := 40) hn (by decide)).mp c.2, rfl⟩
  · rw [rwD, if_neg c] at h; exact absurd h (by decide)
theorem pt_of {g : Gx} {pool : va_W} {shf : Nat → Option Nat} {abs : Nat → SH} (hPO : PO g pool shf abs) {x so r i : Int32} (h : ptD abs x so r i = 0) : ∃ (j jr i' : Nat) (nr : Nat) (rows : Nat → RW) (len : Nat) (f : Nat → Int32), j < 3 ∧ x = nI j ∧ (so = 0 ∨ so = 1) ∧ abs j = some (so, nr, rows) ∧ jr < nr ∧ r = nI jr ∧ rows jr = some (len, f) ∧ i' < len ∧ i = nI i' := by
  by_cases c : (wiB x 0 2 && soB so) = true
  · rw [ptD, if_pos c] at h
    have c1 := Bool.and_eq_true_iff.mp c
    obtain ⟨j, hj, rfl⟩ := wi_3 c1.1
    rw [nI_clamp (by omega)] at h
    cases hab : abs j with
    | none => rw [hab] at h; exact absurd (show (-11 : Int32) = 0 from h) (by decide)
    | some v =>
      obtain ⟨s1, nr, rows⟩ := v
      rw [hab] at h
      have hnr := po_nr hPO hj hab
      have h : (if s1 = so then (if hrB nr r = false then (-12 : Int32) else ptD2 (rows r.toNatClampNeg) i) else (-13)) = 0 := h
      by_cases c2 : s1 = so
      · subst c2
        rw [if_pos rfl] at h
        cases hr : hrB nr r with
        | false => rw [hr] at h; exact absurd (show (-12 : Int32) = 0 from h) (by decide)
        | true =>
          obtain ⟨jr, hjr, rfl⟩ := hr_of hr hnr
          rw [ite_f hr, nI_clamp (by omega)] at h
          cases hrow : rows jr with
          | none => rw [hrow] at h; exact absurd (show (-11 : Int32) = 0 from h) (by decide)
          | some v =>
            obtain ⟨len, f⟩ := v
            rw [hrow] at h
            have h : (if hoB len i 1 = true then (0 : Int32) else (-12)) = 0 := h
            cases ho : hoB len i 1 with
            | false => rw [ho] at h; exact absurd (show (-12 : Int32) = 0 from h) (by decide)
            | true =>
              obtain ⟨a, ra, rf, p1, p2, -, -, -, -, -, q⟩ := po_abs hPO hj hab
              have hlen : len ≤ 40 := by
                rcases q jr hjr with z | ⟨len', f', b, p, z1, -, z3, -⟩
                · rw [hrow] at z; cases z.1
                · rw [hrow] at z1; cases z1; exact z3
              obtain ⟨i', n', rfl, hn, hs⟩ := ho_of ho hlen
              have hn1 : n' = 1 := ((nI_eq (a := 1) (b := n') (by decide) (by omega)).mp hn).symm
              exact ⟨j, jr, i', nr, rows, len, f, hj, rfl, of_decide_eq_true c1.2, hab, hjr, rfl, hrow, by omega, rfl⟩
      · rw [if_neg c2] at h; exact absurd h (by decide)
  · rw [ptD, if_neg c] at h; exact absurd h (by decide)
theorem cp_of {g : Gx} {pool : va_W} {shf : Nat → Option Nat} {abs : Nat → SH} (hPO : PO g pool shf abs) {x r i o s j n : Int32} (h : cpD abs x r i o s j n = 0) : ∃ (a b jr js i' j' n' : Nat) (so : Int32) (n1 n2 : Nat) (rows1 rows2 : Nat → RW) (l1 l2 : Nat) (f1 f2 : Nat → Int32), a < 3 ∧ b < 3 ∧ x = nI a ∧ o = nI b ∧ abs a = some (so, n1, rows1) ∧ abs b = some (so, n2, rows2) ∧ jr < n1 ∧ js < n2 ∧ r = nI jr ∧ s = nI js ∧ rows1 jr = some (l1, f1) ∧ rows2 js = some (l2, f2) ∧ i = nI i' ∧ j = nI j' ∧ n = nI n' ∧ i' + n' ≤ l1 ∧ j' + n' ≤ l2 := by
  by_cases c : (wiB x 0 2 && wiB o 0 2) = true
  · rw [cpD, if_pos c] at h
    have c1 := Bool.and_eq_true_iff.mp c
    obtain ⟨a, ha, rfl⟩ := wi_3 c1.1
    obtain ⟨b, hb, rfl⟩ := wi_3 c1.2
    rw [nI_clamp (by omega), nI_clamp (by omega)] at h
    cases hab : abs a with
    | none => rw [hab] at h; exact absurd (show (-11 : Int32) = 0 from h) (by decide)
    | some v =>
      obtain ⟨s1, n1, rows1⟩ := v
      cases hab2 : abs b with
      | none => rw [hab, hab2] at h; exact absurd (show (-11 : Int32) = 0 from h) (by decide)
      | some v =>
        obtain ⟨s2, n2, rows2⟩ := v
        rw [hab, hab2, cp_e] at h
        have g1 := po_nr hPO ha hab
        have g2 := po_nr hPO hb hab2
        by_cases c2 : s1 = s2
        · subst c2
          rw [if_pos rfl] at h
          by_cases c3 : (hrB n1 r && hrB n2 s) = true
          · rw [if_pos c3] at h
            have c4 := Bool.and_eq_true_iff.mp c3
            obtain ⟨jr, hjr, rfl⟩ := hr_of c4.1 g1
            obtain ⟨js, hjs, rfl⟩ := hr_of c4.2 g2
            rw [nI_clamp (by omega), nI_clamp (by omega)] at h
            cases hr1 : rows1 jr with
            | none => rw [hr1] at h; exact absurd (show (-11 : Int32) = 0 from h) (by decide)
            | some v =>
              obtain ⟨l1, f1⟩ := v
              cases hr2 : rows2 js with
              | none => rw [hr1, hr2] at h; exact absurd (show (-11 : Int32) = 0 from h) (by decide)
              | some v =>
                obtain ⟨l2, f2⟩ := v
                rw [hr1, hr2] at h
                have h : (if (hoB l1 i n && hoB l2 j n) = true then (0 : Int32) else (-12)) = 0 := h
                by_cases c5 : (hoB l1 i n && hoB l2 j n) = true
                · have c6 := Bool.and_eq_true_iff.mp c5
                  have hl : ∀ (a : Nat) (nn : Nat) (rr : Nat → RW) (jj l : Nat) (f : Nat → Int32), a < 3 → abs a = some (s1, nn, rr) → jj < nn → rr jj = some (l, f) → l ≤ 40 := by
                    intro a nn rr jj l f h1 h2 h3 h4
                    obtain ⟨_, _, _, _, _, -, -, -, -, -, q⟩ := po_abs hPO h1 h2
                    rcases q jj h3 with z | ⟨len', f', b, p, z1, -, z3, -⟩
                    · rw [h4] at z; cases z.1
                    · rw [h4] at z1; cases z1; exact z3
                  obtain ⟨i', n', rfl, rfl, k1⟩ := ho_of c6.1 (hl a n1 rows1 jr l1 f1 ha hab hjr hr1)
                  have hl2 := hl b n2 rows2 js l2 f2 hb hab2 hjs hr2
                  have hl1 := hl a n1 rows1 jr l1 f1 ha hab hjr hr1
                  obtain ⟨j', n'', rfl, hn, k2⟩ := ho_of c6.2 hl2
                  have : n'' = n' := ((nI_eq (by omega) (by omega)).mp hn).symm
                  subst this
                  exact ⟨a, b, jr, js, i', j', n'', s1, n1, n2, rows1, rows2, l1, l2, f1, f2, ha, hb, rfl, rfl, hab, hab2, hjr, hjs, rfl, rfl, hr1, hr2, rfl, rfl, rfl, k1, k2⟩
                · rw [if_neg c5] at h; exact absurd h (by decide)
          · rw [if_neg c3] at h; exact absurd h (by decide)
        · rw [if_neg c2] at h; exact absurd h (by decide)
  · rw [cpD, if_neg c] at h; exact absurd h (by decide)
theorem show_set {c0 c1 c2 c3 c4 c5 c6 c7 c8 c9 c10 c11 c12 c13 c14 c15 c16 c17 c18 c19 c20 c21 c22 c23 c24 : Nat × va_E} {pool pool' : va_W} {p : Nat} {x : Nat × va_E} (h : pool.set p x = pool') : (c0 :: c1 :: c2 :: c3 :: c4 :: c5 :: c6 :: c7 :: c8 :: c9 :: c10 :: c11 :: c12 :: c13 :: c14 :: c15 :: c16 :: c17 :: c18 :: c19 :: c20 :: c21 :: c22 :: c23 :: c24 :: pool).set (p + 25) x = c0 :: c1 :: c2 :: c3 :: c4 :: c5 :: c6 :: c7 :: c8 :: c9 :: c10 :: c11 :: c12 :: c13 :: c14 :: c15 :: c16 :: c17 :: c18 :: c19 :: c20 :: c21 :: c22 :: c23 :: c24 :: pool' := by subst h; rfl
