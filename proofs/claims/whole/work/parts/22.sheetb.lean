/-! what the calls on sheets are refused by -/
theorem lk25 {c0 c1 c2 c3 c4 c5 c6 c7 c8 c9 c10 c11 c12 c13 c14 c15 c16 c17 c18 c19 c20 c21 c22 c23 c24 : Nat × va_E} {pool : va_W} {p : Nat} {x : Nat × va_E} (h : pool[p]? = some x) : (c0 :: c1 :: c2 :: c3 :: c4 :: c5 :: c6 :: c7 :: c8 :: c9 :: c10 :: c11 :: c12 :: c13 :: c14 :: c15 :: c16 :: c17 :: c18 :: c19 :: c20 :: c21 :: c22 :: c23 :: c24 :: pool)[p + 25]? = some x := h
theorem nd25 {c0 c1 c2 c3 c4 c5 c6 c7 c8 c9 c10 c11 c12 c13 c14 c15 c16 c17 c18 c19 c20 c21 c22 c23 c24 : Nat × va_E} {pool : va_W} (h : ND (c0 :: c1 :: c2 :: c3 :: c4 :: c5 :: c6 :: c7 :: c8 :: c9 :: c10 :: c11 :: c12 :: c13 :: c14 :: c15 :: c16 :: c17 :: c18 :: c19 :: c20 :: c21 :: c22 :: c23 :: c24 :: pool)) : ND pool := h.drop.drop.drop.drop.drop.drop.drop.drop.drop.drop.drop.drop.drop.drop.drop.drop.drop.drop.drop.drop.drop.drop.drop.drop.drop
def soB (so : Int32) : Bool := decide (so = 0 ∨ so = 1)
def sheD (x so n : Int32) : Int32 := if (wiB x 0 2 && soB so) = true ∧ n ≤ 4 then (if n < 0 then (-15) else 0) else (-1)
def hrB (nr : Nat) (r : Int32) : Bool := decide (0 ≤ r ∧ r < nI nr)
def hoB (len : Nat) (i n : Int32) : Bool := decide (0 ≤ n ∧ 0 ≤ i ∧ n ≤ nI len ∧ i ≤ nI len - n)
def rwD1 (s : SH) (r n : Int32) : Int32 := match s with
  | none => -11
  | some (_, nr, _) => if hrB nr r = false then (-12) else if n < 0 then (-15) else 0
def rwD (abs : Nat → SH) (x r n : Int32) : Int32 := if wiB x 0 2 = true ∧ n ≤ 40 then rwD1 (abs x.toNatClampNeg) r n else (-1)
def rfD (s : SH) (r : Int32) : Int32 := match s with
  | none => -11
  | some (_, nr, rows) => if hrB nr r = false then (-12) else match rows r.toNatClampNeg with
    | none => -11
    | some _ => 0
def ptD2 (row : RW) (i : Int32) : Int32 := match row with
  | none => -11
  | some (len, _) => if hoB len i 1 = true then 0 else (-12)
def ptD1 (s : SH) (so r i : Int32) : Int32 := match s with
  | none => -11
  | some (s1, nr, rows) => if s1 = so then (if hrB nr r = false then (-12) else ptD2 (rows r.toNatClampNeg) i) else (-13)
def ptD (abs : Nat → SH) (x so r i : Int32) : Int32 := if (wiB x 0 2 && soB so) = true then ptD1 (abs x.toNatClampNeg) so r i else (-1)
def cpD2 (r1 r2 : RW) (i j n : Int32) : Int32 := match r1 with
  | none => -11
  | some (l1, _) => match r2 with
    | none => -11
    | some (l2, _) => if (hoB l1 i n && hoB l2 j n) = true then 0 else (-12)
def cpD1 (a b : SH) (r i s j n : Int32) : Int32 := match a with
  | none => -11
  | some (s1, n1, rows1) => match b with
    | none => -11
    | some (s2, n2, rows2) => if s1 = s2 then (if (hrB n1 r && hrB n2 s) = true then cpD2 (rows1 r.toNatClampNeg) (rows2 s.toNatClampNeg) i j n else (-12)) else (-13)
def cpD (abs : Nat → SH) (x r i o s j n : Int32) : Int32 := if (wiB x 0 2 && wiB o 0 2) = true then cpD1 (abs x.toNatClampNeg) (abs o.toNatClampNeg) r i s j n else (-1)
theorem hr_of {nr : Nat} {r : Int32} (h : hrB nr r = true) (hn : nr ≤ 4) : ∃ j, j < nr ∧ r = nI j := by
  obtain ⟨h1, h2⟩ := of_decide_eq_true h
  obtain ⟨j, hj, rfl⟩ := nI_of (Int32.not_lt.mpr h1)
  exact ⟨j, (nI_ltI hj (by omega)).mp h2, rfl⟩
theorem hr_n1 {nr : Nat} {r : Int32} (h : r < 0) : hrB nr r = false := decide_eq_false (fun q => Int32.not_le.mpr h q.1)
theorem hr_n2 {nr : Nat} {r : Int32} (h : nI nr ≤ r) : hrB nr r = false := decide_eq_false (fun q => Int32.not_lt.mpr h q.2)
theorem hr_y {nr : Nat} {r : Int32} (h : ¬ r < 0) (h2 : ¬ nI nr ≤ r) : hrB nr r = true := decide_eq_true ⟨Int32.not_lt.mp h, Int32.not_le.mp h2⟩
theorem ho_n1 {len : Nat} {i n : Int32} (h : n < 0) : hoB len i n = false := decide_eq_false (fun q => Int32.not_le.mpr h q.1)
theorem ho_n2 {len : Nat} {i n : Int32} (h : i < 0) : hoB len i n = false := decide_eq_false (fun q => Int32.not_le.mpr h q.2.1)
theorem ho_n3 {len : Nat} {i n : Int32} (h : nI len < n) : hoB len i n = false := decide_eq_false (fun q => Int32.not_le.mpr h q.2.2.1)
theorem ho_n4 {len : Nat} {i n : Int32} (h : nI len - n < i) : hoB len i n = false := decide_eq_false (fun q => Int32.not_le.mpr h q.2.2.2)
theorem ho_y {len : Nat} {i n : Int32} (h1 : ¬ n < 0) (h2 : ¬ i < 0) (h3 : ¬ nI len < n) (h4 : ¬ nI len - n < i) : hoB len i n = true := decide_eq_true ⟨Int32.not_lt.mp h1, Int32.not_lt.mp h2, Int32.not_lt.mp h3, Int32.not_lt.mp h4⟩
theorem ho_of {len : Nat} {i n : Int32} (h : hoB len i n = true) (hl : len ≤ 40) : ∃ i' n' : Nat, i = nI i' ∧ n = nI n' ∧ i' + n' ≤ len := by
  obtain ⟨h1, h2, h3, h4⟩ := of_decide_eq_true h
  obtain ⟨i', hi, rfl⟩ := nI_of (Int32.not_lt.mpr h2)
  obtain ⟨n', hn, rfl⟩ := nI_of (Int32.not_lt.mpr h1)
  have h5 := (nI_leI hn (by omega)).mp h3
  rw [pk_sub h5] at h4
  have h6 := (nI_leI hi (by omega)).mp h4
  exact ⟨i', n', rfl, rfl, by omega⟩
theorem wi_3 {x : Int32} (h : wiB x 0 2 = true) : ∃ j, j < 3 ∧ x = nI j := by
  rcases wi02 h with rfl | rfl | rfl
  · exact ⟨0, by decide, rfl⟩
  · exact ⟨1, by decide, rfl⟩
  · exact ⟨2, by decide, rfl⟩
theorem hr_in {nr j : Nat} (h : j < nr) (hn : nr ≤ 4) : hrB nr (nI j) = true := decide_eq_true ⟨nI_pos' (by omega), nI_lt h (by omega)⟩
theorem rf_of {so : Int32} {nr : Nat} {rows : Nat → RW} {r : Int32} (h : rfD (some (so, nr, rows)) r = 0) (hn : nr ≤ 4) : ∃ j, j < nr ∧ r = nI j ∧ rows j ≠ none := by
  cases hr : hrB nr r with
  | false => rw [show rfD (some (so, nr, rows)) r = -12 by simp only [rfD, hr]; rfl] at h; exact absurd h (by decide)
  | true =>
    obtain ⟨j, hj, rfl⟩ := hr_of hr hn
    refine ⟨j, hj, rfl, fun q => ?_⟩
    simp only [rfD, hr, nI_clamp (show j < 2 ^ 31 by omega), q] at h
    exact absurd h (by decide)
theorem rf_pt {s1 : Int32} {nr : Nat} {rows : Nat → RW} {r i : Int32} (h : ¬ rfD (some (s1, nr, rows)) r = 0) : rfD (some (s1, nr, rows)) r = if hrB nr r = false then (-12) else ptD2 (rows r.toNatClampNeg) i := by
  cases hr : hrB nr r with
  | false => simp only [rfD, hr]; rfl
  | true =>
    cases hq : rows r.toNatClampNeg with
    | none => simp only [rfD, hr, hq, ptD2]
    | some v => simp only [rfD, hr, hq] at h; exact absurd rfl h
theorem ite_b0 {α : Type} {b : Bool} {x z : α} (h : bI b = 0) : (if b = true then x else z) = z := if_neg (by rw [bI_0.mp h]; decide)
theorem ite_b1 {α : Type} {b : Bool} {x z : α} (h : ¬ bI b = 0) : (if b = true then x else z) = x := if_pos (bI_n0.mp h)
theorem ite_f {α : Type} {b : Bool} {x z : α} (h : b = true) : (if b = false then x else z) = z := if_neg (by rw [h]; decide)
theorem pt_ok {so : Int32} {nr j len : Nat} {rows : Nat → RW} {f : Nat → Int32} {i : Int32} (hj : j < nr) (hn : nr ≤ 4) (hr : rows j = some (len, f)) : ptD1 (some (so, nr, rows)) so (nI j) i = if hoB len i 1 = true then 0 else (-12) := by
  show (if so = so then (if hrB nr (nI j) = false then (-12) else ptD2 (rows (nI j).toNatClampNeg) i) else (-13)) = _
  rw [if_pos rfl, ite_f (hr_in hj hn), nI_clamp (by omega), hr]
  rfl
section CPD
variable {s1 s2 : Int32} {n1 n2 jr js l1 l2 : Nat} {rows1 rows2 : Nat → RW} {f1 f2 : Nat → Int32} {r s i j n : Int32}
theorem cp_e : cpD1 (some (s1, n1, rows1)) (some (s2, n2, rows2)) r i s j n = if s1 = s2 then (if (hrB n1 r && hrB n2 s) = true then cpD2 (rows1 r.toNatClampNeg) (rows2 s.toNatClampNeg) i j n else (-12)) else (-13) := rfl
theorem cp_c (h : ¬ s1 = s2) : cpD1 (some (s1, n1, rows1)) (some (s2, n2, rows2)) r i s j n = -13 := by rw [cp_e, if_neg h]
theorem cp_r1 (h : s1 = s2) (h2 : bI (hrB n1 r) = 0) : cpD1 (some (s1, n1, rows1)) (some (s2, n2, rows2)) r i s j n = -12 := by rw [cp_e, if_pos h, p_n (bI_0.mp h2)]; rfl
theorem cp_r2 (h : s1 = s2) (h2 : bI (hrB n2 s) = 0) : cpD1 (some (s1, n1, rows1)) (some (s2, n2, rows2)) r i s j n = -12 := by rw [cp_e, if_pos h, bI_0.mp h2, Bool.and_false]; rfl
theorem cp_in (h : s1 = s2) (h1 : jr < n1) (g1 : n1 ≤ 4) (h2 : js < n2) (g2 : n2 ≤ 4) : cpD1 (some (s1, n1, rows1)) (some (s2, n2, rows2)) (nI jr) i (nI js) j n = cpD2 (rows1 jr) (rows2 js) i j n := by
  rw [cp_e, if_pos h, if_pos (p_yy (hr_in h1 g1) (hr_in h2 g2)), nI_clamp (by omega), nI_clamp (by omega)]
theorem cp_m1 (h : s1 = s2) (h1 : jr < n1) (g1 : n1 ≤ 4) (h2 : js < n2) (g2 : n2 ≤ 4) (q : rows1 jr = none) : cpD1 (some (s1, n1, rows1)) (some (s2, n2, rows2)) (nI jr) i (nI js) j n = -11 := by rw [cp_in h h1 g1 h2 g2, q]; rfl
theorem cp_m2 (h : s1 = s2) (h1 : jr < n1) (g1 : n1 ≤ 4) (h2 : js < n2) (g2 : n2 ≤ 4) (q : rows2 js = none) : cpD1 (some (s1, n1, rows1)) (some (s2, n2, rows2)) (nI jr) i (nI js) j n = -11 := by
  rw [cp_in h h1 g1 h2 g2, q]
  cases rows1 jr <;> rfl
theorem cp_ok (h : s1 = s2) (h1 : jr < n1) (g1 : n1 ≤ 4) (h2 : js < n2) (g2 : n2 ≤ 4) (q1 : rows1 jr = some (l1, f1)) (q2 : rows2 js = some (l2, f2)) : cpD1 (some (s1, n1, rows1)) (some (s2, n2, rows2)) (nI jr) i (nI js) j n = if (hoB l1 i n && hoB l2 j n) = true then 0 else (-12) := by rw [cp_in h h1 g1 h2 g2, q1, q2]; rfl
theorem cp_y (h1 : ¬ bI (hoB l1 i n) = 0) (h2 : ¬ bI (hoB l2 j n) = 0) : (if (hoB l1 i n && hoB l2 j n) = true then (0 : Int32) else (-12)) = 0 := if_pos (p_yy (bI_n0.mp h1) (bI_n0.mp h2))
theorem cp_n1 (h1 : bI (hoB l1 i n) = 0) : (if (hoB l1 i n && hoB l2 j n) = true then (0 : Int32) else (-12)) = -12 := if_neg (by rw [p_n (bI_0.mp h1)]; decide)
theorem cp_n2 (h1 : bI (hoB l2 j n) = 0) : (if (hoB l1 i n && hoB l2 j n) = true then (0 : Int32) else (-12)) = -12 := if_neg (by rw [bI_0.mp h1, Bool.and_false]; decide)
end CPD
