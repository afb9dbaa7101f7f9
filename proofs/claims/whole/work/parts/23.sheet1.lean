set_option maxRecDepth 20000 in
set_option maxHeartbeats 400000 in
theorem c_isSheet (g : Gx) (w : va_W) (x : Int32) : Con g yX4_isSheet cX4_isSheet 1 (some .boolean) 1 22 0 0 [.int x] w (Rs (some (.int (bI (wiB x 0 2)))) w) := by
  refine Con.ofZ (by decide +kernel) (Nat.le_of_ble_eq_true rfl) (fun φ K0 hr => ?_)
  show X φ 0 0 w [(0, .int x)] 0 []
  refine X_iload_n K0 0 dX4_isSheet_0 rfl rfl ?_
  refine X_iconst (v := 0) K0 dX4_isSheet_1 (by decide) ?_
  refine X_iconst (v := 2) K0 dX4_isSheet_2 (by decide) ?_
  refine X_callS (As := [.int x, .int 0, .int 2]) (rest := []) K0 (c_isWithin g w x 0 2) ms_X4_isWithin rfl ml_RX4_53 rfl (Nat.le_of_ble_eq_true rfl) (by decide) ⟨Nat.le_of_ble_eq_true rfl, Nat.le_of_ble_eq_true rfl⟩ rfl rfl dX4_isSheet_3 ?_
  intro v w' hr'; obtain ⟨rfl, rfl⟩ := hr'
  show X φ 0 0 w [(0, .int x)] 6 [.int (bI (wiB x 0 2))]
  exact hr _ _ _ _ ⟨rfl, rfl⟩ (bI_01 _) dX4_isSheet_6

set_option maxRecDepth 20000 in
set_option maxHeartbeats 400000 in
theorem c_isSort (g : Gx) (w : va_W) (x : Int32) : Con g yX4_isSort cX4_isSort 1 (some .boolean) 0 0 0 0 [.int x] w (Rs (some (.int (bI (soB x)))) w) := by
  refine Con.ofZ (by decide +kernel) (Nat.le_of_ble_eq_true rfl) (fun φ K0 hr => ?_)
  show X φ 0 0 w [(0, .int x)] 0 []
  refine X_iload_n K0 0 dX4_isSort_0 rfl rfl ?_
  refine X_if_eq K0 9 dX4_isSort_1 (by decide) (fun h1 => ?_) (fun h1 => ?_)
  · refine X_iconst (v := 1) K0 dX4_isSort_9 (by decide) ?_
    refine X_goto K0 14 dX4_isSort_10 (by decide) ?_
    exact hr _ _ _ _ ⟨by first | (rw [soB, decide_eq_true (Or.inl (by assumption))]; rfl) | (rw [soB, decide_eq_true (Or.inr (by assumption))]; rfl) | (rw [soB, decide_eq_false (fun q => q.elim (by assumption) (by assumption))]; rfl), rfl⟩ (by first | exact Or.inl rfl | exact Or.inr rfl) dX4_isSort_14
  · refine X_iload_n K0 0 dX4_isSort_4 rfl rfl ?_
    refine X_iconst (v := 1) K0 dX4_isSort_5 (by decide) ?_
    refine X_icmp_ne K0 13 dX4_isSort_6 (by decide) (fun h6 => ?_) (fun h6 => ?_)
    · refine X_iconst (v := 0) K0 dX4_isSort_13 (by decide) ?_
      exact hr _ _ _ _ ⟨by first | (rw [soB, decide_eq_true (Or.inl (by assumption))]; rfl) | (rw [soB, decide_eq_true (Or.inr (by assumption))]; rfl) | (rw [soB, decide_eq_false (fun q => q.elim (by assumption) (by assumption))]; rfl), rfl⟩ (by first | exact Or.inl rfl | exact Or.inr rfl) dX4_isSort_14
    · refine X_iconst (v := 1) K0 dX4_isSort_9 (by decide) ?_
      refine X_goto K0 14 dX4_isSort_10 (by decide) ?_
      exact hr _ _ _ _ ⟨by first | (rw [soB, decide_eq_true (Or.inl (by assumption))]; rfl) | (rw [soB, decide_eq_true (Or.inr (by assumption))]; rfl) | (rw [soB, decide_eq_false (fun q => q.elim (by assumption) (by assumption))]; rfl), rfl⟩ (by first | exact Or.inl rfl | exact Or.inr rfl) dX4_isSort_14

set_option maxRecDepth 20000 in
set_option maxHeartbeats 400000 in
theorem c_sheetFinding (g : Gx) (w : va_W) (x so n : Int32) : Con g yX4_sheetFinding cX4_sheetFinding 3 (some .int) 2 42 0 0 [.int x, .int so, .int n] w (Rs (some (.int (sheD x so n))) w) := by
  refine Con.ofI (by decide +kernel) (Nat.le_of_ble_eq_true rfl) (fun φ K0 hr => ?_)
  show X φ 0 0 w [(0, .int x), (1, .int so), (2, .int n)] 0 []
  refine X_iload_n K0 0 dX4_sheetFinding_0 rfl rfl ?_
  refine X_callS (As := [.int x]) (rest := []) K0 (c_isSheet g w x) ms_X4_isSheet rfl ml_RX4_204 rfl (Nat.le_of_ble_eq_true rfl) (by decide) ⟨Nat.le_of_ble_eq_true rfl, Nat.le_of_ble_eq_true rfl⟩ rfl rfl dX4_sheetFinding_1 ?_
  intro v w' hr'; obtain ⟨rfl, rfl⟩ := hr'
  show X φ 0 0 w [(0, .int x), (1, .int so), (2, .int n)] 4 [.int (bI (wiB x 0 2))]
  refine X_if_eq K0 19 dX4_sheetFinding_4 (by decide) (fun h4 => ?_) (fun h4 => ?_)
  · refine X_iconst (v := (-1)) K0 dX4_sheetFinding_19 (by decide) ?_
    exact hr _ _ _ _ ⟨by first | (rw [sheD, if_pos ⟨p_yy (bI_n0.mp h4) (bI_n0.mp h11), h16⟩, if_neg (Int32.not_lt.mpr h22)]) | (rw [sheD, if_pos ⟨p_yy (bI_n0.mp h4) (bI_n0.mp h11), h16⟩, if_pos (Int32.not_le.mp h22)]) | (rw [sheD, if_neg (fun q => h16 q.2)]) | (rw [sheD, if_neg (fun q => absurd q.1 (by rw [p_n (bI_0.mp h4)]; decide))]) | (rw [sheD, if_neg (fun q => absurd q.1 (by rw [p_yn (bI_n0.mp h4) (bI_0.mp h11)]; decide))]), rfl⟩ dX4_sheetFinding_20
  · refine X_iload_n K0 1 dX4_sheetFinding_7 rfl rfl ?_
    refine X_callS (As := [.int so]) (rest := []) K0 (c_isSort g w so) ms_X4_isSort rfl ml_RX4_248 rfl (Nat.le_of_ble_eq_true rfl) (by decide) ⟨Nat.le_of_ble_eq_true rfl, Nat.le_of_ble_eq_true rfl⟩ rfl rfl dX4_sheetFinding_8 ?_
    intro v w' hr'; obtain ⟨rfl, rfl⟩ := hr'
    show X φ 0 0 w [(0, .int x), (1, .int so), (2, .int n)] 11 [.int (bI (soB so))]
    refine X_if_eq K0 19 dX4_sheetFinding_11 (by decide) (fun h11 => ?_) (fun h11 => ?_)
    · refine X_iconst (v := (-1)) K0 dX4_sheetFinding_19 (by decide) ?_
      exact hr _ _ _ _ ⟨by first | (rw [sheD, if_pos ⟨p_yy (bI_n0.mp h4) (bI_n0.mp h11), h16⟩, if_neg (Int32.not_lt.mpr h22)]) | (rw [sheD, if_pos ⟨p_yy (bI_n0.mp h4) (bI_n0.mp h11), h16⟩, if_pos (Int32.not_le.mp h22)]) | (rw [sheD, if_neg (fun q => h16 q.2)]) | (rw [sheD, if_neg (fun q => absurd q.1 (by rw [p_n (bI_0.mp h4)]; decide))]) | (rw [sheD, if_neg (fun q => absurd q.1 (by rw [p_yn (bI_n0.mp h4) (bI_0.mp h11)]; decide))]), rfl⟩ dX4_sheetFinding_20
    · refine X_iload_n K0 2 dX4_sheetFinding_14 rfl rfl ?_
      refine X_iconst (v := 4) K0 dX4_sheetFinding_15 (by decide) ?_
      refine X_icmp_le K0 21 dX4_sheetFinding_16 (by decide) (fun h16 => ?_) (fun h16 => ?_)
      · refine X_iload_n K0 2 dX4_sheetFinding_21 rfl rfl ?_
        refine X_if_ge K0 30 dX4_sheetFinding_22 (by decide) (fun h22 => ?_) (fun h22 => ?_)
        · refine X_iconst (v := 0) K0 dX4_sheetFinding_30 (by decide) ?_
          exact hr _ _ _ _ ⟨by first | (rw [sheD, if_pos ⟨p_yy (bI_n0.mp h4) (bI_n0.mp h11), h16⟩, if_neg (Int32.not_lt.mpr h22)]) | (rw [sheD, if_pos ⟨p_yy (bI_n0.mp h4) (bI_n0.mp h11), h16⟩, if_pos (Int32.not_le.mp h22)]) | (rw [sheD, if_neg (fun q => h16 q.2)]) | (rw [sheD, if_neg (fun q => absurd q.1 (by rw [p_n (bI_0.mp h4)]; decide))]) | (rw [sheD, if_neg (fun q => absurd q.1 (by rw [p_yn (bI_n0.mp h4) (bI_0.mp h11)]; decide))]), rfl⟩ dX4_sheetFinding_31
        · refine X_bipush (v := (-15)) K0 dX4_sheetFinding_25 (by decide) ?_
          refine X_goto K0 31 dX4_sheetFinding_27 (by decide) ?_
          exact hr _ _ _ _ ⟨by first | (rw [sheD, if_pos ⟨p_yy (bI_n0.mp h4) (bI_n0.mp h11), h16⟩, if_neg (Int32.not_lt.mpr h22)]) | (rw [sheD, if_pos ⟨p_yy (bI_n0.mp h4) (bI_n0.mp h11), h16⟩, if_pos (Int32.not_le.mp h22)]) | (rw [sheD, if_neg (fun q => h16 q.2)]) | (rw [sheD, if_neg (fun q => absurd q.1 (by rw [p_n (bI_0.mp h4)]; decide))]) | (rw [sheD, if_neg (fun q => absurd q.1 (by rw [p_yn (bI_n0.mp h4) (bI_0.mp h11)]; decide))]), rfl⟩ dX4_sheetFinding_31
      · refine X_iconst (v := (-1)) K0 dX4_sheetFinding_19 (by decide) ?_
        exact hr _ _ _ _ ⟨by first | (rw [sheD, if_pos ⟨p_yy (bI_n0.mp h4) (bI_n0.mp h11), h16⟩, if_neg (Int32.not_lt.mpr h22)]) | (rw [sheD, if_pos ⟨p_yy (bI_n0.mp h4) (bI_n0.mp h11), h16⟩, if_pos (Int32.not_le.mp h22)]) | (rw [sheD, if_neg (fun q => h16 q.2)]) | (rw [sheD, if_neg (fun q => absurd q.1 (by rw [p_n (bI_0.mp h4)]; decide))]) | (rw [sheD, if_neg (fun q => absurd q.1 (by rw [p_yn (bI_n0.mp h4) (bI_0.mp h11)]; decide))]), rfl⟩ dX4_sheetFinding_20

set_option maxRecDepth 20000 in
set_option maxHeartbeats 400000 in
theorem c_hasRow (g : Gx) (w : va_W) (q q2 a : Nat) (so : Int32) (ra : Nat) (hw : w[q]? = some (a, oSheet so ra)) (nr : Nat) (rf : Nat → Option Nat) (hw2 : w[q2]? = some (ra, aR g nr rf)) (hnr : nr ≤ 4) (r : Int32) : Con g yX2_hasRow cX2_hasRow 2 (some .boolean) 0 0 0 0 [.ref a, .int r] w (Rs (some (.int (bI (hrB nr r)))) w) := by
  refine Con.ofZ (by decide +kernel) (Nat.le_of_ble_eq_true rfl) (fun φ K0 hr => ?_)
  show X φ 0 0 w [(0, .ref a), (1, .int r)] 0 []
  refine X_iconst (v := 0) K0 dX2_hasRow_0 (by decide) ?_
  refine X_iload_n K0 1 dX2_hasRow_1 rfl rfl ?_
  refine X_icmp_gt K0 18 dX2_hasRow_2 (by decide) (fun h2 => ?_) (fun h2 => ?_)
  · refine X_iconst (v := 0) K0 dX2_hasRow_18 (by decide) ?_
    exact hr _ _ _ _ ⟨by first | (rw [hr_n1 h2]; rfl) | (rw [hr_n2 h11]; rfl) | (rw [hr_y h2 h11]; rfl), rfl⟩ (by first | exact Or.inl rfl | exact Or.inr rfl) dX2_hasRow_19
  · refine X_iload_n K0 1 dX2_hasRow_5 rfl rfl ?_
    refine X_aload_n K0 0 dX2_hasRow_6 rfl rfl ?_
    refine X_get K0 q hw rfl hin2 1 (by decide) fl_RX2_13 rfl dX2_hasRow_7 ?_
    refine X_alen (v := (nI nr)) K0 q2 4 hw2 rfl rfl dX2_hasRow_10 ?_
    refine X_icmp_ge K0 18 dX2_hasRow_11 (by decide) (fun h11 => ?_) (fun h11 => ?_)
    · refine X_iconst (v := 0) K0 dX2_hasRow_18 (by decide) ?_
      exact hr _ _ _ _ ⟨by first | (rw [hr_n1 h2]; rfl) | (rw [hr_n2 h11]; rfl) | (rw [hr_y h2 h11]; rfl), rfl⟩ (by first | exact Or.inl rfl | exact Or.inr rfl) dX2_hasRow_19
    · refine X_iconst (v := 1) K0 dX2_hasRow_14 (by decide) ?_
      refine X_goto K0 19 dX2_hasRow_15 (by decide) ?_
      exact hr _ _ _ _ ⟨by first | (rw [hr_n1 h2]; rfl) | (rw [hr_n2 h11]; rfl) | (rw [hr_y h2 h11]; rfl), rfl⟩ (by first | exact Or.inl rfl | exact Or.inr rfl) dX2_hasRow_19

set_option maxRecDepth 20000 in
set_option maxHeartbeats 400000 in
theorem c_holds (g : Gx) (w : va_W) (q q2 q3 a : Nat) (so : Int32) (ra : Nat) (hw : w[q]? = some (a, oSheet so ra)) (nr : Nat) (rf : Nat → Option Nat) (hw2 : w[q2]? = some (ra, aR g nr rf)) (hnr : nr ≤ 4) (b len : Nat) (f : Nat → Int32) (hw3 : w[q3]? = some (b, aI g len f)) (j : Nat) (hj : j < nr) (hrf : rf j = some b) (i n : Int32) : Con g yX2_holds cX2_holds 5 (some .boolean) 0 0 0 0 [.ref a, .int (nI j), .int i, .int n] w (Rs (some (.int (bI (hoB len i n)))) w) := by
  refine Con.ofZ (by decide +kernel) (Nat.le_of_ble_eq_true rfl) (fun φ K0 hr => ?_)
  show X φ 0 0 w [(0, .ref a), (1, .int (nI j)), (2, .int i), (3, .int n)] 0 []
  refine X_aload_n K0 0 dX2_holds_0 rfl rfl ?_
  refine X_get K0 q hw rfl hin2 1 (by decide) fl_RX2_13 rfl dX2_holds_1 ?_
  refine X_iload_n K0 1 dX2_holds_4 rfl rfl ?_
  refine X_rald (v := .ref b) K0 q2 hw2 (by omega) (by omega) (by rw [hrf]; rfl) dX2_holds_5 ?_
  refine X_alen (v := (nI len)) K0 q3 0 hw3 rfl rfl dX2_holds_6 ?_
  refine X_istore (L' := [(4, .int (nI len)), (0, .ref a), (1, .int (nI j)), (2, .int i), (3, .int n)]) K0 dX2_holds_7 (by decide) rfl ?_
  refine X_iload_n K0 4 dX2_holds_9 rfl rfl ?_
  refine X_if_lt K0 35 dX2_holds_10 (by decide) (fun h10 => ?_) (fun h10 => ?_)
  · refine X_iconst (v := 0) K0 dX2_holds_35 (by decide) ?_
    exact hr _ _ _ _ ⟨by first | (rw [ho_n1 h10]; rfl) | (rw [ho_n2 h14]; rfl) | (rw [ho_n3 h20]; rfl) | (rw [ho_n4 h28]; rfl) | (rw [ho_y h10 h14 h20 h28]; rfl), rfl⟩ (by first | exact Or.inl rfl | exact Or.inr rfl) dX2_holds_36
  · refine X_iload_n K0 3 dX2_holds_13 rfl rfl ?_
    refine X_if_lt K0 35 dX2_holds_14 (by decide) (fun h14 => ?_) (fun h14 => ?_)
    · refine X_iconst (v := 0) K0 dX2_holds_35 (by decide) ?_
      exact hr _ _ _ _ ⟨by first | (rw [ho_n1 h10]; rfl) | (rw [ho_n2 h14]; rfl) | (rw [ho_n3 h20]; rfl) | (rw [ho_n4 h28]; rfl) | (rw [ho_y h10 h14 h20 h28]; rfl), rfl⟩ (by first | exact Or.inl rfl | exact Or.inr rfl) dX2_holds_36
    · refine X_iload_n K0 4 dX2_holds_17 rfl rfl ?_
      refine X_iload K0 0 dX2_holds_18 rfl ?_
      refine X_icmp_gt K0 35 dX2_holds_20 (by decide) (fun h20 => ?_) (fun h20 => ?_)
      · refine X_iconst (v := 0) K0 dX2_holds_35 (by decide) ?_
        exact hr _ _ _ _ ⟨by first | (rw [ho_n1 h10]; rfl) | (rw [ho_n2 h14]; rfl) | (rw [ho_n3 h20]; rfl) | (rw [ho_n4 h28]; rfl) | (rw [ho_y h10 h14 h20 h28]; rfl), rfl⟩ (by first | exact Or.inl rfl | exact Or.inr rfl) dX2_holds_36
      · refine X_iload_n K0 3 dX2_holds_23 rfl rfl ?_
        refine X_iload K0 0 dX2_holds_24 rfl ?_
        refine X_iload_n K0 4 dX2_holds_26 rfl rfl ?_
        refine X_isub K0 dX2_holds_27 ?_
        refine X_icmp_gt K0 35 dX2_holds_28 (by decide) (fun h28 => ?_) (fun h28 => ?_)
        · refine X_iconst (v := 0) K0 dX2_holds_35 (by decide) ?_
          exact hr _ _ _ _ ⟨by first | (rw [ho_n1 h10]; rfl) | (rw [ho_n2 h14]; rfl) | (rw [ho_n3 h20]; rfl) | (rw [ho_n4 h28]; rfl) | (rw [ho_y h10 h14 h20 h28]; rfl), rfl⟩ (by first | exact Or.inl rfl | exact Or.inr rfl) dX2_holds_36
        · refine X_iconst (v := 1) K0 dX2_holds_31 (by decide) ?_
          refine X_goto K0 36 dX2_holds_32 (by decide) ?_
          exact hr _ _ _ _ ⟨by first | (rw [ho_n1 h10]; rfl) | (rw [ho_n2 h14]; rfl) | (rw [ho_n3 h20]; rfl) | (rw [ho_n4 h28]; rfl) | (rw [ho_y h10 h14 h20 h28]; rfl), rfl⟩ (by first | exact Or.inl rfl | exact Or.inr rfl) dX2_holds_36

set_option maxRecDepth 20000 in
set_option maxHeartbeats 400000 in
theorem c_rowFindingN (g : Gx) (w : va_W) (r : Int32) : Con g yX4_rowFinding cX4_rowFinding 2 (some .int) 1 21 0 0 [.null, .int r] w (Rs (some (.int (-11))) w) := by
  refine Con.ofI (by decide +kernel) (Nat.le_of_ble_eq_true rfl) (fun φ K0 hr => ?_)
  show X φ 0 0 w [(0, .null), (1, .int r)] 0 []
  refine X_aload_nN K0 0 dX4_rowFinding_0 rfl rfl ?_
  refine X_ifnonnullN K0 dX4_rowFinding_1 ?_
  refine X_bipush (v := (-11)) K0 dX4_rowFinding_4 (by decide) ?_
  exact hr _ _ _ _ ⟨rfl, rfl⟩ dX4_rowFinding_6

set_option maxRecDepth 20000 in
set_option maxHeartbeats 400000 in
theorem c_rowFinding (g : Gx) (w : va_W) (q q2 a : Nat) (so : Int32) (ra : Nat) (hw : w[q]? = some (a, oSheet so ra)) (nr : Nat) (rf : Nat → Option Nat) (hw2 : w[q2]? = some (ra, aR g nr rf)) (hnr : nr ≤ 4) (rows : Nat → RW) {pl2 : va_W} (hrw : ∀ r, r < nr → (rows r = none ∧ rf r = none) ∨ ∃ (len : Nat) (f : Nat → Int32) (b p : Nat), rows r = some (len, f) ∧ rf r = some b ∧ len ≤ 40 ∧ pl2[p]? = some (b, aI g len f)) (r : Int32) : Con g yX4_rowFinding cX4_rowFinding 2 (some .int) 1 21 0 0 [.ref a, .int r] w (Rs (some (.int (rfD (some (so, nr, rows)) r))) w) := by
  refine Con.ofI (by decide +kernel) (Nat.le_of_ble_eq_true rfl) (fun φ K0 hr => ?_)
  show X φ 0 0 w [(0, .ref a), (1, .int r)] 0 []
  refine X_aload_n K0 0 dX4_rowFinding_0 rfl rfl ?_
  refine X_ifnonnull K0 7 dX4_rowFinding_1 (by decide) ?_
  refine X_aload_n K0 0 dX4_rowFinding_7 rfl rfl ?_
  refine X_iload_n K0 1 dX4_rowFinding_8 rfl rfl ?_
  refine X_callV (As := [.int r]) (rest := []) K0 q (c_hasRow g w q q2 a so ra hw nr rf hw2 (by omega) r) mi_X2_hasRow rfl hw rfl ml_RX4_251 rfl (Nat.le_of_ble_eq_true rfl) (by decide) ⟨Nat.le_of_ble_eq_true rfl, Nat.le_of_ble_eq_true rfl⟩ rfl rfl dX4_rowFinding_9 ?_
  intro v w' hr'; obtain ⟨rfl, rfl⟩ := hr'
  show X φ 0 0 w [(0, .ref a), (1, .int r)] 12 [.int (bI (hrB nr r))]
  refine X_if_ne K0 18 dX4_rowFinding_12 (by decide) (fun h12 => ?_) (fun h12 => ?_)
  · obtain ⟨j, hj, rfl⟩ := hr_of (bI_n0.mp h12) hnr
    have hcl : (nI j).toNatClampNeg = j := nI_clamp (by omega)
    refine X_aload_n K0 0 dX4_rowFinding_18 rfl rfl ?_
    refine X_get K0 q hw rfl hin2 1 (by decide) fl_RX4_187 rfl dX4_rowFinding_19 ?_
    refine X_iload_n K0 1 dX4_rowFinding_22 rfl rfl ?_
    rcases hrw j hj with ⟨h1, h2⟩ | ⟨len, f, b, p3, h1, h2, -, -⟩
    · refine X_rald (v := .null) K0 q2 hw2 (by omega) (by omega) (by rw [h2]; rfl) dX4_rowFinding_23 ?_
      refine X_ifnonnullN K0 dX4_rowFinding_24 ?_
      refine X_bipush (v := (-11)) K0 dX4_rowFinding_27 (by decide) ?_
      refine X_goto K0 33 dX4_rowFinding_29 (by decide) ?_
      exact hr _ _ _ _ ⟨by simp only [rfD, bI_n0.mp h12, hcl, h1]; rfl, rfl⟩ dX4_rowFinding_33
    · refine X_rald (v := .ref b) K0 q2 hw2 (by omega) (by omega) (by rw [h2]; rfl) dX4_rowFinding_23 ?_
      refine X_ifnonnull K0 32 dX4_rowFinding_24 (by decide) ?_
      refine X_iconst (v := 0) K0 dX4_rowFinding_32 (by decide) ?_
      exact hr _ _ _ _ ⟨by simp only [rfD, bI_n0.mp h12, hcl, h1]; rfl, rfl⟩ dX4_rowFinding_33
  · refine X_bipush (v := (-12)) K0 dX4_rowFinding_15 (by decide) ?_
    exact hr _ _ _ _ ⟨by simp only [rfD, bI_0.mp h12]; rfl, rfl⟩ dX4_rowFinding_17
