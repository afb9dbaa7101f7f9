set_option maxRecDepth 20000 in
set_option maxHeartbeats 400000 in
theorem c_newRowFinding (g : Gx) (o pl th pg ga sh : Nat) (c1 c2 c3 c4 c5 c6 c7 c8 c9 c10 c12 c13 c14 c15 c16 c17 c18 c19 c20 c21 c22 c23 c24 : Nat × va_E) (asked : Int64) (fi : Int32) (shf : Nat → Option Nat) (pool : va_W) (abs : Nat → SH) (hPO : PO g pool shf abs) (x r n : Int32) : Con g yX4_newRowFinding cX4_newRowFinding 4 (some .int) 2 42 0 0 [.ref o, .int x, .int r, .int n] ((o, oMain pl th pg ga sh asked fi) :: c1 :: c2 :: c3 :: c4 :: c5 :: c6 :: c7 :: c8 :: c9 :: c10 :: (sh, aS g 3 shf) :: c12 :: c13 :: c14 :: c15 :: c16 :: c17 :: c18 :: c19 :: c20 :: c21 :: c22 :: c23 :: c24 :: pool) (Rs (some (.int (rwD abs x r n))) ((o, oMain pl th pg ga sh asked fi) :: c1 :: c2 :: c3 :: c4 :: c5 :: c6 :: c7 :: c8 :: c9 :: c10 :: (sh, aS g 3 shf) :: c12 :: c13 :: c14 :: c15 :: c16 :: c17 :: c18 :: c19 :: c20 :: c21 :: c22 :: c23 :: c24 :: pool)) := by
  refine Con.ofI (by decide +kernel) (Nat.le_of_ble_eq_true rfl) (fun φ K0 hr => ?_)
  show X φ 0 0 ((o, oMain pl th pg ga sh asked fi) :: c1 :: c2 :: c3 :: c4 :: c5 :: c6 :: c7 :: c8 :: c9 :: c10 :: (sh, aS g 3 shf) :: c12 :: c13 :: c14 :: c15 :: c16 :: c17 :: c18 :: c19 :: c20 :: c21 :: c22 :: c23 :: c24 :: pool) [(0, .ref o), (1, .int x), (2, .int r), (3, .int n)] 0 []
  refine X_iload_n K0 1 dX4_newRowFinding_0 rfl rfl ?_
  refine X_callS (As := [.int x]) (rest := []) K0 (c_isSheet g ((o, oMain pl th pg ga sh asked fi) :: c1 :: c2 :: c3 :: c4 :: c5 :: c6 :: c7 :: c8 :: c9 :: c10 :: (sh, aS g 3 shf) :: c12 :: c13 :: c14 :: c15 :: c16 :: c17 :: c18 :: c19 :: c20 :: c21 :: c22 :: c23 :: c24 :: pool) x) ms_X4_isSheet rfl ml_RX4_204 rfl (Nat.le_of_ble_eq_true rfl) (by decide) ⟨Nat.le_of_ble_eq_true rfl, Nat.le_of_ble_eq_true rfl⟩ rfl rfl dX4_newRowFinding_1 ?_
  intro v w' hr'; obtain ⟨rfl, rfl⟩ := hr'
  show X φ 0 0 ((o, oMain pl th pg ga sh asked fi) :: c1 :: c2 :: c3 :: c4 :: c5 :: c6 :: c7 :: c8 :: c9 :: c10 :: (sh, aS g 3 shf) :: c12 :: c13 :: c14 :: c15 :: c16 :: c17 :: c18 :: c19 :: c20 :: c21 :: c22 :: c23 :: c24 :: pool) [(0, .ref o), (1, .int x), (2, .int r), (3, .int n)] 4 [.int (bI (wiB x 0 2))]
  refine X_if_eq K0 13 dX4_newRowFinding_4 (by decide) (fun h4 => ?_) (fun h4 => ?_)
  · refine X_iconst (v := (-1)) K0 dX4_newRowFinding_13 (by decide) ?_
    exact hr _ _ _ _ ⟨by first | (rw [rwD, if_neg (fun q => h10 q.2)]) | (rw [rwD, if_neg (fun q => absurd q.1 (by rw [bI_0.mp h4]; decide))]), rfl⟩ dX4_newRowFinding_14
  · refine X_iload_n K0 3 dX4_newRowFinding_7 rfl rfl ?_
    refine X_bipush (v := 40) K0 dX4_newRowFinding_8 (by decide) ?_
    refine X_icmp_le K0 15 dX4_newRowFinding_10 (by decide) (fun h10 => ?_) (fun h10 => ?_)
    · obtain ⟨j, hj_j, rfl⟩ := wi_3 (bI_n0.mp h4)
      have hcl_j : (nI j).toNatClampNeg = j := nI_clamp (by omega)
      refine X_aload_n K0 0 dX4_newRowFinding_15 rfl rfl ?_
      refine X_get K0 0 rfl rfl hin4 4 (by decide) fl_RX4_37 rfl dX4_newRowFinding_16 ?_
      refine X_iload_n K0 1 dX4_newRowFinding_19 rfl rfl ?_
      rcases hs_j : shf j with _ | a_j
      · have hab_j := po_none hPO hj_j hs_j
        refine X_sald (v := .null) K0 11 rfl (by omega) (by decide) (by rw [hs_j]; rfl) dX4_newRowFinding_20 ?_
        refine X_ifnonnullN K0 dX4_newRowFinding_21 ?_
        refine X_bipush (v := (-11)) K0 dX4_newRowFinding_24 (by decide) ?_
        exact hr _ _ _ _ ⟨by rw [rwD, if_pos ⟨bI_n0.mp h4, h10⟩, hcl_j, hab_j]; rfl, rfl⟩ dX4_newRowFinding_26
      · obtain ⟨so_j, nr_j, rows_j, ra_j, rf_j, p1_j, p2_j, hab_j, hso_j, hnr_j, hp1_j, hp2_j, hrw_j⟩ := po_some hPO hj_j hs_j
        refine X_sald (v := .ref a_j) K0 11 rfl (by omega) (by decide) (by rw [hs_j]; rfl) dX4_newRowFinding_20 ?_
        refine X_ifnonnull K0 27 dX4_newRowFinding_21 (by decide) ?_
        refine X_aload_n K0 0 dX4_newRowFinding_27 rfl rfl ?_
        refine X_get K0 0 rfl rfl hin4 4 (by decide) fl_RX4_37 rfl dX4_newRowFinding_28 ?_
        refine X_iload_n K0 1 dX4_newRowFinding_31 rfl rfl ?_
        refine X_sald (v := .ref a_j) K0 11 rfl (by omega) (by decide) (by rw [hs_j]; rfl) dX4_newRowFinding_32 ?_
        refine X_iload_n K0 2 dX4_newRowFinding_33 rfl rfl ?_
        refine X_callV (As := [.int r]) (rest := []) K0 (p1_j + 25) (c_hasRow g ((o, oMain pl th pg ga sh asked fi) :: c1 :: c2 :: c3 :: c4 :: c5 :: c6 :: c7 :: c8 :: c9 :: c10 :: (sh, aS g 3 shf) :: c12 :: c13 :: c14 :: c15 :: c16 :: c17 :: c18 :: c19 :: c20 :: c21 :: c22 :: c23 :: c24 :: pool) (p1_j + 25) (p2_j + 25) a_j so_j ra_j (lk25 hp1_j) nr_j rf_j (lk25 hp2_j) (by omega) r) mi_X2_hasRow rfl (lk25 hp1_j) rfl ml_RX4_251 rfl (Nat.le_of_ble_eq_true rfl) (by decide) ⟨Nat.le_of_ble_eq_true rfl, Nat.le_of_ble_eq_true rfl⟩ rfl rfl dX4_newRowFinding_34 ?_
        intro v w' hr'; obtain ⟨rfl, rfl⟩ := hr'
        show X φ 0 0 ((o, oMain pl th pg ga sh asked fi) :: c1 :: c2 :: c3 :: c4 :: c5 :: c6 :: c7 :: c8 :: c9 :: c10 :: (sh, aS g 3 shf) :: c12 :: c13 :: c14 :: c15 :: c16 :: c17 :: c18 :: c19 :: c20 :: c21 :: c22 :: c23 :: c24 :: pool) [(0, .ref o), (1, .int (nI j)), (2, .int r), (3, .int n)] 37 [.int (bI (hrB nr_j r))]
        refine X_if_ne K0 43 dX4_newRowFinding_37 (by decide) (fun h37 => ?_) (fun h37 => ?_)
        · refine X_iload_n K0 3 dX4_newRowFinding_43 rfl rfl ?_
          refine X_if_ge K0 52 dX4_newRowFinding_44 (by decide) (fun h44 => ?_) (fun h44 => ?_)
          · refine X_iconst (v := 0) K0 dX4_newRowFinding_52 (by decide) ?_
            exact hr _ _ _ _ ⟨by rw [rwD, if_pos ⟨bI_n0.mp h4, h10⟩, hcl_j, hab_j]; simp only [rwD1, bI_n0.mp h37]; first | (rw [if_neg (by decide), if_neg (Int32.not_lt.mpr h44)]) | (rw [if_neg (by decide), if_pos (Int32.not_le.mp h44)]), rfl⟩ dX4_newRowFinding_53
          · refine X_bipush (v := (-15)) K0 dX4_newRowFinding_47 (by decide) ?_
            refine X_goto K0 53 dX4_newRowFinding_49 (by decide) ?_
            exact hr _ _ _ _ ⟨by rw [rwD, if_pos ⟨bI_n0.mp h4, h10⟩, hcl_j, hab_j]; simp only [rwD1, bI_n0.mp h37]; first | (rw [if_neg (by decide), if_neg (Int32.not_lt.mpr h44)]) | (rw [if_neg (by decide), if_pos (Int32.not_le.mp h44)]), rfl⟩ dX4_newRowFinding_53
        · refine X_bipush (v := (-12)) K0 dX4_newRowFinding_40 (by decide) ?_
          exact hr _ _ _ _ ⟨by rw [rwD, if_pos ⟨bI_n0.mp h4, h10⟩, hcl_j, hab_j]; simp only [rwD1, bI_0.mp h37]; rfl, rfl⟩ dX4_newRowFinding_42
    · refine X_iconst (v := (-1)) K0 dX4_newRowFinding_13 (by decide) ?_
      exact hr _ _ _ _ ⟨by first | (rw [rwD, if_neg (fun q => h10 q.2)]) | (rw [rwD, if_neg (fun q => absurd q.1 (by rw [bI_0.mp h4]; decide))]), rfl⟩ dX4_newRowFinding_14

set_option maxRecDepth 20000 in
set_option maxHeartbeats 400000 in
theorem c_putFinding (g : Gx) (o pl th pg ga sh : Nat) (c1 c2 c3 c4 c5 c6 c7 c8 c9 c10 c12 c13 c14 c15 c16 c17 c18 c19 c20 c21 c22 c23 c24 : Nat × va_E) (asked : Int64) (fi : Int32) (shf : Nat → Option Nat) (pool : va_W) (abs : Nat → SH) (hPO : PO g pool shf abs) (x so r i : Int32) : Con g yX4_putFinding cX4_putFinding 7 (some .int) 2 42 0 0 [.ref o, .int x, .int so, .int r, .int i] ((o, oMain pl th pg ga sh asked fi) :: c1 :: c2 :: c3 :: c4 :: c5 :: c6 :: c7 :: c8 :: c9 :: c10 :: (sh, aS g 3 shf) :: c12 :: c13 :: c14 :: c15 :: c16 :: c17 :: c18 :: c19 :: c20 :: c21 :: c22 :: c23 :: c24 :: pool) (Rs (some (.int (ptD abs x so r i))) ((o, oMain pl th pg ga sh asked fi) :: c1 :: c2 :: c3 :: c4 :: c5 :: c6 :: c7 :: c8 :: c9 :: c10 :: (sh, aS g 3 shf) :: c12 :: c13 :: c14 :: c15 :: c16 :: c17 :: c18 :: c19 :: c20 :: c21 :: c22 :: c23 :: c24 :: pool)) := by
  refine Con.ofI (by decide +kernel) (Nat.le_of_ble_eq_true rfl) (fun φ K0 hr => ?_)
  show X φ 0 0 ((o, oMain pl th pg ga sh asked fi) :: c1 :: c2 :: c3 :: c4 :: c5 :: c6 :: c7 :: c8 :: c9 :: c10 :: (sh, aS g 3 shf) :: c12 :: c13 :: c14 :: c15 :: c16 :: c17 :: c18 :: c19 :: c20 :: c21 :: c22 :: c23 :: c24 :: pool) [(0, .ref o), (1, .int x), (2, .int so), (3, .int r), (4, .int i)] 0 []
  refine X_iload_n K0 1 dX4_putFinding_0 rfl rfl ?_
  refine X_callS (As := [.int x]) (rest := []) K0 (c_isSheet g ((o, oMain pl th pg ga sh asked fi) :: c1 :: c2 :: c3 :: c4 :: c5 :: c6 :: c7 :: c8 :: c9 :: c10 :: (sh, aS g 3 shf) :: c12 :: c13 :: c14 :: c15 :: c16 :: c17 :: c18 :: c19 :: c20 :: c21 :: c22 :: c23 :: c24 :: pool) x) ms_X4_isSheet rfl ml_RX4_204 rfl (Nat.le_of_ble_eq_true rfl) (by decide) ⟨Nat.le_of_ble_eq_true rfl, Nat.le_of_ble_eq_true rfl⟩ rfl rfl dX4_putFinding_1 ?_
  intro v w' hr'; obtain ⟨rfl, rfl⟩ := hr'
  show X φ 0 0 ((o, oMain pl th pg ga sh asked fi) :: c1 :: c2 :: c3 :: c4 :: c5 :: c6 :: c7 :: c8 :: c9 :: c10 :: (sh, aS g 3 shf) :: c12 :: c13 :: c14 :: c15 :: c16 :: c17 :: c18 :: c19 :: c20 :: c21 :: c22 :: c23 :: c24 :: pool) [(0, .ref o), (1, .int x), (2, .int so), (3, .int r), (4, .int i)] 4 [.int (bI (wiB x 0 2))]
  refine X_if_eq K0 14 dX4_putFinding_4 (by decide) (fun h4 => ?_) (fun h4 => ?_)
  · refine X_iconst (v := (-1)) K0 dX4_putFinding_14 (by decide) ?_
    exact hr _ _ _ _ ⟨by first | (rw [ptD, if_neg (by rw [p_n (bI_0.mp h4)]; decide)]) | (rw [ptD, if_neg (by rw [p_yn (bI_n0.mp h4) (bI_0.mp h11)]; decide)]), rfl⟩ dX4_putFinding_15
  · refine X_iload_n K0 2 dX4_putFinding_7 rfl rfl ?_
    refine X_callS (As := [.int so]) (rest := []) K0 (c_isSort g ((o, oMain pl th pg ga sh asked fi) :: c1 :: c2 :: c3 :: c4 :: c5 :: c6 :: c7 :: c8 :: c9 :: c10 :: (sh, aS g 3 shf) :: c12 :: c13 :: c14 :: c15 :: c16 :: c17 :: c18 :: c19 :: c20 :: c21 :: c22 :: c23 :: c24 :: pool) so) ms_X4_isSort rfl ml_RX4_248 rfl (Nat.le_of_ble_eq_true rfl) (by decide) ⟨Nat.le_of_ble_eq_true rfl, Nat.le_of_ble_eq_true rfl⟩ rfl rfl dX4_putFinding_8 ?_
    intro v w' hr'; obtain ⟨rfl, rfl⟩ := hr'
    show X φ 0 0 ((o, oMain pl th pg ga sh asked fi) :: c1 :: c2 :: c3 :: c4 :: c5 :: c6 :: c7 :: c8 :: c9 :: c10 :: (sh, aS g 3 shf) :: c12 :: c13 :: c14 :: c15 :: c16 :: c17 :: c18 :: c19 :: c20 :: c21 :: c22 :: c23 :: c24 :: pool) [(0, .ref o), (1, .int x), (2, .int so), (3, .int r), (4, .int i)] 11 [.int (bI (soB so))]
    refine X_if_ne K0 16 dX4_putFinding_11 (by decide) (fun h11 => ?_) (fun h11 => ?_)
    · obtain ⟨j, hj_j, rfl⟩ := wi_3 (bI_n0.mp h4)
      have hcl_j : (nI j).toNatClampNeg = j := nI_clamp (by omega)
      refine X_aload_n K0 0 dX4_putFinding_16 rfl rfl ?_
      refine X_get K0 0 rfl rfl hin4 4 (by decide) fl_RX4_37 rfl dX4_putFinding_17 ?_
      refine X_iload_n K0 1 dX4_putFinding_20 rfl rfl ?_
      rcases hs_j : shf j with _ | a_j
      · have hab_j := po_none hPO hj_j hs_j
        refine X_sald (v := .null) K0 11 rfl (by omega) (by decide) (by rw [hs_j]; rfl) dX4_putFinding_21 ?_
        refine X_astoreN (L' := [(5, .null), (0, .ref o), (1, .int (nI j)), (2, .int so), (3, .int r), (4, .int i)]) K0 dX4_putFinding_22 (by decide) rfl ?_
        refine X_aloadN K0 0 dX4_putFinding_24 rfl ?_
        refine X_ifnullN K0 41 dX4_putFinding_26 (by decide) ?_
        refine X_aloadN K0 0 dX4_putFinding_41 rfl ?_
        refine X_iload_n K0 4 dX4_putFinding_43 rfl rfl ?_
        refine X_callS (As := [.null, .int r]) (rest := []) K0 (c_rowFindingN g ((o, oMain pl th pg ga sh asked fi) :: c1 :: c2 :: c3 :: c4 :: c5 :: c6 :: c7 :: c8 :: c9 :: c10 :: (sh, aS g 3 shf) :: c12 :: c13 :: c14 :: c15 :: c16 :: c17 :: c18 :: c19 :: c20 :: c21 :: c22 :: c23 :: c24 :: pool) r) ms_X4_rowFinding rfl ml_RX4_207 rfl (Nat.le_of_ble_eq_true rfl) (by decide) ⟨Nat.le_of_ble_eq_true rfl, Nat.le_of_ble_eq_true rfl⟩ rfl rfl dX4_putFinding_44 ?_
        intro v w' hr'; obtain ⟨rfl, rfl⟩ := hr'
        show X φ 0 0 ((o, oMain pl th pg ga sh asked fi) :: c1 :: c2 :: c3 :: c4 :: c5 :: c6 :: c7 :: c8 :: c9 :: c10 :: (sh, aS g 3 shf) :: c12 :: c13 :: c14 :: c15 :: c16 :: c17 :: c18 :: c19 :: c20 :: c21 :: c22 :: c23 :: c24 :: pool) [(5, .null), (0, .ref o), (1, .int (nI j)), (2, .int so), (3, .int r), (4, .int i)] 47 [.int (-11)]
        refine X_istore (L' := [(6, .int (-11)), (5, .null), (0, .ref o), (1, .int (nI j)), (2, .int so), (3, .int r), (4, .int i)]) K0 dX4_putFinding_47 (by decide) rfl ?_
        refine X_iload K0 0 dX4_putFinding_49 rfl ?_
        refine X_if_eq K0 57 dX4_putFinding_51 (by decide) (fun h51 => ?_) (fun h51 => ?_)
        · exact absurd h51 (by decide)
        · refine X_iload K0 0 dX4_putFinding_54 rfl ?_
          exact hr _ _ _ _ ⟨by rw [ptD, if_pos (p_yy (bI_n0.mp h4) (bI_n0.mp h11)), hcl_j, hab_j]; first | rfl | (rw [ptD1, if_pos h35]; exact congrArg (fun z => some (Value.int z)) (rf_pt h51)), rfl⟩ dX4_putFinding_56
      · obtain ⟨so_j, nr_j, rows_j, ra_j, rf_j, p1_j, p2_j, hab_j, hso_j, hnr_j, hp1_j, hp2_j, hrw_j⟩ := po_some hPO hj_j hs_j
        refine X_sald (v := .ref a_j) K0 11 rfl (by omega) (by decide) (by rw [hs_j]; rfl) dX4_putFinding_21 ?_
        refine X_astore (L' := [(5, .ref a_j), (0, .ref o), (1, .int (nI j)), (2, .int so), (3, .int r), (4, .int i)]) K0 dX4_putFinding_22 (by decide) rfl ?_
        refine X_aload K0 0 dX4_putFinding_24 rfl ?_
        refine X_ifnull K0 dX4_putFinding_26 ?_
        refine X_aload K0 0 dX4_putFinding_29 rfl ?_
        refine X_get K0 (p1_j + 25) (lk25 hp1_j) rfl hin2 0 (by decide) fl_RX4_254 rfl dX4_putFinding_31 ?_
        refine X_iload_n K0 3 dX4_putFinding_34 rfl rfl ?_
        refine X_icmp_eq K0 41 dX4_putFinding_35 (by decide) (fun h35 => ?_) (fun h35 => ?_)
        · refine X_aload K0 0 dX4_putFinding_41 rfl ?_
          refine X_iload_n K0 4 dX4_putFinding_43 rfl rfl ?_
          refine X_callS (As := [.ref a_j, .int r]) (rest := []) K0 (c_rowFinding g ((o, oMain pl th pg ga sh asked fi) :: c1 :: c2 :: c3 :: c4 :: c5 :: c6 :: c7 :: c8 :: c9 :: c10 :: (sh, aS g 3 shf) :: c12 :: c13 :: c14 :: c15 :: c16 :: c17 :: c18 :: c19 :: c20 :: c21 :: c22 :: c23 :: c24 :: pool) (p1_j + 25) (p2_j + 25) a_j so_j ra_j (lk25 hp1_j) nr_j rf_j (lk25 hp2_j) (by omega) rows_j hrw_j r) ms_X4_rowFinding rfl ml_RX4_207 rfl (Nat.le_of_ble_eq_true rfl) (by decide) ⟨Nat.le_of_ble_eq_true rfl, Nat.le_of_ble_eq_true rfl⟩ rfl rfl dX4_putFinding_44 ?_
          intro v w' hr'; obtain ⟨rfl, rfl⟩ := hr'
          show X φ 0 0 ((o, oMain pl th pg ga sh asked fi) :: c1 :: c2 :: c3 :: c4 :: c5 :: c6 :: c7 :: c8 :: c9 :: c10 :: (sh, aS g 3 shf) :: c12 :: c13 :: c14 :: c15 :: c16 :: c17 :: c18 :: c19 :: c20 :: c21 :: c22 :: c23 :: c24 :: pool) [(5, .ref a_j), (0, .ref o), (1, .int (nI j)), (2, .int so), (3, .int r), (4, .int i)] 47 [.int (rfD (some (so_j, nr_j, rows_j)) r)]
          refine X_istore (L' := [(6, .int (rfD (some (so_j, nr_j, rows_j)) r)), (5, .ref a_j), (0, .ref o), (1, .int (nI j)), (2, .int so), (3, .int r), (4, .int i)]) K0 dX4_putFinding_47 (by decide) rfl ?_
          refine X_iload K0 0 dX4_putFinding_49 rfl ?_
          refine X_if_eq K0 57 dX4_putFinding_51 (by decide) (fun h51 => ?_) (fun h51 => ?_)
          · refine X.sub [1, 2, 3, 4, 5, 6] (L' := [(5, .ref a_j), (0, .ref o), (1, .int (nI j)), (2, .int so), (3, .int r), (4, .int i)]) rfl ?_
            have hz : rfD (some (so_j, nr_j, rows_j)) r = 0 := h51
            obtain ⟨jr, hjr, rfl, hrs⟩ := rf_of hz hnr_j
            have hcl_r : (nI jr).toNatClampNeg = jr := nI_clamp (by omega)
            rcases hrw_j jr hjr with ⟨h1, h2⟩ | ⟨len_r, f_r, b_r, p_r, hrn_r, hrf_r, hlen_r, hp_r⟩
            · rw [h1] at hrs; exact absurd rfl hrs
            refine X_aload K0 0 dX4_putFinding_57 rfl ?_
            refine X_iload_n K0 4 dX4_putFinding_59 rfl rfl ?_
            refine X_iload K0 5 dX4_putFinding_60 rfl ?_
            refine X_iconst (v := 1) K0 dX4_putFinding_62 (by decide) ?_
            refine X_callV (As := [.int (nI jr), .int i, .int 1]) (rest := []) K0 (p1_j + 25) (c_holds g ((o, oMain pl th pg ga sh asked fi) :: c1 :: c2 :: c3 :: c4 :: c5 :: c6 :: c7 :: c8 :: c9 :: c10 :: (sh, aS g 3 shf) :: c12 :: c13 :: c14 :: c15 :: c16 :: c17 :: c18 :: c19 :: c20 :: c21 :: c22 :: c23 :: c24 :: pool) (p1_j + 25) (p2_j + 25) (p_r + 25) a_j so_j ra_j (lk25 hp1_j) nr_j rf_j (lk25 hp2_j) (by omega) b_r len_r f_r (lk25 hp_r) jr (by omega) hrf_r i 1) mi_X2_holds rfl (lk25 hp1_j) rfl ml_RX4_257 rfl (Nat.le_of_ble_eq_true rfl) (by decide) ⟨Nat.le_of_ble_eq_true rfl, Nat.le_of_ble_eq_true rfl⟩ rfl rfl dX4_putFinding_63 ?_
            intro v w' hr'; obtain ⟨rfl, rfl⟩ := hr'
            show X φ 0 0 ((o, oMain pl th pg ga sh asked fi) :: c1 :: c2 :: c3 :: c4 :: c5 :: c6 :: c7 :: c8 :: c9 :: c10 :: (sh, aS g 3 shf) :: c12 :: c13 :: c14 :: c15 :: c16 :: c17 :: c18 :: c19 :: c20 :: c21 :: c22 :: c23 :: c24 :: pool) [(5, .ref a_j), (0, .ref o), (1, .int (nI j)), (2, .int so), (3, .int (nI jr)), (4, .int i)] 66 [.int (bI (hoB len_r i 1))]
            refine X_if_eq K0 73 dX4_putFinding_66 (by decide) (fun h66 => ?_) (fun h66 => ?_)
            · refine X_bipush (v := (-12)) K0 dX4_putFinding_73 (by decide) ?_
              exact hr _ _ _ _ ⟨by rw [ptD, if_pos (p_yy (bI_n0.mp h4) (bI_n0.mp h11)), hcl_j, hab_j, ← h35, pt_ok hjr hnr_j hrn_r]; first | rw [ite_b1 h66] | rw [ite_b0 h66], rfl⟩ dX4_putFinding_75
            · refine X_iconst (v := 0) K0 dX4_putFinding_69 (by decide) ?_
              refine X_goto K0 75 dX4_putFinding_70 (by decide) ?_
              exact hr _ _ _ _ ⟨by rw [ptD, if_pos (p_yy (bI_n0.mp h4) (bI_n0.mp h11)), hcl_j, hab_j, ← h35, pt_ok hjr hnr_j hrn_r]; first | rw [ite_b1 h66] | rw [ite_b0 h66], rfl⟩ dX4_putFinding_75
          · refine X_iload K0 0 dX4_putFinding_54 rfl ?_
            exact hr _ _ _ _ ⟨by rw [ptD, if_pos (p_yy (bI_n0.mp h4) (bI_n0.mp h11)), hcl_j, hab_j]; first | rfl | (rw [ptD1, if_pos h35]; exact congrArg (fun z => some (Value.int z)) (rf_pt h51)), rfl⟩ dX4_putFinding_56
        · refine X_bipush (v := (-13)) K0 dX4_putFinding_38 (by decide) ?_
          exact hr _ _ _ _ ⟨by rw [ptD, if_pos (p_yy (bI_n0.mp h4) (bI_n0.mp h11)), hcl_j, hab_j]; rw [ptD1, if_neg h35], rfl⟩ dX4_putFinding_40
    · refine X_iconst (v := (-1)) K0 dX4_putFinding_14 (by decide) ?_
      exact hr _ _ _ _ ⟨by first | (rw [ptD, if_neg (by rw [p_n (bI_0.mp h4)]; decide)]) | (rw [ptD, if_neg (by rw [p_yn (bI_n0.mp h4) (bI_0.mp h11)]; decide)]), rfl⟩ dX4_putFinding_15

set_option maxRecDepth 20000 in
set_option maxHeartbeats 400000 in
theorem c_copyFinding (g : Gx) (o pl th pg ga sh : Nat) (c1 c2 c3 c4 c5 c6 c7 c8 c9 c10 c12 c13 c14 c15 c16 c17 c18 c19 c20 c21 c22 c23 c24 : Nat × va_E) (asked : Int64) (fi : Int32) (shf : Nat → Option Nat) (pool : va_W) (abs : Nat → SH) (hPO : PO g pool shf abs) (x r i o2 s j2 n : Int32) : Con g yX4_copyFinding cX4_copyFinding 10 (some .int) 2 42 0 0 [.ref o, .int x, .int r, .int i, .int o2, .int s, .int j2, .int n] ((o, oMain pl th pg ga sh asked fi) :: c1 :: c2 :: c3 :: c4 :: c5 :: c6 :: c7 :: c8 :: c9 :: c10 :: (sh, aS g 3 shf) :: c12 :: c13 :: c14 :: c15 :: c16 :: c17 :: c18 :: c19 :: c20 :: c21 :: c22 :: c23 :: c24 :: pool) (Rs (some (.int (cpD abs x r i o2 s j2 n))) ((o, oMain pl th pg ga sh asked fi) :: c1 :: c2 :: c3 :: c4 :: c5 :: c6 :: c7 :: c8 :: c9 :: c10 :: (sh, aS g 3 shf) :: c12 :: c13 :: c14 :: c15 :: c16 :: c17 :: c18 :: c19 :: c20 :: c21 :: c22 :: c23 :: c24 :: pool)) := by
  refine Con.ofI (by decide +kernel) (Nat.le_of_ble_eq_true rfl) (fun φ K0 hr => ?_)
  show X φ 0 0 ((o, oMain pl th pg ga sh asked fi) :: c1 :: c2 :: c3 :: c4 :: c5 :: c6 :: c7 :: c8 :: c9 :: c10 :: (sh, aS g 3 shf) :: c12 :: c13 :: c14 :: c15 :: c16 :: c17 :: c18 :: c19 :: c20 :: c21 :: c22 :: c23 :: c24 :: pool) [(0, .ref o), (1, .int x), (2, .int r), (3, .int i), (4, .int o2), (5, .int s), (6, .int j2), (7, .int n)] 0 []
  refine X_iload_n K0 1 dX4_copyFinding_0 rfl rfl ?_
  refine X_callS (As := [.int x]) (rest := []) K0 (c_isSheet g ((o, oMain pl th pg ga sh asked fi) :: c1 :: c2 :: c3 :: c4 :: c5 :: c6 :: c7 :: c8 :: c9 :: c10 :: (sh, aS g 3 shf) :: c12 :: c13 :: c14 :: c15 :: c16 :: c17 :: c18 :: c19 :: c20 :: c21 :: c22 :: c23 :: c24 :: pool) x) ms_X4_isSheet rfl ml_RX4_204 rfl (Nat.le_of_ble_eq_true rfl) (by decide) ⟨Nat.le_of_ble_eq_true rfl, Nat.le_of_ble_eq_true rfl⟩ rfl rfl dX4_copyFinding_1 ?_
  intro v w' hr'; obtain ⟨rfl, rfl⟩ := hr'
  show X φ 0 0 ((o, oMain pl th pg ga sh asked fi) :: c1 :: c2 :: c3 :: c4 :: c5 :: c6 :: c7 :: c8 :: c9 :: c10 :: (sh, aS g 3 shf) :: c12 :: c13 :: c14 :: c15 :: c16 :: c17 :: c18 :: c19 :: c20 :: c21 :: c22 :: c23 :: c24 :: pool) [(0, .ref o), (1, .int x), (2, .int r), (3, .int i), (4, .int o2), (5, .int s), (6, .int j2), (7, .int n)] 4 [.int (bI (wiB x 0 2))]
  refine X_if_eq K0 15 dX4_copyFinding_4 (by decide) (fun h4 => ?_) (fun h4 => ?_)
  · refine X_iconst (v := (-1)) K0 dX4_copyFinding_15 (by decide) ?_
    exact hr _ _ _ _ ⟨by first | (rw [cpD, if_neg (by rw [p_n (bI_0.mp h4)]; decide)]) | (rw [cpD, if_neg (by rw [p_yn (bI_n0.mp h4) (bI_0.mp h12)]; decide)]), rfl⟩ dX4_copyFinding_16
  · refine X_iload K0 4 dX4_copyFinding_7 rfl ?_
    refine X_callS (As := [.int o2]) (rest := []) K0 (c_isSheet g ((o, oMain pl th pg ga sh asked fi) :: c1 :: c2 :: c3 :: c4 :: c5 :: c6 :: c7 :: c8 :: c9 :: c10 :: (sh, aS g 3 shf) :: c12 :: c13 :: c14 :: c15 :: c16 :: c17 :: c18 :: c19 :: c20 :: c21 :: c22 :: c23 :: c24 :: pool) o2) ms_X4_isSheet rfl ml_RX4_204 rfl (Nat.le_of_ble_eq_true rfl) (by decide) ⟨Nat.le_of_ble_eq_true rfl, Nat.le_of_ble_eq_true rfl⟩ rfl rfl dX4_copyFinding_9 ?_
    intro v w' hr'; obtain ⟨rfl, rfl⟩ := hr'
    show X φ 0 0 ((o, oMain pl th pg ga sh asked fi) :: c1 :: c2 :: c3 :: c4 :: c5 :: c6 :: c7 :: c8 :: c9 :: c10 :: (sh, aS g 3 shf) :: c12 :: c13 :: c14 :: c15 :: c16 :: c17 :: c18 :: c19 :: c20 :: c21 :: c22 :: c23 :: c24 :: pool) [(0, .ref o), (1, .int x), (2, .int r), (3, .int i), (4, .int o2), (5, .int s), (6, .int j2), (7, .int n)] 12 [.int (bI (wiB o2 0 2))]
    refine X_if_ne K0 17 dX4_copyFinding_12 (by decide) (fun h12 => ?_) (fun h12 => ?_)
    · obtain ⟨j, hj_j, rfl⟩ := wi_3 (bI_n0.mp h4)
      have hcl_j : (nI j).toNatClampNeg = j := nI_clamp (by omega)
      obtain ⟨k, hj_k, rfl⟩ := wi_3 (bI_n0.mp h12)
      have hcl_k : (nI k).toNatClampNeg = k := nI_clamp (by omega)
      refine X_aload_n K0 0 dX4_copyFinding_17 rfl rfl ?_
      refine X_get K0 0 rfl rfl hin4 4 (by decide) fl_RX4_37 rfl dX4_copyFinding_18 ?_
      refine X_iload_n K0 1 dX4_copyFinding_21 rfl rfl ?_
      rcases hs_j : shf j with _ | a_j
      · have hab_j := po_none hPO hj_j hs_j
        refine X_sald (v := .null) K0 11 rfl (by omega) (by decide) (by rw [hs_j]; rfl) dX4_copyFinding_22 ?_
        refine X_astoreN (L' := [(8, .null), (0, .ref o), (1, .int (nI j)), (2, .int r), (3, .int i), (4, .int (nI k)), (5, .int s), (6, .int j2), (7, .int n)]) K0 dX4_copyFinding_23 (by decide) rfl ?_
        refine X_aload_n K0 1 dX4_copyFinding_25 rfl rfl ?_
        refine X_get K0 0 rfl rfl hin4 4 (by decide) fl_RX4_37 rfl dX4_copyFinding_26 ?_
        refine X_iload K0 5 dX4_copyFinding_29 rfl ?_
        rcases hs_k : shf k with _ | a_k
        · have hab_k := po_none hPO hj_k hs_k
          refine X_sald (v := .null) K0 11 rfl (by omega) (by decide) (by rw [hs_k]; rfl) dX4_copyFinding_31 ?_
          refine X_astoreN (L' := [(9, .null), (8, .null), (0, .ref o), (1, .int (nI j)), (2, .int r), (3, .int i), (4, .int (nI k)), (5, .int s), (6, .int j2), (7, .int n)]) K0 dX4_copyFinding_32 (by decide) rfl ?_
          refine X_aloadN K0 1 dX4_copyFinding_34 rfl ?_
          refine X_ifnullN K0 44 dX4_copyFinding_36 (by decide) ?_
          refine X_bipush (v := (-11)) K0 dX4_copyFinding_44 (by decide) ?_
          exact hr _ _ _ _ ⟨by first | (rw [cpD, if_pos (p_yy (bI_n0.mp h4) (bI_n0.mp h12)), hcl_j, hcl_k, hab_j]; rfl) | (rw [cpD, if_pos (p_yy (bI_n0.mp h4) (bI_n0.mp h12)), hcl_j, hcl_k, hab_j, hab_k]; rfl), rfl⟩ dX4_copyFinding_46
        · obtain ⟨so_k, nr_k, rows_k, ra_k, rf_k, p1_k, p2_k, hab_k, hso_k, hnr_k, hp1_k, hp2_k, hrw_k⟩ := po_some hPO hj_k hs_k
          refine X_sald (v := .ref a_k) K0 11 rfl (by omega) (by decide) (by rw [hs_k]; rfl) dX4_copyFinding_31 ?_
          refine X_astore (L' := [(9, .ref a_k), (8, .null), (0, .ref o), (1, .int (nI j)), (2, .int r), (3, .int i), (4, .int (nI k)), (5, .int s), (6, .int j2), (7, .int n)]) K0 dX4_copyFinding_32 (by decide) rfl ?_
          refine X_aloadN K0 1 dX4_copyFinding_34 rfl ?_
          refine X_ifnullN K0 44 dX4_copyFinding_36 (by decide) ?_
          refine X_bipush (v := (-11)) K0 dX4_copyFinding_44 (by decide) ?_
          exact hr _ _ _ _ ⟨by first | (rw [cpD, if_pos (p_yy (bI_n0.mp h4) (bI_n0.mp h12)), hcl_j, hcl_k, hab_j]; rfl) | (rw [cpD, if_pos (p_yy (bI_n0.mp h4) (bI_n0.mp h12)), hcl_j, hcl_k, hab_j, hab_k]; rfl), rfl⟩ dX4_copyFinding_46
      · obtain ⟨so_j, nr_j, rows_j, ra_j, rf_j, p1_j, p2_j, hab_j, hso_j, hnr_j, hp1_j, hp2_j, hrw_j⟩ := po_some hPO hj_j hs_j
        refine X_sald (v := .ref a_j) K0 11 rfl (by omega) (by decide) (by rw [hs_j]; rfl) dX4_copyFinding_22 ?_
        refine X_astore (L' := [(8, .ref a_j), (0, .ref o), (1, .int (nI j)), (2, .int r), (3, .int i), (4, .int (nI k)), (5, .int s), (6, .int j2), (7, .int n)]) K0 dX4_copyFinding_23 (by decide) rfl ?_
        refine X_aload_n K0 1 dX4_copyFinding_25 rfl rfl ?_
        refine X_get K0 0 rfl rfl hin4 4 (by decide) fl_RX4_37 rfl dX4_copyFinding_26 ?_
        refine X_iload K0 5 dX4_copyFinding_29 rfl ?_
        rcases hs_k : shf k with _ | a_k
        · have hab_k := po_none hPO hj_k hs_k
          refine X_sald (v := .null) K0 11 rfl (by omega) (by decide) (by rw [hs_k]; rfl) dX4_copyFinding_31 ?_
          refine X_astoreN (L' := [(9, .null), (8, .ref a_j), (0, .ref o), (1, .int (nI j)), (2, .int r), (3, .int i), (4, .int (nI k)), (5, .int s), (6, .int j2), (7, .int n)]) K0 dX4_copyFinding_32 (by decide) rfl ?_
          refine X_aload K0 1 dX4_copyFinding_34 rfl ?_
          refine X_ifnull K0 dX4_copyFinding_36 ?_
          refine X_aloadN K0 0 dX4_copyFinding_39 rfl ?_
          refine X_ifnonnullN K0 dX4_copyFinding_41 ?_
          refine X_bipush (v := (-11)) K0 dX4_copyFinding_44 (by decide) ?_
          exact hr _ _ _ _ ⟨by first | (rw [cpD, if_pos (p_yy (bI_n0.mp h4) (bI_n0.mp h12)), hcl_j, hcl_k, hab_j]; rfl) | (rw [cpD, if_pos (p_yy (bI_n0.mp h4) (bI_n0.mp h12)), hcl_j, hcl_k, hab_j, hab_k]; rfl), rfl⟩ dX4_copyFinding_46
        · obtain ⟨so_k, nr_k, rows_k, ra_k, rf_k, p1_k, p2_k, hab_k, hso_k, hnr_k, hp1_k, hp2_k, hrw_k⟩ := po_some hPO hj_k hs_k
          refine X_sald (v := .ref a_k) K0 11 rfl (by omega) (by decide) (by rw [hs_k]; rfl) dX4_copyFinding_31 ?_
          refine X_astore (L' := [(9, .ref a_k), (8, .ref a_j), (0, .ref o), (1, .int (nI j)), (2, .int r), (3, .int i), (4, .int (nI k)), (5, .int s), (6, .int j2), (7, .int n)]) K0 dX4_copyFinding_32 (by decide) rfl ?_
          refine X_aload K0 1 dX4_copyFinding_34 rfl ?_
          refine X_ifnull K0 dX4_copyFinding_36 ?_
          refine X_aload K0 0 dX4_copyFinding_39 rfl ?_
          refine X_ifnonnull K0 47 dX4_copyFinding_41 (by decide) ?_
          refine X_aload K0 1 dX4_copyFinding_47 rfl ?_
          refine X_get K0 (p1_j + 25) (lk25 hp1_j) rfl hin2 0 (by decide) fl_RX4_254 rfl dX4_copyFinding_49 ?_
          refine X_aload K0 0 dX4_copyFinding_52 rfl ?_
          refine X_get K0 (p1_k + 25) (lk25 hp1_k) rfl hin2 0 (by decide) fl_RX4_254 rfl dX4_copyFinding_54 ?_
          refine X_icmp_eq K0 63 dX4_copyFinding_57 (by decide) (fun h57 => ?_) (fun h57 => ?_)
          · refine X_aload K0 1 dX4_copyFinding_63 rfl ?_
            refine X_iload_n K0 4 dX4_copyFinding_65 rfl rfl ?_
            refine X_callV (As := [.int r]) (rest := []) K0 (p1_j + 25) (c_hasRow g ((o, oMain pl th pg ga sh asked fi) :: c1 :: c2 :: c3 :: c4 :: c5 :: c6 :: c7 :: c8 :: c9 :: c10 :: (sh, aS g 3 shf) :: c12 :: c13 :: c14 :: c15 :: c16 :: c17 :: c18 :: c19 :: c20 :: c21 :: c22 :: c23 :: c24 :: pool) (p1_j + 25) (p2_j + 25) a_j so_j ra_j (lk25 hp1_j) nr_j rf_j (lk25 hp2_j) (by omega) r) mi_X2_hasRow rfl (lk25 hp1_j) rfl ml_RX4_251 rfl (Nat.le_of_ble_eq_true rfl) (by decide) ⟨Nat.le_of_ble_eq_true rfl, Nat.le_of_ble_eq_true rfl⟩ rfl rfl dX4_copyFinding_66 ?_
            intro v w' hr'; obtain ⟨rfl, rfl⟩ := hr'
            show X φ 0 0 ((o, oMain pl th pg ga sh asked fi) :: c1 :: c2 :: c3 :: c4 :: c5 :: c6 :: c7 :: c8 :: c9 :: c10 :: (sh, aS g 3 shf) :: c12 :: c13 :: c14 :: c15 :: c16 :: c17 :: c18 :: c19 :: c20 :: c21 :: c22 :: c23 :: c24 :: pool) [(9, .ref a_k), (8, .ref a_j), (0, .ref o), (1, .int (nI j)), (2, .int r), (3, .int i), (4, .int (nI k)), (5, .int s), (6, .int j2), (7, .int n)] 69 [.int (bI (hrB nr_j r))]
            refine X_if_eq K0 82 dX4_copyFinding_69 (by decide) (fun h69 => ?_) (fun h69 => ?_)
            · refine X_bipush (v := (-12)) K0 dX4_copyFinding_82 (by decide) ?_
              exact hr _ _ _ _ ⟨by rw [cpD, if_pos (p_yy (bI_n0.mp h4) (bI_n0.mp h12)), hcl_j, hcl_k, hab_j, hab_k]; first | rw [cp_r1 h57 h69] | rw [cp_r2 h57 h79], rfl⟩ dX4_copyFinding_84
            · refine X_aload K0 0 dX4_copyFinding_72 rfl ?_
              refine X_iload K0 7 dX4_copyFinding_74 rfl ?_
              refine X_callV (As := [.int s]) (rest := []) K0 (p1_k + 25) (c_hasRow g ((o, oMain pl th pg ga sh asked fi) :: c1 :: c2 :: c3 :: c4 :: c5 :: c6 :: c7 :: c8 :: c9 :: c10 :: (sh, aS g 3 shf) :: c12 :: c13 :: c14 :: c15 :: c16 :: c17 :: c18 :: c19 :: c20 :: c21 :: c22 :: c23 :: c24 :: pool) (p1_k + 25) (p2_k + 25) a_k so_k ra_k (lk25 hp1_k) nr_k rf_k (lk25 hp2_k) (by omega) s) mi_X2_hasRow rfl (lk25 hp1_k) rfl ml_RX4_251 rfl (Nat.le_of_ble_eq_true rfl) (by decide) ⟨Nat.le_of_ble_eq_true rfl, Nat.le_of_ble_eq_true rfl⟩ rfl rfl dX4_copyFinding_76 ?_
              intro v w' hr'; obtain ⟨rfl, rfl⟩ := hr'
              show X φ 0 0 ((o, oMain pl th pg ga sh asked fi) :: c1 :: c2 :: c3 :: c4 :: c5 :: c6 :: c7 :: c8 :: c9 :: c10 :: (sh, aS g 3 shf) :: c12 :: c13 :: c14 :: c15 :: c16 :: c17 :: c18 :: c19 :: c20 :: c21 :: c22 :: c23 :: c24 :: pool) [(9, .ref a_k), (8, .ref a_j), (0, .ref o), (1, .int (nI j)), (2, .int r), (3, .int i), (4, .int (nI k)), (5, .int s), (6, .int j2), (7, .int n)] 79 [.int (bI (hrB nr_k s))]
              refine X_if_ne K0 85 dX4_copyFinding_79 (by decide) (fun h79 => ?_) (fun h79 => ?_)
              · obtain ⟨jr, hjr_, rfl⟩ := hr_of (bI_n0.mp h69) hnr_j
                obtain ⟨js, hjs_, rfl⟩ := hr_of (bI_n0.mp h79) hnr_k
                refine X_aload K0 1 dX4_copyFinding_85 rfl ?_
                refine X_get K0 (p1_j + 25) (lk25 hp1_j) rfl hin2 1 (by decide) fl_RX4_187 rfl dX4_copyFinding_87 ?_
                refine X_iload_n K0 4 dX4_copyFinding_90 rfl rfl ?_
                rcases hrw_j jr (by omega) with ⟨hrn_j_jr, hrf_j_jr⟩ | ⟨len_j_jr, f_j_jr, b_j_jr, p3_j_jr, hrn_j_jr, hrf_j_jr, hlen_j_jr, hp3_j_jr⟩
                · refine X_rald (v := .null) K0 (p2_j + 25) (lk25 hp2_j) (by omega) (by omega) (by rw [hrf_j_jr]; rfl) dX4_copyFinding_91 ?_
                  refine X_ifnullN K0 106 dX4_copyFinding_92 (by decide) ?_
                  refine X_bipush (v := (-11)) K0 dX4_copyFinding_106 (by decide) ?_
                  exact hr _ _ _ _ ⟨by rw [cpD, if_pos (p_yy (bI_n0.mp h4) (bI_n0.mp h12)), hcl_j, hcl_k, hab_j, hab_k]; first | rw [cp_m1 h57 hjr_ hnr_j hjs_ hnr_k hrn_j_jr] | rw [cp_m2 h57 hjr_ hnr_j hjs_ hnr_k hrn_k_js], rfl⟩ dX4_copyFinding_108
                · refine X_rald (v := .ref b_j_jr) K0 (p2_j + 25) (lk25 hp2_j) (by omega) (by omega) (by rw [hrf_j_jr]; rfl) dX4_copyFinding_91 ?_
                  refine X_ifnull K0 dX4_copyFinding_92 ?_
                  refine X_aload K0 0 dX4_copyFinding_95 rfl ?_
                  refine X_get K0 (p1_k + 25) (lk25 hp1_k) rfl hin2 1 (by decide) fl_RX4_187 rfl dX4_copyFinding_97 ?_
                  refine X_iload K0 7 dX4_copyFinding_100 rfl ?_
                  rcases hrw_k js (by omega) with ⟨hrn_k_js, hrf_k_js⟩ | ⟨len_k_js, f_k_js, b_k_js, p3_k_js, hrn_k_js, hrf_k_js, hlen_k_js, hp3_k_js⟩
                  · refine X_rald (v := .null) K0 (p2_k + 25) (lk25 hp2_k) (by omega) (by omega) (by rw [hrf_k_js]; rfl) dX4_copyFinding_102 ?_
                    refine X_ifnonnullN K0 dX4_copyFinding_103 ?_
                    refine X_bipush (v := (-11)) K0 dX4_copyFinding_106 (by decide) ?_
                    exact hr _ _ _ _ ⟨by rw [cpD, if_pos (p_yy (bI_n0.mp h4) (bI_n0.mp h12)), hcl_j, hcl_k, hab_j, hab_k]; first | rw [cp_m1 h57 hjr_ hnr_j hjs_ hnr_k hrn_j_jr] | rw [cp_m2 h57 hjr_ hnr_j hjs_ hnr_k hrn_k_js], rfl⟩ dX4_copyFinding_108
                  · refine X_rald (v := .ref b_k_js) K0 (p2_k + 25) (lk25 hp2_k) (by omega) (by omega) (by rw [hrf_k_js]; rfl) dX4_copyFinding_102 ?_
                    refine X_ifnonnull K0 109 dX4_copyFinding_103 (by decide) ?_
                    refine X_aload K0 1 dX4_copyFinding_109 rfl ?_
                    refine X_iload_n K0 4 dX4_copyFinding_111 rfl rfl ?_
                    refine X_iload_n K0 5 dX4_copyFinding_112 rfl rfl ?_
                    refine X_iload K0 9 dX4_copyFinding_113 rfl ?_
                    refine X_callV (As := [.int (nI jr), .int i, .int n]) (rest := []) K0 (p1_j + 25) (c_holds g ((o, oMain pl th pg ga sh asked fi) :: c1 :: c2 :: c3 :: c4 :: c5 :: c6 :: c7 :: c8 :: c9 :: c10 :: (sh, aS g 3 shf) :: c12 :: c13 :: c14 :: c15 :: c16 :: c17 :: c18 :: c19 :: c20 :: c21 :: c22 :: c23 :: c24 :: pool) (p1_j + 25) (p2_j + 25) (p3_j_jr + 25) a_j so_j ra_j (lk25 hp1_j) nr_j rf_j (lk25 hp2_j) (by omega) b_j_jr len_j_jr f_j_jr (lk25 hp3_j_jr) jr (by omega) hrf_j_jr i n) mi_X2_holds rfl (lk25 hp1_j) rfl ml_RX4_257 rfl (Nat.le_of_ble_eq_true rfl) (by decide) ⟨Nat.le_of_ble_eq_true rfl, Nat.le_of_ble_eq_true rfl⟩ rfl rfl dX4_copyFinding_115 ?_
                    intro v w' hr'; obtain ⟨rfl, rfl⟩ := hr'
                    show X φ 0 0 ((o, oMain pl th pg ga sh asked fi) :: c1 :: c2 :: c3 :: c4 :: c5 :: c6 :: c7 :: c8 :: c9 :: c10 :: (sh, aS g 3 shf) :: c12 :: c13 :: c14 :: c15 :: c16 :: c17 :: c18 :: c19 :: c20 :: c21 :: c22 :: c23 :: c24 :: pool) [(9, .ref a_k), (8, .ref a_j), (0, .ref o), (1, .int (nI j)), (2, .int (nI jr)), (3, .int i), (4, .int (nI k)), (5, .int (nI js)), (6, .int j2), (7, .int n)] 118 [.int (bI (hoB len_j_jr i n))]
                    refine X_if_eq K0 139 dX4_copyFinding_118 (by decide) (fun h118 => ?_) (fun h118 => ?_)
                    · refine X_bipush (v := (-12)) K0 dX4_copyFinding_139 (by decide) ?_
                      exact hr _ _ _ _ ⟨by rw [cpD, if_pos (p_yy (bI_n0.mp h4) (bI_n0.mp h12)), hcl_j, hcl_k, hab_j, hab_k, cp_ok h57 hjr_ hnr_j hjs_ hnr_k hrn_j_jr hrn_k_js]; first | rw [cp_y h118 h132] | rw [cp_n1 h118] | rw [cp_n2 h132], rfl⟩ dX4_copyFinding_141
                    · refine X_aload K0 0 dX4_copyFinding_121 rfl ?_
                      refine X_iload K0 7 dX4_copyFinding_123 rfl ?_
                      refine X_iload K0 8 dX4_copyFinding_125 rfl ?_
                      refine X_iload K0 9 dX4_copyFinding_127 rfl ?_
                      refine X_callV (As := [.int (nI js), .int j2, .int n]) (rest := []) K0 (p1_k + 25) (c_holds g ((o, oMain pl th pg ga sh asked fi) :: c1 :: c2 :: c3 :: c4 :: c5 :: c6 :: c7 :: c8 :: c9 :: c10 :: (sh, aS g 3 shf) :: c12 :: c13 :: c14 :: c15 :: c16 :: c17 :: c18 :: c19 :: c20 :: c21 :: c22 :: c23 :: c24 :: pool) (p1_k + 25) (p2_k + 25) (p3_k_js + 25) a_k so_k ra_k (lk25 hp1_k) nr_k rf_k (lk25 hp2_k) (by omega) b_k_js len_k_js f_k_js (lk25 hp3_k_js) js (by omega) hrf_k_js j2 n) mi_X2_holds rfl (lk25 hp1_k) rfl ml_RX4_257 rfl (Nat.le_of_ble_eq_true rfl) (by decide) ⟨Nat.le_of_ble_eq_true rfl, Nat.le_of_ble_eq_true rfl⟩ rfl rfl dX4_copyFinding_129 ?_
                      intro v w' hr'; obtain ⟨rfl, rfl⟩ := hr'
                      show X φ 0 0 ((o, oMain pl th pg ga sh asked fi) :: c1 :: c2 :: c3 :: c4 :: c5 :: c6 :: c7 :: c8 :: c9 :: c10 :: (sh, aS g 3 shf) :: c12 :: c13 :: c14 :: c15 :: c16 :: c17 :: c18 :: c19 :: c20 :: c21 :: c22 :: c23 :: c24 :: pool) [(9, .ref a_k), (8, .ref a_j), (0, .ref o), (1, .int (nI j)), (2, .int (nI jr)), (3, .int i), (4, .int (nI k)), (5, .int (nI js)), (6, .int j2), (7, .int n)] 132 [.int (bI (hoB len_k_js j2 n))]
                      refine X_if_eq K0 139 dX4_copyFinding_132 (by decide) (fun h132 => ?_) (fun h132 => ?_)
                      · refine X_bipush (v := (-12)) K0 dX4_copyFinding_139 (by decide) ?_
                        exact hr _ _ _ _ ⟨by rw [cpD, if_pos (p_yy (bI_n0.mp h4) (bI_n0.mp h12)), hcl_j, hcl_k, hab_j, hab_k, cp_ok h57 hjr_ hnr_j hjs_ hnr_k hrn_j_jr hrn_k_js]; first | rw [cp_y h118 h132] | rw [cp_n1 h118] | rw [cp_n2 h132], rfl⟩ dX4_copyFinding_141
                      · refine X_iconst (v := 0) K0 dX4_copyFinding_135 (by decide) ?_
                        refine X_goto K0 141 dX4_copyFinding_136 (by decide) ?_
                        exact hr _ _ _ _ ⟨by rw [cpD, if_pos (p_yy (bI_n0.mp h4) (bI_n0.mp h12)), hcl_j, hcl_k, hab_j, hab_k, cp_ok h57 hjr_ hnr_j hjs_ hnr_k hrn_j_jr hrn_k_js]; first | rw [cp_y h118 h132] | rw [cp_n1 h118] | rw [cp_n2 h132], rfl⟩ dX4_copyFinding_141
              · refine X_bipush (v := (-12)) K0 dX4_copyFinding_82 (by decide) ?_
                exact hr _ _ _ _ ⟨by rw [cpD, if_pos (p_yy (bI_n0.mp h4) (bI_n0.mp h12)), hcl_j, hcl_k, hab_j, hab_k]; first | rw [cp_r1 h57 h69] | rw [cp_r2 h57 h79], rfl⟩ dX4_copyFinding_84
          · refine X_bipush (v := (-13)) K0 dX4_copyFinding_60 (by decide) ?_
            exact hr _ _ _ _ ⟨by rw [cpD, if_pos (p_yy (bI_n0.mp h4) (bI_n0.mp h12)), hcl_j, hcl_k, hab_j, hab_k, cp_c h57], rfl⟩ dX4_copyFinding_62
    · refine X_iconst (v := (-1)) K0 dX4_copyFinding_15 (by decide) ?_
      exact hr _ _ _ _ ⟨by first | (rw [cpD, if_neg (by rw [p_n (bI_0.mp h4)]; decide)]) | (rw [cpD, if_neg (by rw [p_yn (bI_n0.mp h4) (bI_0.mp h12)]; decide)]), rfl⟩ dX4_copyFinding_16
