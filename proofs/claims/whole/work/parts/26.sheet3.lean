set_option maxRecDepth 20000 in
set_option maxHeartbeats 400000 in
theorem c_Sheet_init (g : Gx) (w : va_W) (q a : Nat) (s0 : Int32) (hw : w[q]? = some (a, .inr (2, [.int s0, .null]))) (so : Int32) (ra : Nat) : Con g yX2_init cX2_init 3 none 1 20 0 0 [.ref a, .int so, .ref ra] w (Rs none (w.set q (a, oSheet so ra))) := by
  refine Con.ofV (by decide +kernel) (Nat.le_of_ble_eq_true rfl) (fun φ K0 hr => ?_)
  show X φ 0 0 w [(0, .ref a), (1, .int so), (2, .ref ra)] 0 []
  refine X_aload_n K0 0 dX2_init_0 rfl rfl ?_
  refine X_objInit K0 ml_RX2_1 (by decide) (Nat.le_of_ble_eq_true rfl) im_objectInit co_objectInit dX2_init_1 ?_
  refine X_aload_n K0 0 dX2_init_4 rfl rfl ?_
  refine X_iload_n K0 1 dX2_init_5 rfl rfl ?_
  refine X_putF (w' := (w.set q (a, .inr (2, [.int so, .null])))) K0 q hw rfl hin2 tyX2 tyX2_ok nmX2 0 (by decide) fl_RX2_7 rfl rfl rfl (tyX2_ok 0 (by decide)) rfl rfl (Nat.le_of_ble_eq_true rfl) dX2_init_6 rfl ?_
  refine X_aload_n K0 0 dX2_init_9 rfl rfl ?_
  refine X_aload_n K0 2 dX2_init_10 rfl rfl ?_
  refine X_putF (w' := (w.set q (a, oSheet so ra))) K0 q (lw_self _ hw) rfl hin2 tyX2 tyX2_ok nmX2 1 (by decide) fl_RX2_13 rfl rfl rfl (tyX2_ok 1 (by decide)) rfl rfl (Nat.le_of_ble_eq_true rfl) dX2_init_11 (List.set_set ..) ?_
  exact hr _ _ _ ⟨rfl, rfl⟩ dX2_init_14

set_option maxRecDepth 20000 in
set_option maxHeartbeats 400000 in
theorem c_put (g : Gx) (o pl th pg ga sh : Nat) (c1 c2 c3 c4 c5 c6 c7 c8 c9 c10 c12 c13 c14 c15 c16 c17 c18 c19 c20 c21 c22 c23 c24 : Nat × va_E) (asked : Int64) (fi : Int32) (shf : Nat → Option Nat) (pool : va_W) (abs : Nat → SH) (hPO : PO g pool shf abs) (x so r i v : Int32) : Con g yX4_put cX4_put 6 (some .int) 3 68 0 0 [.ref o, .int x, .int so, .int r, .int i, .int v] ((o, oMain pl th pg ga sh asked fi) :: c1 :: c2 :: c3 :: c4 :: c5 :: c6 :: c7 :: c8 :: c9 :: c10 :: (sh, aS g 3 shf) :: c12 :: c13 :: c14 :: c15 :: c16 :: c17 :: c18 :: c19 :: c20 :: c21 :: c22 :: c23 :: c24 :: pool) (fun v' w' => (¬ (ptD abs x so r i) = 0 ∧ v' = some (.int (ptD abs x so r i)) ∧ ((o, oMain pl th pg ga sh asked (ptD abs x so r i)) :: c1 :: c2 :: c3 :: c4 :: c5 :: c6 :: c7 :: c8 :: c9 :: c10 :: (sh, aS g 3 shf) :: c12 :: c13 :: c14 :: c15 :: c16 :: c17 :: c18 :: c19 :: c20 :: c21 :: c22 :: c23 :: c24 :: pool) = w') ∨ ((ptD abs x so r i) = 0 ∧ v' = some (.int 1) ∧ ∃ (j jr i' nr : Nat) (rows : Nat → RW) (len : Nat) (f : Nat → Int32) (pool' : va_W), j < 3 ∧ x = nI j ∧ abs j = some (so, nr, rows) ∧ jr < nr ∧ r = nI jr ∧ rows jr = some (len, f) ∧ i' < len ∧ i = nI i' ∧ PO g pool' shf (upA abs j (some (so, nr, upA rows jr (some (len, upd f i' (if so = 0 then v.toInt8.toInt32 else v)))))) ∧ ((o, oMain pl th pg ga sh asked 0) :: c1 :: c2 :: c3 :: c4 :: c5 :: c6 :: c7 :: c8 :: c9 :: c10 :: (sh, aS g 3 shf) :: c12 :: c13 :: c14 :: c15 :: c16 :: c17 :: c18 :: c19 :: c20 :: c21 :: c22 :: c23 :: c24 :: pool') = w')) := by
  refine Con.ofI (by decide +kernel) (Nat.le_of_ble_eq_true rfl) (fun φ K0 hr => ?_)
  show X φ 0 0 ((o, oMain pl th pg ga sh asked fi) :: c1 :: c2 :: c3 :: c4 :: c5 :: c6 :: c7 :: c8 :: c9 :: c10 :: (sh, aS g 3 shf) :: c12 :: c13 :: c14 :: c15 :: c16 :: c17 :: c18 :: c19 :: c20 :: c21 :: c22 :: c23 :: c24 :: pool) [(0, .ref o), (1, .int x), (2, .int so), (3, .int r), (4, .int i), (5, .int v)] 0 []
  refine X_aload_n K0 0 dX4_put_0 rfl rfl ?_
  refine X_aload_n K0 0 dX4_put_1 rfl rfl ?_
  refine X_iload_n K0 1 dX4_put_2 rfl rfl ?_
  refine X_iload_n K0 2 dX4_put_3 rfl rfl ?_
  refine X_iload_n K0 3 dX4_put_4 rfl rfl ?_
  refine X_iload K0 4 dX4_put_5 rfl ?_
  refine X_callV (As := [.int x, .int so, .int r, .int i]) (rest := [.ref o]) K0 0 (c_putFinding g o pl th pg ga sh c1 c2 c3 c4 c5 c6 c7 c8 c9 c10 c12 c13 c14 c15 c16 c17 c18 c19 c20 c21 c22 c23 c24 asked fi shf pool abs hPO x so r i) mi_X4_putFinding rfl rfl rfl ml_RX4_190 rfl (Nat.le_of_ble_eq_true rfl) (by decide) ⟨Nat.le_of_ble_eq_true rfl, Nat.le_of_ble_eq_true rfl⟩ rfl rfl dX4_put_7 ?_
  intro v w' hr'; obtain ⟨rfl, rfl⟩ := hr'
  show X φ 0 0 ((o, oMain pl th pg ga sh asked fi) :: c1 :: c2 :: c3 :: c4 :: c5 :: c6 :: c7 :: c8 :: c9 :: c10 :: (sh, aS g 3 shf) :: c12 :: c13 :: c14 :: c15 :: c16 :: c17 :: c18 :: c19 :: c20 :: c21 :: c22 :: c23 :: c24 :: pool) [(0, .ref o), (1, .int x), (2, .int so), (3, .int r), (4, .int i), (5, .int v)] 10 [.int (ptD abs x so r i), .ref o]
  refine X_put (w' := ((o, oMain pl th pg ga sh asked (ptD abs x so r i)) :: c1 :: c2 :: c3 :: c4 :: c5 :: c6 :: c7 :: c8 :: c9 :: c10 :: (sh, aS g 3 shf) :: c12 :: c13 :: c14 :: c15 :: c16 :: c17 :: c18 :: c19 :: c20 :: c21 :: c22 :: c23 :: c24 :: pool)) K0 0 rfl rfl hin4 tyX4 tyX4_ok nmX4 6 (by decide) fl_RX4_45 rfl (tyX4_ok 6 (by decide)) rfl rfl (Nat.le_of_ble_eq_true rfl) dX4_put_10 rfl ?_
  refine X_aload_n K0 0 dX4_put_13 rfl rfl ?_
  refine X_get K0 0 rfl rfl hin4 6 (by decide) fl_RX4_45 rfl dX4_put_14 ?_
  refine X_if_eq K0 25 dX4_put_17 (by decide) (fun h17 => ?_) (fun h17 => ?_)
  · rw [h17]
    obtain ⟨j, jr, i', nr, rows, len, f, hj, rfl, hso, hab, hjr, rfl, hrow, hi, rfl⟩ := pt_of hPO h17
    obtain ⟨a, ra, rf, p1, p2, hs, -, hnr, hp1, hp2, hrw⟩ := po_abs hPO hj hab
    rcases hrw jr hjr with ⟨hz, -⟩ | ⟨len', f', b, p3, hrow', hrf, hlen, hp3⟩
    · rw [hrow] at hz; cases hz
    rw [hrow] at hrow'; cases hrow'
    refine X_aload_n K0 0 dX4_put_25 rfl rfl ?_
    refine X_get K0 0 rfl rfl hin4 4 (by decide) fl_RX4_37 rfl dX4_put_26 ?_
    refine X_iload_n K0 1 dX4_put_29 rfl rfl ?_
    refine X_sald (v := .ref a) K0 11 rfl (by omega) (by decide) (by rw [hs]; rfl) dX4_put_30 ?_
    refine X_get K0 (p1 + 25) (lk25 hp1) rfl hin2 1 (by decide) fl_RX4_187 rfl dX4_put_31 ?_
    refine X_iload_n K0 3 dX4_put_34 rfl rfl ?_
    refine X_rald (v := .ref b) K0 (p2 + 25) (lk25 hp2) (by omega) (by omega) (by rw [hrf]; rfl) dX4_put_35 ?_
    refine X_iload K0 4 dX4_put_36 rfl ?_
    refine X_iload_n K0 2 dX4_put_38 rfl rfl ?_
    refine X_if_ne K0 48 dX4_put_39 (by decide) (fun h39 => ?_) (fun h39 => ?_)
    · refine X_iload K0 5 dX4_put_48 rfl ?_
      refine X_v (z := (if so = 0 then v.toInt8.toInt32 else v)) (by first | rw [if_pos h39] | rw [if_neg h39]) ?_
      refine X_iastN (w' := ((o, oMain pl th pg ga sh asked 0) :: c1 :: c2 :: c3 :: c4 :: c5 :: c6 :: c7 :: c8 :: c9 :: c10 :: (sh, aS g 3 shf) :: c12 :: c13 :: c14 :: c15 :: c16 :: c17 :: c18 :: c19 :: c20 :: c21 :: c22 :: c23 :: c24 :: (pool.set p3 (b, aI g len (upd f i' (if so = 0 then v.toInt8.toInt32 else v)))))) K0 (p3 + 25) (lk25 hp3) (by omega) (by first | decide | omega) dX4_put_50 rfl ?_
      refine X_iconst (v := 1) K0 dX4_put_51 (by decide) ?_
      refine X_nd (fun hnd => ?_)
      exact hr _ _ _ _ (Or.inr ⟨h17, rfl, j, jr, i', nr, rows, len, f, _, hj, rfl, hab, hjr, rfl, hrow, hi, rfl, po_cell hPO (nd_set (nd25 hnd) hp3) hj hs hab hp1 hp2 hjr hrow hrf hp3, rfl⟩) dX4_put_52
    · refine X_iload K0 5 dX4_put_42 rfl ?_
      refine X_i2b (v := (v.toInt8.toInt32)) K0 dX4_put_44 rfl ?_
      refine X_goto K0 50 dX4_put_45 (by decide) ?_
      refine X_v (z := (if so = 0 then v.toInt8.toInt32 else v)) (by first | rw [if_pos h39] | rw [if_neg h39]) ?_
      refine X_iastN (w' := ((o, oMain pl th pg ga sh asked 0) :: c1 :: c2 :: c3 :: c4 :: c5 :: c6 :: c7 :: c8 :: c9 :: c10 :: (sh, aS g 3 shf) :: c12 :: c13 :: c14 :: c15 :: c16 :: c17 :: c18 :: c19 :: c20 :: c21 :: c22 :: c23 :: c24 :: (pool.set p3 (b, aI g len (upd f i' (if so = 0 then v.toInt8.toInt32 else v)))))) K0 (p3 + 25) (lk25 hp3) (by omega) (by first | decide | omega) dX4_put_50 rfl ?_
      refine X_iconst (v := 1) K0 dX4_put_51 (by decide) ?_
      refine X_nd (fun hnd => ?_)
      exact hr _ _ _ _ (Or.inr ⟨h17, rfl, j, jr, i', nr, rows, len, f, _, hj, rfl, hab, hjr, rfl, hrow, hi, rfl, po_cell hPO (nd_set (nd25 hnd) hp3) hj hs hab hp1 hp2 hjr hrow hrf hp3, rfl⟩) dX4_put_52
  · refine X_aload_n K0 0 dX4_put_20 rfl rfl ?_
    refine X_get K0 0 rfl rfl hin4 6 (by decide) fl_RX4_45 rfl dX4_put_21 ?_
    exact hr _ _ _ _ (Or.inl ⟨h17, rfl, rfl⟩) dX4_put_24

set_option maxRecDepth 20000 in
set_option maxHeartbeats 400000 in
theorem c_row (g : Gx) (o pl th pg ga sh : Nat) (c1 c2 c3 c4 c5 c6 c7 c8 c9 c10 c12 c13 c14 c15 c16 c17 c18 c19 c20 c21 c22 c23 c24 : Nat × va_E) (asked : Int64) (fi : Int32) (shf : Nat → Option Nat) (pool : va_W) (abs : Nat → SH) (hPO : PO g pool shf abs) (x r n : Int32) : Con g yX4_row cX4_row 4 (some .int) 3 65 1 40 [.ref o, .int x, .int r, .int n] ((o, oMain pl th pg ga sh asked fi) :: c1 :: c2 :: c3 :: c4 :: c5 :: c6 :: c7 :: c8 :: c9 :: c10 :: (sh, aS g 3 shf) :: c12 :: c13 :: c14 :: c15 :: c16 :: c17 :: c18 :: c19 :: c20 :: c21 :: c22 :: c23 :: c24 :: pool) (fun v' w' => (¬ (rwD abs x r n) = 0 ∧ v' = some (.int (rwD abs x r n)) ∧ ((o, oMain pl th pg ga sh asked (rwD abs x r n)) :: c1 :: c2 :: c3 :: c4 :: c5 :: c6 :: c7 :: c8 :: c9 :: c10 :: (sh, aS g 3 shf) :: c12 :: c13 :: c14 :: c15 :: c16 :: c17 :: c18 :: c19 :: c20 :: c21 :: c22 :: c23 :: c24 :: pool) = w') ∨ ((rwD abs x r n) = 0 ∧ v' = some (.int 1) ∧ ∃ (j jr n' : Nat) (so : Int32) (nr : Nat) (rows : Nat → RW) (pool' : va_W), j < 3 ∧ x = nI j ∧ abs j = some (so, nr, rows) ∧ jr < nr ∧ r = nI jr ∧ n' ≤ 40 ∧ n = nI n' ∧ PO g pool' shf (upA abs j (some (so, nr, upA rows jr (some (n', fun _ => 0))))) ∧ ((o, oMain pl th pg ga sh asked 0) :: c1 :: c2 :: c3 :: c4 :: c5 :: c6 :: c7 :: c8 :: c9 :: c10 :: (sh, aS g 3 shf) :: c12 :: c13 :: c14 :: c15 :: c16 :: c17 :: c18 :: c19 :: c20 :: c21 :: c22 :: c23 :: c24 :: pool') = w')) := by
  refine Con.ofI (by decide +kernel) (Nat.le_of_ble_eq_true rfl) (fun φ K0 hr => ?_)
  show X φ 0 0 ((o, oMain pl th pg ga sh asked fi) :: c1 :: c2 :: c3 :: c4 :: c5 :: c6 :: c7 :: c8 :: c9 :: c10 :: (sh, aS g 3 shf) :: c12 :: c13 :: c14 :: c15 :: c16 :: c17 :: c18 :: c19 :: c20 :: c21 :: c22 :: c23 :: c24 :: pool) [(0, .ref o), (1, .int x), (2, .int r), (3, .int n)] 0 []
  refine X_aload_n K0 0 dX4_row_0 rfl rfl ?_
  refine X_aload_n K0 0 dX4_row_1 rfl rfl ?_
  refine X_iload_n K0 1 dX4_row_2 rfl rfl ?_
  refine X_iload_n K0 2 dX4_row_3 rfl rfl ?_
  refine X_iload_n K0 3 dX4_row_4 rfl rfl ?_
  refine X_callV (As := [.int x, .int r, .int n]) (rest := [.ref o]) K0 0 (c_newRowFinding g o pl th pg ga sh c1 c2 c3 c4 c5 c6 c7 c8 c9 c10 c12 c13 c14 c15 c16 c17 c18 c19 c20 c21 c22 c23 c24 asked fi shf pool abs hPO x r n) mi_X4_newRowFinding rfl rfl rfl ml_RX4_184 rfl (Nat.le_of_ble_eq_true rfl) (by decide) ⟨Nat.le_of_ble_eq_true rfl, Nat.le_of_ble_eq_true rfl⟩ rfl rfl dX4_row_5 ?_
  intro v w' hr'; obtain ⟨rfl, rfl⟩ := hr'
  show X φ 0 0 ((o, oMain pl th pg ga sh asked fi) :: c1 :: c2 :: c3 :: c4 :: c5 :: c6 :: c7 :: c8 :: c9 :: c10 :: (sh, aS g 3 shf) :: c12 :: c13 :: c14 :: c15 :: c16 :: c17 :: c18 :: c19 :: c20 :: c21 :: c22 :: c23 :: c24 :: pool) [(0, .ref o), (1, .int x), (2, .int r), (3, .int n)] 8 [.int (rwD abs x r n), .ref o]
  refine X_put (w' := ((o, oMain pl th pg ga sh asked (rwD abs x r n)) :: c1 :: c2 :: c3 :: c4 :: c5 :: c6 :: c7 :: c8 :: c9 :: c10 :: (sh, aS g 3 shf) :: c12 :: c13 :: c14 :: c15 :: c16 :: c17 :: c18 :: c19 :: c20 :: c21 :: c22 :: c23 :: c24 :: pool)) K0 0 rfl rfl hin4 tyX4 tyX4_ok nmX4 6 (by decide) fl_RX4_45 rfl (tyX4_ok 6 (by decide)) rfl rfl (Nat.le_of_ble_eq_true rfl) dX4_row_8 rfl ?_
  refine X_aload_n K0 0 dX4_row_11 rfl rfl ?_
  refine X_get K0 0 rfl rfl hin4 6 (by decide) fl_RX4_45 rfl dX4_row_12 ?_
  refine X_if_eq K0 23 dX4_row_15 (by decide) (fun h15 => ?_) (fun h15 => ?_)
  · rw [h15]
    obtain ⟨j, jr, n', so, nr, rows, hj, rfl, hab, hjr, rfl, hn', rfl⟩ := rw_of hPO h15
    obtain ⟨a, ra, rf, p1, p2, hs, -, hnr, hp1, hp2, hrw⟩ := po_abs hPO hj hab
    refine X_aload_n K0 0 dX4_row_23 rfl rfl ?_
    refine X_get K0 0 rfl rfl hin4 4 (by decide) fl_RX4_37 rfl dX4_row_24 ?_
    refine X_iload_n K0 1 dX4_row_27 rfl rfl ?_
    refine X_sald (v := .ref a) K0 11 rfl (by omega) (by decide) (by rw [hs]; rfl) dX4_row_28 ?_
    refine X_get K0 (p1 + 25) (lk25 hp1) rfl hin2 1 (by decide) fl_RX4_187 rfl dX4_row_29 ?_
    refine X_iload_n K0 2 dX4_row_32 rfl rfl ?_
    refine X_iload_n K0 3 dX4_row_33 rfl rfl ?_
    refine X_newa (N' := n') (a0 := (n', .inl (fun _ => 0))) K0 0 ac_int rfl rfl trivial (fun _ => rfl) (nI_pos (by omega)) (nI_clamp (by omega)) (by show n' * 4 ≤ 536870912; omega) (by omega) (by omega) rfl rfl dX4_row_34 (fun b => ?_)
    refine X.widen (k' := 1) (n' := 40) (by omega) (by omega) ?_
    show X φ 1 40 ((o, oMain pl th pg ga sh asked 0) :: c1 :: c2 :: c3 :: c4 :: c5 :: c6 :: c7 :: c8 :: c9 :: c10 :: (sh, aS g 3 shf) :: c12 :: c13 :: c14 :: c15 :: c16 :: c17 :: c18 :: c19 :: c20 :: c21 :: c22 :: c23 :: c24 :: (pool ++ [(b, aI g n' (fun _ => 0))])) [(0, .ref o), (1, .int (nI j)), (2, .int (nI jr)), (3, .int (nI n'))] 36 [.ref b, .int (nI jr), .ref ra]
    refine X_rast (w' := ((o, oMain pl th pg ga sh asked 0) :: c1 :: c2 :: c3 :: c4 :: c5 :: c6 :: c7 :: c8 :: c9 :: c10 :: (sh, aS g 3 shf) :: c12 :: c13 :: c14 :: c15 :: c16 :: c17 :: c18 :: c19 :: c20 :: c21 :: c22 :: c23 :: c24 :: ((pool ++ [(b, aI g n' (fun _ => 0))]).set p2 (ra, aR g nr (va_up rf jr (some b)))))) K0 (p2 + 25) (pool.length + 25) (lk25 (get_app hp2)) (lk25 get_l0) (by omega) (by omega) dX4_row_36 rfl ?_
    refine X_iconst (v := 1) K0 dX4_row_37 (by decide) ?_
    refine X_nd (fun hnd => ?_)
    exact hr _ _ _ _ (Or.inr ⟨h15, rfl, j, jr, n', so, nr, rows, _, hj, rfl, hab, hjr, rfl, hn', rfl, po_row hPO hj hs hab hp1 hp2 hjr hn' (nd_set (nd25 hnd) (get_app hp2)), rfl⟩) dX4_row_38
  · refine X_aload_n K0 0 dX4_row_18 rfl rfl ?_
    refine X_get K0 0 rfl rfl hin4 6 (by decide) fl_RX4_45 rfl dX4_row_19 ?_
    refine X.widen (k' := 1) (n' := 40) (by omega) (by omega) ?_
    exact hr _ _ _ _ (Or.inl ⟨h15, rfl, rfl⟩) dX4_row_22

set_option maxRecDepth 20000 in
set_option maxHeartbeats 400000 in
theorem c_sheet (g : Gx) (o pl th pg ga sh : Nat) (c1 c2 c3 c4 c5 c6 c7 c8 c9 c10 c12 c13 c14 c15 c16 c17 c18 c19 c20 c21 c22 c23 c24 : Nat × va_E) (asked : Int64) (fi : Int32) (shf : Nat → Option Nat) (pool : va_W) (abs : Nat → SH) (hPO : PO g pool shf abs) (x so n : Int32) : Con g yX4_sheet cX4_sheet 4 (some .int) 3 64 2 6 [.ref o, .int x, .int so, .int n] ((o, oMain pl th pg ga sh asked fi) :: c1 :: c2 :: c3 :: c4 :: c5 :: c6 :: c7 :: c8 :: c9 :: c10 :: (sh, aS g 3 shf) :: c12 :: c13 :: c14 :: c15 :: c16 :: c17 :: c18 :: c19 :: c20 :: c21 :: c22 :: c23 :: c24 :: pool) (fun v' w' => (¬ (sheD x so n) = 0 ∧ v' = some (.int (sheD x so n)) ∧ ((o, oMain pl th pg ga sh asked (sheD x so n)) :: c1 :: c2 :: c3 :: c4 :: c5 :: c6 :: c7 :: c8 :: c9 :: c10 :: (sh, aS g 3 shf) :: c12 :: c13 :: c14 :: c15 :: c16 :: c17 :: c18 :: c19 :: c20 :: c21 :: c22 :: c23 :: c24 :: pool) = w') ∨ ((sheD x so n) = 0 ∧ v' = some (.int 1) ∧ ∃ (j n' : Nat) (shf' : Nat → Option Nat) (pool' : va_W), j < 3 ∧ x = nI j ∧ (so = 0 ∨ so = 1) ∧ n' ≤ 4 ∧ n = nI n' ∧ PO g pool' shf' (upA abs j (some (so, n', fun _ => none))) ∧ ((o, oMain pl th pg ga sh asked 0) :: c1 :: c2 :: c3 :: c4 :: c5 :: c6 :: c7 :: c8 :: c9 :: c10 :: (sh, aS g 3 shf') :: c12 :: c13 :: c14 :: c15 :: c16 :: c17 :: c18 :: c19 :: c20 :: c21 :: c22 :: c23 :: c24 :: pool') = w')) := by
  refine Con.ofI (by decide +kernel) (Nat.le_of_ble_eq_true rfl) (fun φ K0 hr => ?_)
  show X φ 0 0 ((o, oMain pl th pg ga sh asked fi) :: c1 :: c2 :: c3 :: c4 :: c5 :: c6 :: c7 :: c8 :: c9 :: c10 :: (sh, aS g 3 shf) :: c12 :: c13 :: c14 :: c15 :: c16 :: c17 :: c18 :: c19 :: c20 :: c21 :: c22 :: c23 :: c24 :: pool) [(0, .ref o), (1, .int x), (2, .int so), (3, .int n)] 0 []
  refine X_aload_n K0 0 dX4_sheet_0 rfl rfl ?_
  refine X_iload_n K0 1 dX4_sheet_1 rfl rfl ?_
  refine X_iload_n K0 2 dX4_sheet_2 rfl rfl ?_
  refine X_iload_n K0 3 dX4_sheet_3 rfl rfl ?_
  refine X_callS (As := [.int x, .int so, .int n]) (rest := [.ref o]) K0 (c_sheetFinding g ((o, oMain pl th pg ga sh asked fi) :: c1 :: c2 :: c3 :: c4 :: c5 :: c6 :: c7 :: c8 :: c9 :: c10 :: (sh, aS g 3 shf) :: c12 :: c13 :: c14 :: c15 :: c16 :: c17 :: c18 :: c19 :: c20 :: c21 :: c22 :: c23 :: c24 :: pool) x so n) ms_X4_sheetFinding rfl ml_RX4_177 rfl (Nat.le_of_ble_eq_true rfl) (by decide) ⟨Nat.le_of_ble_eq_true rfl, Nat.le_of_ble_eq_true rfl⟩ rfl rfl dX4_sheet_4 ?_
  intro v w' hr'; obtain ⟨rfl, rfl⟩ := hr'
  show X φ 0 0 ((o, oMain pl th pg ga sh asked fi) :: c1 :: c2 :: c3 :: c4 :: c5 :: c6 :: c7 :: c8 :: c9 :: c10 :: (sh, aS g 3 shf) :: c12 :: c13 :: c14 :: c15 :: c16 :: c17 :: c18 :: c19 :: c20 :: c21 :: c22 :: c23 :: c24 :: pool) [(0, .ref o), (1, .int x), (2, .int so), (3, .int n)] 7 [.int (sheD x so n), .ref o]
  refine X_put (w' := ((o, oMain pl th pg ga sh asked (sheD x so n)) :: c1 :: c2 :: c3 :: c4 :: c5 :: c6 :: c7 :: c8 :: c9 :: c10 :: (sh, aS g 3 shf) :: c12 :: c13 :: c14 :: c15 :: c16 :: c17 :: c18 :: c19 :: c20 :: c21 :: c22 :: c23 :: c24 :: pool)) K0 0 rfl rfl hin4 tyX4 tyX4_ok nmX4 6 (by decide) fl_RX4_45 rfl (tyX4_ok 6 (by decide)) rfl rfl (Nat.le_of_ble_eq_true rfl) dX4_sheet_7 rfl ?_
  refine X_aload_n K0 0 dX4_sheet_10 rfl rfl ?_
  refine X_get K0 0 rfl rfl hin4 6 (by decide) fl_RX4_45 rfl dX4_sheet_11 ?_
  refine X_if_eq K0 22 dX4_sheet_14 (by decide) (fun h14 => ?_) (fun h14 => ?_)
  · rw [h14]
    obtain ⟨j, n', hj, rfl, hso, hn', rfl⟩ := she_of h14
    refine X_aload_n K0 0 dX4_sheet_22 rfl rfl ?_
    refine X_get K0 0 rfl rfl hin4 4 (by decide) fl_RX4_37 rfl dX4_sheet_23 ?_
    refine X_iload_n K0 1 dX4_sheet_26 rfl rfl ?_
    refine X_new (ci := 2) (N := 2) (fs := [.int 0, .null]) K0 hin2 tyX2 tyX2_ok rfl cl_RX4_35 in_RX2 it_RX2 (fun j hj => by rcases (show j = 0 ∨ j = 1 by omega) with rfl | rfl <;> rfl) (by omega) (by omega) rfl rfl dX4_sheet_27 (fun q => ?_)
    show X φ 1 2 ((o, oMain pl th pg ga sh asked 0) :: c1 :: c2 :: c3 :: c4 :: c5 :: c6 :: c7 :: c8 :: c9 :: c10 :: (sh, aS g 3 shf) :: c12 :: c13 :: c14 :: c15 :: c16 :: c17 :: c18 :: c19 :: c20 :: c21 :: c22 :: c23 :: c24 :: (pool ++ [(q, .inr (2, [.int 0, .null]))])) [(0, .ref o), (1, .int (nI j)), (2, .int so), (3, .int (nI n'))] 30 [.ref q, .int (nI j), .ref sh]
    refine X_dup K0 dX4_sheet_30 rfl ?_
    refine X_iload_n K0 2 dX4_sheet_31 rfl rfl ?_
    refine X_iload_n K0 3 dX4_sheet_32 rfl rfl ?_
    refine X_rnew K0 (by omega) cl_RX4_180 (by omega) (by omega) rfl rfl dX4_sheet_33 (fun q2 => ?_)
    refine X.widen (k' := 2) (n' := 6) (by omega) (by omega) ?_
    show X φ 2 6 ((o, oMain pl th pg ga sh asked 0) :: c1 :: c2 :: c3 :: c4 :: c5 :: c6 :: c7 :: c8 :: c9 :: c10 :: (sh, aS g 3 shf) :: c12 :: c13 :: c14 :: c15 :: c16 :: c17 :: c18 :: c19 :: c20 :: c21 :: c22 :: c23 :: c24 :: ((pool ++ [(q, .inr (2, [.int 0, .null]))]) ++ [(q2, aR g n' (fun _ => none))])) [(0, .ref o), (1, .int (nI j)), (2, .int so), (3, .int (nI n'))] 36 [.ref q2, .int so, .ref q, .ref q, .int (nI j), .ref sh]
    refine X_callI (As := [.int so, .ref q2]) (rest := [.ref q, .int (nI j), .ref sh]) K0 (c_Sheet_init g ((o, oMain pl th pg ga sh asked 0) :: c1 :: c2 :: c3 :: c4 :: c5 :: c6 :: c7 :: c8 :: c9 :: c10 :: (sh, aS g 3 shf) :: c12 :: c13 :: c14 :: c15 :: c16 :: c17 :: c18 :: c19 :: c20 :: c21 :: c22 :: c23 :: c24 :: ((pool ++ [(q, .inr (2, [.int 0, .null]))]) ++ [(q2, aR g n' (fun _ => none))])) (pool.length + 25) q 0 (lk25 get_l1) so q2) mc_X2_init rfl ml_RX4_181 rfl (Nat.le_of_ble_eq_true rfl) (by decide) ⟨Nat.le_of_ble_eq_true rfl, Nat.le_of_ble_eq_true rfl⟩ rfl rfl dX4_sheet_36 ?_
    intro v' w' hr'; obtain ⟨rfl, rfl⟩ := hr'
    refine X_eq (w' := ((o, oMain pl th pg ga sh asked 0) :: c1 :: c2 :: c3 :: c4 :: c5 :: c6 :: c7 :: c8 :: c9 :: c10 :: (sh, aS g 3 shf) :: c12 :: c13 :: c14 :: c15 :: c16 :: c17 :: c18 :: c19 :: c20 :: c21 :: c22 :: c23 :: c24 :: (pool ++ [(q, oSheet so q2), (q2, aR g n' (fun _ => none))]))) (show_set set_l1) rfl rfl ?_
    show X φ 2 6 ((o, oMain pl th pg ga sh asked 0) :: c1 :: c2 :: c3 :: c4 :: c5 :: c6 :: c7 :: c8 :: c9 :: c10 :: (sh, aS g 3 shf) :: c12 :: c13 :: c14 :: c15 :: c16 :: c17 :: c18 :: c19 :: c20 :: c21 :: c22 :: c23 :: c24 :: (pool ++ [(q, oSheet so q2), (q2, aR g n' (fun _ => none))])) [(0, .ref o), (1, .int (nI j)), (2, .int so), (3, .int (nI n'))] 39 [.ref q, .int (nI j), .ref sh]
    refine X_sast (w' := ((o, oMain pl th pg ga sh asked 0) :: c1 :: c2 :: c3 :: c4 :: c5 :: c6 :: c7 :: c8 :: c9 :: c10 :: (sh, aS g 3 (va_up shf j (some q))) :: c12 :: c13 :: c14 :: c15 :: c16 :: c17 :: c18 :: c19 :: c20 :: c21 :: c22 :: c23 :: c24 :: (pool ++ [(q, oSheet so q2), (q2, aR g n' (fun _ => none))]))) K0 11 (pool.length + 25) rfl (lk25 get_l2) (by omega) (by decide) dX4_sheet_39 rfl ?_
    refine X_iconst (v := 1) K0 dX4_sheet_40 (by decide) ?_
    refine X_nd (fun hnd => ?_)
    exact hr _ _ _ _ (Or.inr ⟨h14, rfl, j, n', _, _, hj, rfl, hso, hn', rfl, po_sheet hPO hj hso hn' (nd25 hnd), rfl⟩) dX4_sheet_41
  · refine X_aload_n K0 0 dX4_sheet_17 rfl rfl ?_
    refine X_get K0 0 rfl rfl hin4 6 (by decide) fl_RX4_45 rfl dX4_sheet_18 ?_
    refine X.widen (k' := 2) (n' := 6) (by omega) (by omega) ?_
    exact hr _ _ _ _ (Or.inl ⟨h14, rfl, rfl⟩) dX4_sheet_21

set_option maxRecDepth 20000 in
set_option maxHeartbeats 400000 in
theorem c_copy (g : Gx) (o pl th pg ga sh : Nat) (c1 c2 c3 c4 c5 c6 c7 c8 c9 c10 c12 c13 c14 c15 c16 c17 c18 c19 c20 c21 c22 c23 c24 : Nat × va_E) (asked : Int64) (fi : Int32) (shf : Nat → Option Nat) (pool : va_W) (abs : Nat → SH) (hPO : PO g pool shf abs) (x r i o2 s j2 n : Int32) : Con g yX4_copy cX4_copy 8 (some .int) 3 71 0 0 [.ref o, .int x, .int r, .int i, .int o2, .int s, .int j2, .int n] ((o, oMain pl th pg ga sh asked fi) :: c1 :: c2 :: c3 :: c4 :: c5 :: c6 :: c7 :: c8 :: c9 :: c10 :: (sh, aS g 3 shf) :: c12 :: c13 :: c14 :: c15 :: c16 :: c17 :: c18 :: c19 :: c20 :: c21 :: c22 :: c23 :: c24 :: pool) (fun v' w' => (¬ (cpD abs x r i o2 s j2 n) = 0 ∧ v' = some (.int (cpD abs x r i o2 s j2 n)) ∧ ((o, oMain pl th pg ga sh asked (cpD abs x r i o2 s j2 n)) :: c1 :: c2 :: c3 :: c4 :: c5 :: c6 :: c7 :: c8 :: c9 :: c10 :: (sh, aS g 3 shf) :: c12 :: c13 :: c14 :: c15 :: c16 :: c17 :: c18 :: c19 :: c20 :: c21 :: c22 :: c23 :: c24 :: pool) = w') ∨ ((cpD abs x r i o2 s j2 n) = 0 ∧ v' = some (.int n) ∧ ∃ (a b jr js i' j' n' : Nat) (so : Int32) (n1 n2 : Nat) (rows1 rows2 : Nat → RW) (l1 l2 : Nat) (f1 f2 : Nat → Int32) (pool' : va_W), a < 3 ∧ b < 3 ∧ x = nI a ∧ o2 = nI b ∧ abs a = some (so, n1, rows1) ∧ abs b = some (so, n2, rows2) ∧ jr < n1 ∧ js < n2 ∧ r = nI jr ∧ s = nI js ∧ rows1 jr = some (l1, f1) ∧ rows2 js = some (l2, f2) ∧ i = nI i' ∧ j2 = nI j' ∧ n = nI n' ∧ i' + n' ≤ l1 ∧ j' + n' ≤ l2 ∧ PO g pool' shf (upA abs b (some (so, n2, upA rows2 js (some (l2, va_cpy f1 f2 i' j' n'))))) ∧ ((o, oMain pl th pg ga sh asked 0) :: c1 :: c2 :: c3 :: c4 :: c5 :: c6 :: c7 :: c8 :: c9 :: c10 :: (sh, aS g 3 shf) :: c12 :: c13 :: c14 :: c15 :: c16 :: c17 :: c18 :: c19 :: c20 :: c21 :: c22 :: c23 :: c24 :: pool') = w')) := by
  refine Con.ofI (by decide +kernel) (Nat.le_of_ble_eq_true rfl) (fun φ K0 hr => ?_)
  show X φ 0 0 ((o, oMain pl th pg ga sh asked fi) :: c1 :: c2 :: c3 :: c4 :: c5 :: c6 :: c7 :: c8 :: c9 :: c10 :: (sh, aS g 3 shf) :: c12 :: c13 :: c14 :: c15 :: c16 :: c17 :: c18 :: c19 :: c20 :: c21 :: c22 :: c23 :: c24 :: pool) [(0, .ref o), (1, .int x), (2, .int r), (3, .int i), (4, .int o2), (5, .int s), (6, .int j2), (7, .int n)] 0 []
  refine X_aload_n K0 0 dX4_copy_0 rfl rfl ?_
  refine X_aload_n K0 0 dX4_copy_1 rfl rfl ?_
  refine X_iload_n K0 1 dX4_copy_2 rfl rfl ?_
  refine X_iload_n K0 2 dX4_copy_3 rfl rfl ?_
  refine X_iload_n K0 3 dX4_copy_4 rfl rfl ?_
  refine X_iload K0 4 dX4_copy_5 rfl ?_
  refine X_iload K0 5 dX4_copy_7 rfl ?_
  refine X_iload K0 6 dX4_copy_9 rfl ?_
  refine X_iload K0 7 dX4_copy_11 rfl ?_
  refine X_callV (As := [.int x, .int r, .int i, .int o2, .int s, .int j2, .int n]) (rest := [.ref o]) K0 0 (c_copyFinding g o pl th pg ga sh c1 c2 c3 c4 c5 c6 c7 c8 c9 c10 c12 c13 c14 c15 c16 c17 c18 c19 c20 c21 c22 c23 c24 asked fi shf pool abs hPO x r i o2 s j2 n) mi_X4_copyFinding rfl rfl rfl ml_RX4_194 rfl (Nat.le_of_ble_eq_true rfl) (by decide) ⟨Nat.le_of_ble_eq_true rfl, Nat.le_of_ble_eq_true rfl⟩ rfl rfl dX4_copy_13 ?_
  intro v w' hr'; obtain ⟨rfl, rfl⟩ := hr'
  show X φ 0 0 ((o, oMain pl th pg ga sh asked fi) :: c1 :: c2 :: c3 :: c4 :: c5 :: c6 :: c7 :: c8 :: c9 :: c10 :: (sh, aS g 3 shf) :: c12 :: c13 :: c14 :: c15 :: c16 :: c17 :: c18 :: c19 :: c20 :: c21 :: c22 :: c23 :: c24 :: pool) [(0, .ref o), (1, .int x), (2, .int r), (3, .int i), (4, .int o2), (5, .int s), (6, .int j2), (7, .int n)] 16 [.int (cpD abs x r i o2 s j2 n), .ref o]
  refine X_put (w' := ((o, oMain pl th pg ga sh asked (cpD abs x r i o2 s j2 n)) :: c1 :: c2 :: c3 :: c4 :: c5 :: c6 :: c7 :: c8 :: c9 :: c10 :: (sh, aS g 3 shf) :: c12 :: c13 :: c14 :: c15 :: c16 :: c17 :: c18 :: c19 :: c20 :: c21 :: c22 :: c23 :: c24 :: pool)) K0 0 rfl rfl hin4 tyX4 tyX4_ok nmX4 6 (by decide) fl_RX4_45 rfl (tyX4_ok 6 (by decide)) rfl rfl (Nat.le_of_ble_eq_true rfl) dX4_copy_16 rfl ?_
  refine X_aload_n K0 0 dX4_copy_19 rfl rfl ?_
  refine X_get K0 0 rfl rfl hin4 6 (by decide) fl_RX4_45 rfl dX4_copy_20 ?_
  refine X_if_eq K0 31 dX4_copy_23 (by decide) (fun h23 => ?_) (fun h23 => ?_)
  · rw [h23]
    obtain ⟨a, b, jr, js, i', j', n', so, n1, n2, rows1, rows2, l1, l2, f1, f2, ha, hb, rfl, rfl, hab, hab2, hjr, hjs, rfl, rfl, hr1, hr2, rfl, rfl, rfl, k1, k2⟩ := cp_of hPO h23
    obtain ⟨a1, ra1, rf1, p1, pr1, hs1, -, hnr1, hp1, hpr1, hrw1⟩ := po_abs hPO ha hab
    rcases hrw1 jr hjr with ⟨hz, -⟩ | ⟨len1, g1, b1, pb1, hq1, hrf1, hlen1, hpb1⟩
    · rw [hr1] at hz; cases hz
    rw [hr1] at hq1; cases hq1
    obtain ⟨a2, ra2, rf2, p2, pr2, hs2, -, hnr2, hp2, hpr2, hrw2⟩ := po_abs hPO hb hab2
    rcases hrw2 js hjs with ⟨hz, -⟩ | ⟨len2, g2, b2, pb2, hq2, hrf2, hlen2, hpb2⟩
    · rw [hr2] at hz; cases hz
    rw [hr2] at hq2; cases hq2
    refine X_aload_n K0 0 dX4_copy_31 rfl rfl ?_
    refine X_get K0 0 rfl rfl hin4 4 (by decide) fl_RX4_37 rfl dX4_copy_32 ?_
    refine X_iload_n K0 1 dX4_copy_35 rfl rfl ?_
    refine X_sald (v := .ref a1) K0 11 rfl (by omega) (by decide) (by rw [hs1]; rfl) dX4_copy_36 ?_
    refine X_get K0 (p1 + 25) (lk25 hp1) rfl hin2 1 (by decide) fl_RX4_187 rfl dX4_copy_37 ?_
    refine X_iload_n K0 2 dX4_copy_40 rfl rfl ?_
    refine X_rald (v := .ref b1) K0 (pr1 + 25) (lk25 hpr1) (by omega) (by omega) (by rw [hrf1]; rfl) dX4_copy_41 ?_
    refine X_iload_n K0 3 dX4_copy_42 rfl rfl ?_
    refine X_aload_n K0 0 dX4_copy_43 rfl rfl ?_
    refine X_get K0 0 rfl rfl hin4 4 (by decide) fl_RX4_37 rfl dX4_copy_44 ?_
    refine X_iload K0 4 dX4_copy_47 rfl ?_
    refine X_sald (v := .ref a2) K0 11 rfl (by omega) (by decide) (by rw [hs2]; rfl) dX4_copy_49 ?_
    refine X_get K0 (p2 + 25) (lk25 hp2) rfl hin2 1 (by decide) fl_RX4_187 rfl dX4_copy_50 ?_
    refine X_iload K0 5 dX4_copy_53 rfl ?_
    refine X_rald (v := .ref b2) K0 (pr2 + 25) (lk25 hpr2) (by omega) (by omega) (by rw [hrf2]; rfl) dX4_copy_55 ?_
    refine X_iload K0 6 dX4_copy_56 rfl ?_
    refine X_iload K0 7 dX4_copy_58 rfl ?_
    refine X_copy (w' := ((o, oMain pl th pg ga sh asked 0) :: c1 :: c2 :: c3 :: c4 :: c5 :: c6 :: c7 :: c8 :: c9 :: c10 :: (sh, aS g 3 shf) :: c12 :: c13 :: c14 :: c15 :: c16 :: c17 :: c18 :: c19 :: c20 :: c21 :: c22 :: c23 :: c24 :: (pool.set pb2 (b2, aI g l2 (va_cpy f1 f2 i' j' n'))))) K0 (pb1 + 25) (pb2 + 25) (lk25 hpb1) (lk25 hpb2) ⟨by omega, by omega⟩ k1 k2 ml_RX4_198 na_arraycopyName st_arraycopyName it_RJ10 (by decide) (by decide) dX4_copy_60 rfl ?_
    refine X_iload K0 7 dX4_copy_63 rfl ?_
    refine X_nd (fun hnd => ?_)
    exact hr _ _ _ _ (Or.inr ⟨h23, rfl, a, b, jr, js, i', j', n', so, n1, n2, rows1, rows2, l1, l2, f1, f2, _, ha, hb, rfl, rfl, hab, hab2, hjr, hjs, rfl, rfl, hr1, hr2, rfl, rfl, rfl, k1, k2, po_cell hPO (nd_set (nd25 hnd) hpb2) hb hs2 hab2 hp2 hpr2 hjs hr2 hrf2 hpb2, rfl⟩) dX4_copy_65
  · refine X_aload_n K0 0 dX4_copy_26 rfl rfl ?_
    refine X_get K0 0 rfl rfl hin4 6 (by decide) fl_RX4_45 rfl dX4_copy_27 ?_
    exact hr _ _ _ _ (Or.inl ⟨h23, rfl, rfl⟩) dX4_copy_30
