set_option maxRecDepth 20000 in
set_option maxHeartbeats 400000 in
theorem c_Grid_init (g : Gx) (w : va_W) (gr : Nat) : Con g yX0_init cX0_init 1 none 1 20 0 0 [.ref gr] w (Rs none w) := by
  refine Con.ofV (by decide +kernel) (Nat.le_of_ble_eq_true rfl) (fun φ K0 hr => ?_)
  show X φ 0 0 w [(0, .ref gr)] 0 []
  refine X_aload_n K0 0 dX0_init_0 rfl rfl ?_
  refine X_objInit K0 ml_RX0_3 (by decide) (Nat.le_of_ble_eq_true rfl) im_objectInit co_objectInit dX0_init_1 ?_
  exact hr _ _ _ ⟨rfl, rfl⟩ dX0_init_4

set_option maxRecDepth 20000 in
set_option maxHeartbeats 400000 in
theorem c_Plan_init (g : Gx) (c0 : Nat × va_E) (pl : Nat) : Con g yX1_init cX1_init 1 none 1 20 1 40 [.ref pl] (c0 :: (pl, .inr (1, [.int 0, .int 0, .int 0, .int 0, .int 0, .int 0, .int 0, .null])) :: []) (fun v w' => v = none ∧ ∃ sl : Nat, (c0 :: (pl, oPlan 0 0 0 0 0 0 0 sl) :: (sl, aI g 40 (fun _ => 0)) :: []) = w') := by
  refine Con.ofV (by decide +kernel) (Nat.le_of_ble_eq_true rfl) (fun φ K0 hr => ?_)
  show X φ 0 0 (c0 :: (pl, .inr (1, [.int 0, .int 0, .int 0, .int 0, .int 0, .int 0, .int 0, .null])) :: []) [(0, .ref pl)] 0 []
  refine X_aload_n K0 0 dX1_init_0 rfl rfl ?_
  refine X_objInit K0 ml_RX1_3 (by decide) (Nat.le_of_ble_eq_true rfl) im_objectInit co_objectInit dX1_init_1 ?_
  refine X_aload_n K0 0 dX1_init_4 rfl rfl ?_
  refine X_bipush (v := 40) K0 dX1_init_5 (by decide) ?_
  refine X_newa (N' := 40) (a0 := (40, .inl (fun _ => 0))) K0 0 ac_int rfl rfl trivial (fun _ => rfl) (by decide) (by decide) (by decide) (by omega) (by omega) rfl rfl dX1_init_7 (fun sl => ?_)
  show X φ 1 40 (c0 :: (pl, .inr (1, [.int 0, .int 0, .int 0, .int 0, .int 0, .int 0, .int 0, .null])) :: (sl, aI g 40 (fun _ => 0)) :: []) [(0, .ref pl)] 9 [.ref sl, .ref pl]
  refine X_putF (w' := (c0 :: (pl, oPlan 0 0 0 0 0 0 0 sl) :: (sl, aI g 40 (fun _ => 0)) :: [])) K0 1 rfl rfl hin1 tyX1 tyX1_ok nmX1 7 (by decide) fl_RX1_9 rfl rfl rfl (tyX1_ok 7 (by decide)) rfl rfl (Nat.le_of_ble_eq_true rfl) dX1_init_9 rfl ?_
  exact hr _ _ _ ⟨rfl, sl, rfl⟩ dX1_init_12

set_option maxRecDepth 20000 in
set_option maxHeartbeats 400000 in
theorem c_Things_init (g : Gx) (c0 c1 c2 : Nat × va_E) (th pl : Nat) : Con g yX3_init cX3_init 2 none 1 20 5 144 [.ref th, .ref pl] (c0 :: c1 :: c2 :: (th, .inr (3, [.null, .null, .null, .null, .int 0, .long 0, .null, .null])) :: []) (fun v w' => v = none ∧ ∃ ki el nu wa wo : Nat, (c0 :: c1 :: c2 :: (th, oThings pl ki el nu 0 0 wa wo) :: (ki, aI g 40 (fun _ => 0)) :: (el, aI g 40 (fun _ => 0)) :: (nu, aI g 40 (fun _ => 0)) :: (wa, aJ g 12 (fun _ => 0)) :: (wo, aJ g 12 (fun _ => 0)) :: []) = w') := by
  refine Con.ofV (by decide +kernel) (Nat.le_of_ble_eq_true rfl) (fun φ K0 hr => ?_)
  show X φ 0 0 (c0 :: c1 :: c2 :: (th, .inr (3, [.null, .null, .null, .null, .int 0, .long 0, .null, .null])) :: []) [(0, .ref th), (1, .ref pl)] 0 []
  refine X_aload_n K0 0 dX3_init_0 rfl rfl ?_
  refine X_objInit K0 ml_RX3_3 (by decide) (Nat.le_of_ble_eq_true rfl) im_objectInit co_objectInit dX3_init_1 ?_
  refine X_aload_n K0 0 dX3_init_4 rfl rfl ?_
  refine X_bipush (v := 40) K0 dX3_init_5 (by decide) ?_
  refine X_newa (N' := 40) (a0 := (40, .inl (fun _ => 0))) K0 0 ac_int rfl rfl trivial (fun _ => rfl) (by decide) (by decide) (by decide) (by omega) (by omega) rfl rfl dX3_init_7 (fun ki => ?_)
  show X φ 1 40 (c0 :: c1 :: c2 :: (th, .inr (3, [.null, .null, .null, .null, .int 0, .long 0, .null, .null])) :: (ki, aI g 40 (fun _ => 0)) :: []) [(0, .ref th), (1, .ref pl)] 9 [.ref ki, .ref th]
  refine X_putF (w' := (c0 :: c1 :: c2 :: (th, .inr (3, [.null, .ref ki, .null, .null, .int 0, .long 0, .null, .null])) :: (ki, aI g 40 (fun _ => 0)) :: [])) K0 3 rfl rfl hin3 tyX3 tyX3_ok nmX3 1 (by decide) fl_RX3_9 rfl rfl rfl (tyX3_ok 1 (by decide)) rfl rfl (Nat.le_of_ble_eq_true rfl) dX3_init_9 rfl ?_
  refine X_aload_n K0 0 dX3_init_12 rfl rfl ?_
  refine X_bipush (v := 40) K0 dX3_init_13 (by decide) ?_
  refine X_newa (N' := 40) (a0 := (40, .inl (fun _ => 0))) K0 0 ac_int rfl rfl trivial (fun _ => rfl) (by decide) (by decide) (by decide) (by omega) (by omega) rfl rfl dX3_init_15 (fun el => ?_)
  show X φ 2 80 (c0 :: c1 :: c2 :: (th, .inr (3, [.null, .ref ki, .null, .null, .int 0, .long 0, .null, .null])) :: (ki, aI g 40 (fun _ => 0)) :: (el, aI g 40 (fun _ => 0)) :: []) [(0, .ref th), (1, .ref pl)] 17 [.ref el, .ref th]
  refine X_putF (w' := (c0 :: c1 :: c2 :: (th, .inr (3, [.null, .ref ki, .ref el, .null, .int 0, .long 0, .null, .null])) :: (ki, aI g 40 (fun _ => 0)) :: (el, aI g 40 (fun _ => 0)) :: [])) K0 3 rfl rfl hin3 tyX3 tyX3_ok nmX3 2 (by decide) fl_RX3_15 rfl rfl rfl (tyX3_ok 2 (by decide)) rfl rfl (Nat.le_of_ble_eq_true rfl) dX3_init_17 rfl ?_
  refine X_aload_n K0 0 dX3_init_20 rfl rfl ?_
  refine X_bipush (v := 40) K0 dX3_init_21 (by decide) ?_
  refine X_newa (N' := 40) (a0 := (40, .inl (fun _ => 0))) K0 0 ac_int rfl rfl trivial (fun _ => rfl) (by decide) (by decide) (by decide) (by omega) (by omega) rfl rfl dX3_init_23 (fun nu => ?_)
  show X φ 3 120 (c0 :: c1 :: c2 :: (th, .inr (3, [.null, .ref ki, .ref el, .null, .int 0, .long 0, .null, .null])) :: (ki, aI g 40 (fun _ => 0)) :: (el, aI g 40 (fun _ => 0)) :: (nu, aI g 40 (fun _ => 0)) :: []) [(0, .ref th), (1, .ref pl)] 25 [.ref nu, .ref th]
  refine X_putF (w' := (c0 :: c1 :: c2 :: (th, .inr (3, [.null, .ref ki, .ref el, .ref nu, .int 0, .long 0, .null, .null])) :: (ki, aI g 40 (fun _ => 0)) :: (el, aI g 40 (fun _ => 0)) :: (nu, aI g 40 (fun _ => 0)) :: [])) K0 3 rfl rfl hin3 tyX3 tyX3_ok nmX3 3 (by decide) fl_RX3_18 rfl rfl rfl (tyX3_ok 3 (by decide)) rfl rfl (Nat.le_of_ble_eq_true rfl) dX3_init_25 rfl ?_
  refine X_aload_n K0 0 dX3_init_28 rfl rfl ?_
  refine X_bipush (v := 12) K0 dX3_init_29 (by decide) ?_
  refine X_newa (N' := 12) (a0 := (12, .inr (.inl (fun _ => 0)))) K0 1 ac_long rfl rfl trivial (fun _ => rfl) (by decide) (by decide) (by decide) (by omega) (by omega) rfl rfl dX3_init_31 (fun wa => ?_)
  show X φ 4 132 (c0 :: c1 :: c2 :: (th, .inr (3, [.null, .ref ki, .ref el, .ref nu, .int 0, .long 0, .null, .null])) :: (ki, aI g 40 (fun _ => 0)) :: (el, aI g 40 (fun _ => 0)) :: (nu, aI g 40 (fun _ => 0)) :: (wa, aJ g 12 (fun _ => 0)) :: []) [(0, .ref th), (1, .ref pl)] 33 [.ref wa, .ref th]
  refine X_putF (w' := (c0 :: c1 :: c2 :: (th, .inr (3, [.null, .ref ki, .ref el, .ref nu, .int 0, .long 0, .ref wa, .null])) :: (ki, aI g 40 (fun _ => 0)) :: (el, aI g 40 (fun _ => 0)) :: (nu, aI g 40 (fun _ => 0)) :: (wa, aJ g 12 (fun _ => 0)) :: [])) K0 3 rfl rfl hin3 tyX3 tyX3_ok nmX3 6 (by decide) fl_RX3_21 rfl rfl rfl (tyX3_ok 6 (by decide)) rfl rfl (Nat.le_of_ble_eq_true rfl) dX3_init_33 rfl ?_
  refine X_aload_n K0 0 dX3_init_36 rfl rfl ?_
  refine X_bipush (v := 12) K0 dX3_init_37 (by decide) ?_
  refine X_newa (N' := 12) (a0 := (12, .inr (.inl (fun _ => 0)))) K0 1 ac_long rfl rfl trivial (fun _ => rfl) (by decide) (by decide) (by decide) (by omega) (by omega) rfl rfl dX3_init_39 (fun wo => ?_)
  show X φ 5 144 (c0 :: c1 :: c2 :: (th, .inr (3, [.null, .ref ki, .ref el, .ref nu, .int 0, .long 0, .ref wa, .null])) :: (ki, aI g 40 (fun _ => 0)) :: (el, aI g 40 (fun _ => 0)) :: (nu, aI g 40 (fun _ => 0)) :: (wa, aJ g 12 (fun _ => 0)) :: (wo, aJ g 12 (fun _ => 0)) :: []) [(0, .ref th), (1, .ref pl)] 41 [.ref wo, .ref th]
  refine X_putF (w' := (c0 :: c1 :: c2 :: (th, .inr (3, [.null, .ref ki, .ref el, .ref nu, .int 0, .long 0, .ref wa, .ref wo])) :: (ki, aI g 40 (fun _ => 0)) :: (el, aI g 40 (fun _ => 0)) :: (nu, aI g 40 (fun _ => 0)) :: (wa, aJ g 12 (fun _ => 0)) :: (wo, aJ g 12 (fun _ => 0)) :: [])) K0 3 rfl rfl hin3 tyX3 tyX3_ok nmX3 7 (by decide) fl_RX3_25 rfl rfl rfl (tyX3_ok 7 (by decide)) rfl rfl (Nat.le_of_ble_eq_true rfl) dX3_init_41 rfl ?_
  refine X_aload_n K0 0 dX3_init_44 rfl rfl ?_
  refine X_aload_n K0 1 dX3_init_45 rfl rfl ?_
  refine X_putF (w' := (c0 :: c1 :: c2 :: (th, oThings pl ki el nu 0 0 wa wo) :: (ki, aI g 40 (fun _ => 0)) :: (el, aI g 40 (fun _ => 0)) :: (nu, aI g 40 (fun _ => 0)) :: (wa, aJ g 12 (fun _ => 0)) :: (wo, aJ g 12 (fun _ => 0)) :: [])) K0 3 rfl rfl hin3 tyX3 tyX3_ok nmX3 0 (by decide) fl_RX3_28 rfl rfl rfl (tyX3_ok 0 (by decide)) rfl rfl (Nat.le_of_ble_eq_true rfl) dX3_init_46 rfl ?_
  exact hr _ _ _ ⟨rfl, ki, el, nu, wa, wo, rfl⟩ dX3_init_49

set_option maxRecDepth 20000 in
set_option maxHeartbeats 400000 in
theorem c_Main_init (g : Gx) (o : Nat) : Con g yX4_init cX4_init 1 none 4 90 11 213 [.ref o] ((o, .inr (4, [.null, .null, .null, .null, .null, .long 0, .int 0])) :: []) (fun v w' => v = none ∧ ∃ pl sl th ki el nu wa wo pg ga sh : Nat, ((o, oMain pl th pg ga sh 0 0) :: (pl, oPlan (nI 2) (nI 2) (bI false) (nI (plF 2 2 false (fun _ => 0)).2) (coF 2 2 2) (coF 2 (2 - 1) 2) (coF 2 2 (2 - 1)) sl) :: (sl, aI g 40 (plF 2 2 false (fun _ => 0)).1) :: (th, oThings pl ki el nu (nI (ctF (fiF (fun _ => 0) 1 40) (plF 2 2 false (fun _ => 0)).2)) (seA (fiF (fun _ => 0) 1 40) (plF 2 2 false (fun _ => 0)).1 (plF 2 2 false (fun _ => 0)).2) wa wo) :: (ki, aI g 40 (fiF (fun _ => 0) 1 40)) :: (el, aI g 40 (fiF (fun _ => 0) (-9) 40)) :: (nu, aI g 40 (nuF (fiF (fun _ => 0) 1 40) (fun _ => 0) (plF 2 2 false (fun _ => 0)).2)) :: (wa, aJ g 12 (seW (fiF (fun _ => 0) 1 40) (fiF (fun _ => 0) (-9) 40) (nuF (fiF (fun _ => 0) 1 40) (fun _ => 0) (plF 2 2 false (fun _ => 0)).2) (plF 2 2 false (fun _ => 0)).1 (fiF (fun _ => 0) 0 12) (plF 2 2 false (fun _ => 0)).2)) :: (wo, aJ g 12 (seO (fiF (fun _ => 0) 1 40) (fiF (fun _ => 0) (-9) 40) (nuF (fiF (fun _ => 0) 1 40) (fun _ => 0) (plF 2 2 false (fun _ => 0)).2) (plF 2 2 false (fun _ => 0)).1 (fiF (fun _ => 0) 0 12) (plF 2 2 false (fun _ => 0)).2)) :: (pg, oGrid (nI 2) (nI 2) 0 0 0) :: (ga, oGrid 0 0 0 0 0) :: (sh, aS g 3 (fun _ => none)) :: []) = w') := by
  refine Con.ofV (by decide +kernel) (Nat.le_of_ble_eq_true rfl) (fun φ K0 hr => ?_)
  show X φ 0 0 ((o, .inr (4, [.null, .null, .null, .null, .null, .long 0, .int 0])) :: []) [(0, .ref o)] 0 []
  refine X_aload_n K0 0 dX4_init_0 rfl rfl ?_
  refine X_objInit K0 ml_RX4_1 (by decide) (Nat.le_of_ble_eq_true rfl) im_objectInit co_objectInit dX4_init_1 ?_
  refine X_aload_n K0 0 dX4_init_4 rfl rfl ?_
  refine X_new (ci := 1) (N := 8) (fs := [.int 0, .int 0, .int 0, .int 0, .int 0, .int 0, .int 0, .null]) K0 hin1 tyX1 tyX1_ok rfl cl_RX4_7 in_RX1 it_RX1 (fun j hj => by rcases (show j = 0 ∨ j = 1 ∨ j = 2 ∨ j = 3 ∨ j = 4 ∨ j = 5 ∨ j = 6 ∨ j = 7 by omega) with rfl | rfl | rfl | rfl | rfl | rfl | rfl | rfl <;> rfl) (by omega) (by omega) rfl rfl dX4_init_5 (fun pl => ?_)
  show X φ 1 8 ((o, .inr (4, [.null, .null, .null, .null, .null, .long 0, .int 0])) :: (pl, .inr (1, [.int 0, .int 0, .int 0, .int 0, .int 0, .int 0, .int 0, .null])) :: []) [(0, .ref o)] 8 [.ref pl, .ref o]
  refine X_dup K0 dX4_init_8 rfl ?_
  refine X_callIN (As := []) (rest := [.ref pl, .ref o]) K0 (c_Plan_init g (o, .inr (4, [.null, .null, .null, .null, .null, .long 0, .int 0])) pl) mc_X1_init rfl nl_RX4_9 rfl (Nat.le_of_ble_eq_true rfl) (by decide) ⟨Nat.le_of_ble_eq_true rfl, Nat.le_of_ble_eq_true rfl⟩ rfl rfl dX4_init_9 ?_
  intro v w' hr'; obtain ⟨rfl, sl, rfl⟩ := hr'
  show X φ 2 48 ((o, .inr (4, [.null, .null, .null, .null, .null, .long 0, .int 0])) :: (pl, oPlan 0 0 0 0 0 0 0 sl) :: (sl, aI g 40 (fun _ => 0)) :: []) [(0, .ref o)] 12 [.ref pl, .ref o]
  refine X_putF (w' := ((o, .inr (4, [.ref pl, .null, .null, .null, .null, .long 0, .int 0])) :: (pl, oPlan 0 0 0 0 0 0 0 sl) :: (sl, aI g 40 (fun _ => 0)) :: [])) K0 0 rfl rfl hin4 tyX4 tyX4_ok nmX4 0 (by decide) fl_RX4_10 rfl rfl rfl (tyX4_ok 0 (by decide)) rfl rfl (Nat.le_of_ble_eq_true rfl) dX4_init_12 rfl ?_
  refine X_aload_n K0 0 dX4_init_15 rfl rfl ?_
  refine X_new (ci := 3) (N := 8) (fs := [.null, .null, .null, .null, .int 0, .long 0, .null, .null]) K0 hin3 tyX3 tyX3_ok rfl cl_RX4_16 in_RX3 it_RX3 (fun j hj => by rcases (show j = 0 ∨ j = 1 ∨ j = 2 ∨ j = 3 ∨ j = 4 ∨ j = 5 ∨ j = 6 ∨ j = 7 by omega) with rfl | rfl | rfl | rfl | rfl | rfl | rfl | rfl <;> rfl) (by omega) (by omega) rfl rfl dX4_init_16 (fun th => ?_)
  show X φ 3 56 ((o, .inr (4, [.ref pl, .null, .null, .null, .null, .long 0, .int 0])) :: (pl, oPlan 0 0 0 0 0 0 0 sl) :: (sl, aI g 40 (fun _ => 0)) :: (th, .inr (3, [.null, .null, .null, .null, .int 0, .long 0, .null, .null])) :: []) [(0, .ref o)] 19 [.ref th, .ref o]
  refine X_dup K0 dX4_init_19 rfl ?_
  refine X_aload_n K0 0 dX4_init_20 rfl rfl ?_
  refine X_get K0 0 rfl rfl hin4 0 (by decide) fl_RX4_10 rfl dX4_init_21 ?_
  refine X_callI (As := [.ref pl]) (rest := [.ref th, .ref o]) K0 (c_Things_init g (o, .inr (4, [.ref pl, .null, .null, .null, .null, .long 0, .int 0])) (pl, oPlan 0 0 0 0 0 0 0 sl) (sl, aI g 40 (fun _ => 0)) th pl) mc_X3_init rfl ml_RX4_18 rfl (Nat.le_of_ble_eq_true rfl) (by decide) ⟨Nat.le_of_ble_eq_true rfl, Nat.le_of_ble_eq_true rfl⟩ rfl rfl dX4_init_24 ?_
  intro v w' hr'; obtain ⟨rfl, ki, el, nu, wa, wo, rfl⟩ := hr'
  show X φ 8 200 ((o, .inr (4, [.ref pl, .null, .null, .null, .null, .long 0, .int 0])) :: (pl, oPlan 0 0 0 0 0 0 0 sl) :: (sl, aI g 40 (fun _ => 0)) :: (th, oThings pl ki el nu 0 0 wa wo) :: (ki, aI g 40 (fun _ => 0)) :: (el, aI g 40 (fun _ => 0)) :: (nu, aI g 40 (fun _ => 0)) :: (wa, aJ g 12 (fun _ => 0)) :: (wo, aJ g 12 (fun _ => 0)) :: []) [(0, .ref o)] 27 [.ref th, .ref o]
  refine X_putF (w' := ((o, .inr (4, [.ref pl, .ref th, .null, .null, .null, .long 0, .int 0])) :: (pl, oPlan 0 0 0 0 0 0 0 sl) :: (sl, aI g 40 (fun _ => 0)) :: (th, oThings pl ki el nu 0 0 wa wo) :: (ki, aI g 40 (fun _ => 0)) :: (el, aI g 40 (fun _ => 0)) :: (nu, aI g 40 (fun _ => 0)) :: (wa, aJ g 12 (fun _ => 0)) :: (wo, aJ g 12 (fun _ => 0)) :: [])) K0 0 rfl rfl hin4 tyX4 tyX4_ok nmX4 1 (by decide) fl_RX4_21 rfl rfl rfl (tyX4_ok 1 (by decide)) rfl rfl (Nat.le_of_ble_eq_true rfl) dX4_init_27 rfl ?_
  refine X_aload_n K0 0 dX4_init_30 rfl rfl ?_
  refine X_new (ci := 0) (N := 5) (fs := [.int 0, .int 0, .int 0, .int 0, .int 0]) K0 hin0 tyX0 tyX0_ok rfl cl_RX4_25 in_RX0 it_RX0 (fun j hj => by rcases (show j = 0 ∨ j = 1 ∨ j = 2 ∨ j = 3 ∨ j = 4 by omega) with rfl | rfl | rfl | rfl | rfl <;> rfl) (by omega) (by omega) rfl rfl dX4_init_31 (fun pg => ?_)
  show X φ 9 205 ((o, .inr (4, [.ref pl, .ref th, .null, .null, .null, .long 0, .int 0])) :: (pl, oPlan 0 0 0 0 0 0 0 sl) :: (sl, aI g 40 (fun _ => 0)) :: (th, oThings pl ki el nu 0 0 wa wo) :: (ki, aI g 40 (fun _ => 0)) :: (el, aI g 40 (fun _ => 0)) :: (nu, aI g 40 (fun _ => 0)) :: (wa, aJ g 12 (fun _ => 0)) :: (wo, aJ g 12 (fun _ => 0)) :: (pg, oGrid 0 0 0 0 0) :: []) [(0, .ref o)] 34 [.ref pg, .ref o]
  refine X_dup K0 dX4_init_34 rfl ?_
  refine X_callIN (As := []) (rest := [.ref pg, .ref o]) K0 (c_Grid_init g ((o, .inr (4, [.ref pl, .ref th, .null, .null, .null, .long 0, .int 0])) :: (pl, oPlan 0 0 0 0 0 0 0 sl) :: (sl, aI g 40 (fun _ => 0)) :: (th, oThings pl ki el nu 0 0 wa wo) :: (ki, aI g 40 (fun _ => 0)) :: (el, aI g 40 (fun _ => 0)) :: (nu, aI g 40 (fun _ => 0)) :: (wa, aJ g 12 (fun _ => 0)) :: (wo, aJ g 12 (fun _ => 0)) :: (pg, oGrid 0 0 0 0 0) :: []) pg) mc_X0_init rfl nl_RX4_27 rfl (Nat.le_of_ble_eq_true rfl) (by decide) ⟨Nat.le_of_ble_eq_true rfl, Nat.le_of_ble_eq_true rfl⟩ rfl rfl dX4_init_35 ?_
  intro v w' hr'; obtain ⟨rfl, rfl⟩ := hr'
  show X φ 9 205 ((o, .inr (4, [.ref pl, .ref th, .null, .null, .null, .long 0, .int 0])) :: (pl, oPlan 0 0 0 0 0 0 0 sl) :: (sl, aI g 40 (fun _ => 0)) :: (th, oThings pl ki el nu 0 0 wa wo) :: (ki, aI g 40 (fun _ => 0)) :: (el, aI g 40 (fun _ => 0)) :: (nu, aI g 40 (fun _ => 0)) :: (wa, aJ g 12 (fun _ => 0)) :: (wo, aJ g 12 (fun _ => 0)) :: (pg, oGrid 0 0 0 0 0) :: []) [(0, .ref o)] 38 [.ref pg, .ref o]
  refine X_putF (w' := ((o, .inr (4, [.ref pl, .ref th, .ref pg, .null, .null, .long 0, .int 0])) :: (pl, oPlan 0 0 0 0 0 0 0 sl) :: (sl, aI g 40 (fun _ => 0)) :: (th, oThings pl ki el nu 0 0 wa wo) :: (ki, aI g 40 (fun _ => 0)) :: (el, aI g 40 (fun _ => 0)) :: (nu, aI g 40 (fun _ => 0)) :: (wa, aJ g 12 (fun _ => 0)) :: (wo, aJ g 12 (fun _ => 0)) :: (pg, oGrid 0 0 0 0 0) :: [])) K0 0 rfl rfl hin4 tyX4 tyX4_ok nmX4 2 (by decide) fl_RX4_28 rfl rfl rfl (tyX4_ok 2 (by decide)) rfl rfl (Nat.le_of_ble_eq_true rfl) dX4_init_38 rfl ?_
  refine X_aload_n K0 0 dX4_init_41 rfl rfl ?_
  refine X_new (ci := 0) (N := 5) (fs := [.int 0, .int 0, .int 0, .int 0, .int 0]) K0 hin0 tyX0 tyX0_ok rfl cl_RX4_25 in_RX0 it_RX0 (fun j hj => by rcases (show j = 0 ∨ j = 1 ∨ j = 2 ∨ j = 3 ∨ j = 4 by omega) with rfl | rfl | rfl | rfl | rfl <;> rfl) (by omega) (by omega) rfl rfl dX4_init_42 (fun ga => ?_)
  show X φ 10 210 ((o, .inr (4, [.ref pl, .ref th, .ref pg, .null, .null, .long 0, .int 0])) :: (pl, oPlan 0 0 0 0 0 0 0 sl) :: (sl, aI g 40 (fun _ => 0)) :: (th, oThings pl ki el nu 0 0 wa wo) :: (ki, aI g 40 (fun _ => 0)) :: (el, aI g 40 (fun _ => 0)) :: (nu, aI g 40 (fun _ => 0)) :: (wa, aJ g 12 (fun _ => 0)) :: (wo, aJ g 12 (fun _ => 0)) :: (pg, oGrid 0 0 0 0 0) :: (ga, oGrid 0 0 0 0 0) :: []) [(0, .ref o)] 45 [.ref ga, .ref o]
  refine X_dup K0 dX4_init_45 rfl ?_
  refine X_callIN (As := []) (rest := [.ref ga, .ref o]) K0 (c_Grid_init g ((o, .inr (4, [.ref pl, .ref th, .ref pg, .null, .null, .long 0, .int 0])) :: (pl, oPlan 0 0 0 0 0 0 0 sl) :: (sl, aI g 40 (fun _ => 0)) :: (th, oThings pl ki el nu 0 0 wa wo) :: (ki, aI g 40 (fun _ => 0)) :: (el, aI g 40 (fun _ => 0)) :: (nu, aI g 40 (fun _ => 0)) :: (wa, aJ g 12 (fun _ => 0)) :: (wo, aJ g 12 (fun _ => 0)) :: (pg, oGrid 0 0 0 0 0) :: (ga, oGrid 0 0 0 0 0) :: []) ga) mc_X0_init rfl nl_RX4_27 rfl (Nat.le_of_ble_eq_true rfl) (by decide) ⟨Nat.le_of_ble_eq_true rfl, Nat.le_of_ble_eq_true rfl⟩ rfl rfl dX4_init_46 ?_
  intro v w' hr'; obtain ⟨rfl, rfl⟩ := hr'
  show X φ 10 210 ((o, .inr (4, [.ref pl, .ref th, .ref pg, .null, .null, .long 0, .int 0])) :: (pl, oPlan 0 0 0 0 0 0 0 sl) :: (sl, aI g 40 (fun _ => 0)) :: (th, oThings pl ki el nu 0 0 wa wo) :: (ki, aI g 40 (fun _ => 0)) :: (el, aI g 40 (fun _ => 0)) :: (nu, aI g 40 (fun _ => 0)) :: (wa, aJ g 12 (fun _ => 0)) :: (wo, aJ g 12 (fun _ => 0)) :: (pg, oGrid 0 0 0 0 0) :: (ga, oGrid 0 0 0 0 0) :: []) [(0, .ref o)] 49 [.ref ga, .ref o]
  refine X_putF (w' := ((o, .inr (4, [.ref pl, .ref th, .ref pg, .ref ga, .null, .long 0, .int 0])) :: (pl, oPlan 0 0 0 0 0 0 0 sl) :: (sl, aI g 40 (fun _ => 0)) :: (th, oThings pl ki el nu 0 0 wa wo) :: (ki, aI g 40 (fun _ => 0)) :: (el, aI g 40 (fun _ => 0)) :: (nu, aI g 40 (fun _ => 0)) :: (wa, aJ g 12 (fun _ => 0)) :: (wo, aJ g 12 (fun _ => 0)) :: (pg, oGrid 0 0 0 0 0) :: (ga, oGrid 0 0 0 0 0) :: [])) K0 0 rfl rfl hin4 tyX4 tyX4_ok nmX4 3 (by decide) fl_RX4_32 rfl rfl rfl (tyX4_ok 3 (by decide)) rfl rfl (Nat.le_of_ble_eq_true rfl) dX4_init_49 rfl ?_
  refine X_aload_n K0 0 dX4_init_52 rfl rfl ?_
  refine X_iconst (v := 3) K0 dX4_init_53 (by decide) ?_
  refine X_snew (N := 3) K0 (by decide) cl_RX4_35 (by omega) (by omega) rfl rfl dX4_init_54 (fun sh => ?_)
  show X φ 11 213 ((o, .inr (4, [.ref pl, .ref th, .ref pg, .ref ga, .null, .long 0, .int 0])) :: (pl, oPlan 0 0 0 0 0 0 0 sl) :: (sl, aI g 40 (fun _ => 0)) :: (th, oThings pl ki el nu 0 0 wa wo) :: (ki, aI g 40 (fun _ => 0)) :: (el, aI g 40 (fun _ => 0)) :: (nu, aI g 40 (fun _ => 0)) :: (wa, aJ g 12 (fun _ => 0)) :: (wo, aJ g 12 (fun _ => 0)) :: (pg, oGrid 0 0 0 0 0) :: (ga, oGrid 0 0 0 0 0) :: (sh, aS g 3 (fun _ => none)) :: []) [(0, .ref o)] 57 [.ref sh, .ref o]
  refine X_putF (w' := ((o, oMain pl th pg ga sh 0 0) :: (pl, oPlan 0 0 0 0 0 0 0 sl) :: (sl, aI g 40 (fun _ => 0)) :: (th, oThings pl ki el nu 0 0 wa wo) :: (ki, aI g 40 (fun _ => 0)) :: (el, aI g 40 (fun _ => 0)) :: (nu, aI g 40 (fun _ => 0)) :: (wa, aJ g 12 (fun _ => 0)) :: (wo, aJ g 12 (fun _ => 0)) :: (pg, oGrid 0 0 0 0 0) :: (ga, oGrid 0 0 0 0 0) :: (sh, aS g 3 (fun _ => none)) :: [])) K0 0 rfl rfl hin4 tyX4 tyX4_ok nmX4 4 (by decide) fl_RX4_37 rfl rfl rfl (tyX4_ok 4 (by decide)) rfl rfl (Nat.le_of_ble_eq_true rfl) dX4_init_57 rfl ?_
  refine X_aload_n K0 0 dX4_init_60 rfl rfl ?_
  refine X_lconst (v := 0) K0 dX4_init_61 (by decide) ?_
  refine X_put (w' := ((o, oMain pl th pg ga sh 0 0) :: (pl, oPlan 0 0 0 0 0 0 0 sl) :: (sl, aI g 40 (fun _ => 0)) :: (th, oThings pl ki el nu 0 0 wa wo) :: (ki, aI g 40 (fun _ => 0)) :: (el, aI g 40 (fun _ => 0)) :: (nu, aI g 40 (fun _ => 0)) :: (wa, aJ g 12 (fun _ => 0)) :: (wo, aJ g 12 (fun _ => 0)) :: (pg, oGrid 0 0 0 0 0) :: (ga, oGrid 0 0 0 0 0) :: (sh, aS g 3 (fun _ => none)) :: [])) K0 0 rfl rfl hin4 tyX4 tyX4_ok nmX4 5 (by decide) fl_RX4_41 rfl (tyX4_ok 5 (by decide)) rfl rfl (Nat.le_of_ble_eq_true rfl) dX4_init_62 rfl ?_
  refine X_aload_n K0 0 dX4_init_65 rfl rfl ?_
  refine X_iconst (v := 0) K0 dX4_init_66 (by decide) ?_
  refine X_put (w' := ((o, oMain pl th pg ga sh 0 0) :: (pl, oPlan 0 0 0 0 0 0 0 sl) :: (sl, aI g 40 (fun _ => 0)) :: (th, oThings pl ki el nu 0 0 wa wo) :: (ki, aI g 40 (fun _ => 0)) :: (el, aI g 40 (fun _ => 0)) :: (nu, aI g 40 (fun _ => 0)) :: (wa, aJ g 12 (fun _ => 0)) :: (wo, aJ g 12 (fun _ => 0)) :: (pg, oGrid 0 0 0 0 0) :: (ga, oGrid 0 0 0 0 0) :: (sh, aS g 3 (fun _ => none)) :: [])) K0 0 rfl rfl hin4 tyX4 tyX4_ok nmX4 6 (by decide) fl_RX4_45 rfl (tyX4_ok 6 (by decide)) rfl rfl (Nat.le_of_ble_eq_true rfl) dX4_init_67 rfl ?_
  show X φ 11 213 ((o, oMain pl th pg ga sh 0 0) :: (pl, oPlan (nI 0) (nI 0) (bI false) (nI 0) 0 0 0 sl) :: (sl, aI g 40 (fun _ => 0)) :: (th, oThings pl ki el nu (nI 0) 0 wa wo) :: (ki, aI g 40 (fun _ => 0)) :: (el, aI g 40 (fun _ => 0)) :: (nu, aI g 40 (fun _ => 0)) :: (wa, aJ g 12 (fun _ => 0)) :: (wo, aJ g 12 (fun _ => 0)) :: (pg, oGrid (nI 0) (nI 0) 0 0 0) :: (ga, oGrid 0 0 0 0 0) :: (sh, aS g 3 (fun _ => none)) :: []) [(0, .ref o)] 70 []
  refine X_aload_n K0 0 dX4_init_70 rfl rfl ?_
  refine X_iconst (v := 2) K0 dX4_init_71 (by decide) ?_
  refine X_iconst (v := 2) K0 dX4_init_72 (by decide) ?_
  refine X_iconst (v := 0) K0 dX4_init_73 (by decide) ?_
  show X φ 11 213 ((o, oMain pl th pg ga sh 0 0) :: (pl, oPlan (nI 0) (nI 0) (bI false) (nI 0) 0 0 0 sl) :: (sl, aI g 40 (fun _ => 0)) :: (th, oThings pl ki el nu (nI 0) 0 wa wo) :: (ki, aI g 40 (fun _ => 0)) :: (el, aI g 40 (fun _ => 0)) :: (nu, aI g 40 (fun _ => 0)) :: (wa, aJ g 12 (fun _ => 0)) :: (wo, aJ g 12 (fun _ => 0)) :: (pg, oGrid (nI 0) (nI 0) 0 0 0) :: (ga, oGrid 0 0 0 0 0) :: (sh, aS g 3 (fun _ => none)) :: []) [(0, .ref o)] 74 [.int (bI false), .int (nI 2), .int (nI 2), .ref o]
  refine X_callV (As := [.int (nI 2), .int (nI 2), .int (bI false)]) (rest := []) K0 0 (c_layGround g o pl sl th ki el nu wa wo pg ga sh 0 0 false 0 (fun _ => 0) 0 0 0 0 0 (fun _ => 0) (fun _ => 0) (fun _ => 0) (fun _ => 0) (fun _ => 0) (0, 0, 0) (0, 0, 0, 0, 0) (fun _ => none) 0 0 [] 2 2 false (by decide) (by decide)) mi_X4_layGround rfl rfl rfl ml_RX4_49 rfl (Nat.le_of_ble_eq_true rfl) (by decide) ⟨Nat.le_of_ble_eq_true rfl, Nat.le_of_ble_eq_true rfl⟩ rfl rfl dX4_init_74 ?_
  intro v w' hr'; obtain ⟨rfl, rfl⟩ := hr'
  show X φ 11 213 ((o, oMain pl th pg ga sh 0 0) :: (pl, oPlan (nI 2) (nI 2) (bI false) (nI (plF 2 2 false (fun _ => 0)).2) (coF 2 2 2) (coF 2 (2 - 1) 2) (coF 2 2 (2 - 1)) sl) :: (sl, aI g 40 (plF 2 2 false (fun _ => 0)).1) :: (th, oThings pl ki el nu (nI (ctF (fiF (fun _ => 0) 1 40) (plF 2 2 false (fun _ => 0)).2)) (seA (fiF (fun _ => 0) 1 40) (plF 2 2 false (fun _ => 0)).1 (plF 2 2 false (fun _ => 0)).2) wa wo) :: (ki, aI g 40 (fiF (fun _ => 0) 1 40)) :: (el, aI g 40 (fiF (fun _ => 0) (-9) 40)) :: (nu, aI g 40 (nuF (fiF (fun _ => 0) 1 40) (fun _ => 0) (plF 2 2 false (fun _ => 0)).2)) :: (wa, aJ g 12 (seW (fiF (fun _ => 0) 1 40) (fiF (fun _ => 0) (-9) 40) (nuF (fiF (fun _ => 0) 1 40) (fun _ => 0) (plF 2 2 false (fun _ => 0)).2) (plF 2 2 false (fun _ => 0)).1 (fiF (fun _ => 0) 0 12) (plF 2 2 false (fun _ => 0)).2)) :: (wo, aJ g 12 (seO (fiF (fun _ => 0) 1 40) (fiF (fun _ => 0) (-9) 40) (nuF (fiF (fun _ => 0) 1 40) (fun _ => 0) (plF 2 2 false (fun _ => 0)).2) (plF 2 2 false (fun _ => 0)).1 (fiF (fun _ => 0) 0 12) (plF 2 2 false (fun _ => 0)).2)) :: (pg, oGrid (nI 2) (nI 2) 0 0 0) :: (ga, oGrid 0 0 0 0 0) :: (sh, aS g 3 (fun _ => none)) :: []) [(0, .ref o)] 77 []
  exact hr _ _ _ ⟨rfl, pl, sl, th, ki, el, nu, wa, wo, pg, ga, sh, rfl⟩ dX4_init_77
