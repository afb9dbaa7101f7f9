set_option maxRecDepth 20000 in
set_option maxHeartbeats 400000 in
theorem c_opens (g : Gx) (o pl sl th ki el nu wa wo pg ga sh : Nat) (R C : Nat) (op : Bool) (T : Nat) (slots : Nat → Int32) (ap rr rd : Int32) (m : Nat) (al : Int64) (kinds elders numbers : Nat → Int32) (waf wof : Nat → Int64) (sp : Int32 × Int32 × Int32) (sg : Int32 × Int32 × Int32 × Int32 × Int32) (shf : Nat → Option Nat) (asked : Int64) (fi : Int32) (rest : va_W) (hR : 1 ≤ R ∧ R ≤ 5) (hC : 1 ≤ C ∧ C ≤ 5) (hT : T ≤ 40) (hm : m ≤ 12) (hKI : KI T kinds elders) (qB : Nat) (x se : Int32) : ConB g yX4_opens cX4_opens 3 (some .int) 2 45 0 0 [.ref o, .int x, .int se] ((o, oMain pl th pg ga sh asked fi) :: (pl, oPlan (nI R) (nI C) (bI op) (nI T) ap rr rd sl) :: (sl, aI g 40 slots) :: (th, oThings pl ki el nu (nI m) al wa wo) :: (ki, aI g 40 kinds) :: (el, aI g 40 elders) :: (nu, aI g 40 numbers) :: (wa, aJ g 12 waf) :: (wo, aJ g 12 wof) :: (pg, oGrid (nI R) (nI C) sp.1 sp.2.1 sp.2.2) :: (ga, oGrid sg.1 sg.2.1 sg.2.2.1 sg.2.2.2.1 sg.2.2.2.2) :: (sh, aS g 3 shf) :: rest) qB (fun v w' => ((wiB x 0 (nI T - 1) && wiB se 0 (nI (2 ^ m) - 1)) = false ∧ v = some (.int (-1)) ∧ ((o, oMain pl th pg ga sh asked fi) :: (pl, oPlan (nI R) (nI C) (bI op) (nI T) ap rr rd sl) :: (sl, aI g 40 slots) :: (th, oThings pl ki el nu (nI m) al wa wo) :: (ki, aI g 40 kinds) :: (el, aI g 40 elders) :: (nu, aI g 40 numbers) :: (wa, aJ g 12 waf) :: (wo, aJ g 12 wof) :: (pg, oGrid (nI R) (nI C) sp.1 sp.2.1 sp.2.2) :: (ga, oGrid sg.1 sg.2.1 sg.2.2.1 sg.2.2.2.1 sg.2.2.2.2) :: (sh, aS g 3 shf) :: rest) = w') ∨ (∃ j, j < T ∧ x = nI j ∧ wiB se 0 (nI (2 ^ m) - 1) = true ∧ v = some (.int (lush (opF al waf wof se m) (slots j) &&& 1).toInt32) ∧ ((o, oMain pl th pg ga sh (asked + trM (kinds j)) fi) :: (pl, oPlan (nI R) (nI C) (bI op) (nI T) ap rr rd sl) :: (sl, aI g 40 slots) :: (th, oThings pl ki el nu (nI m) al wa wo) :: (ki, aI g 40 kinds) :: (el, aI g 40 elders) :: (nu, aI g 40 numbers) :: (wa, aJ g 12 waf) :: (wo, aJ g 12 wof) :: (pg, oGrid (nI R) (nI C) sp.1 sp.2.1 sp.2.2) :: (ga, oGrid sg.1 sg.2.1 sg.2.2.1 sg.2.2.2.1 sg.2.2.2.2) :: (sh, aS g 3 shf) :: rest) = w')) := by
  refine ConB.ofI (by decide +kernel) (Nat.le_of_ble_eq_true rfl) (fun φ K0 hB hr => ?_)
  show X φ 0 0 ((o, oMain pl th pg ga sh asked fi) :: (pl, oPlan (nI R) (nI C) (bI op) (nI T) ap rr rd sl) :: (sl, aI g 40 slots) :: (th, oThings pl ki el nu (nI m) al wa wo) :: (ki, aI g 40 kinds) :: (el, aI g 40 elders) :: (nu, aI g 40 numbers) :: (wa, aJ g 12 waf) :: (wo, aJ g 12 wof) :: (pg, oGrid (nI R) (nI C) sp.1 sp.2.1 sp.2.2) :: (ga, oGrid sg.1 sg.2.1 sg.2.2.1 sg.2.2.2.1 sg.2.2.2.2) :: (sh, aS g 3 shf) :: rest) [(0, .ref o), (1, .int x), (2, .int se)] 0 []
  refine X_aload_n K0 0 dX4_opens_0 rfl rfl ?_
  refine X_iload_n K0 1 dX4_opens_1 rfl rfl ?_
  refine X_callV (As := [.int x]) (rest := []) K0 0 (c_isThing g o pl sl th ki el nu wa wo pg ga sh R C op T slots ap rr rd m al kinds elders numbers waf wof sp sg shf asked fi rest hR hC hT hm x) mi_X4_isThing rfl rfl rfl ml_RX4_59 rfl (Nat.le_of_ble_eq_true rfl) (by decide) ⟨Nat.le_of_ble_eq_true rfl, Nat.le_of_ble_eq_true rfl⟩ rfl rfl dX4_opens_2 ?_
  intro v w' hr'; obtain ⟨rfl, rfl⟩ := hr'
  show X φ 0 0 ((o, oMain pl th pg ga sh asked fi) :: (pl, oPlan (nI R) (nI C) (bI op) (nI T) ap rr rd sl) :: (sl, aI g 40 slots) :: (th, oThings pl ki el nu (nI m) al wa wo) :: (ki, aI g 40 kinds) :: (el, aI g 40 elders) :: (nu, aI g 40 numbers) :: (wa, aJ g 12 waf) :: (wo, aJ g 12 wof) :: (pg, oGrid (nI R) (nI C) sp.1 sp.2.1 sp.2.2) :: (ga, oGrid sg.1 sg.2.1 sg.2.2.1 sg.2.2.2.1 sg.2.2.2.2) :: (sh, aS g 3 shf) :: rest) [(0, .ref o), (1, .int x), (2, .int se)] 5 [.int (bI (wiB x 0 ((nI T) - 1)))]
  refine X_if_eq K0 16 dX4_opens_5 (by decide) (fun h5 => ?_) (fun h5 => ?_)
  · refine X_iconst (v := (-1)) K0 dX4_opens_16 (by decide) ?_
    exact hr _ _ _ _ (Or.inl ⟨by first | exact p_n (bI_0.mp h5) | exact p_yn (bI_n0.mp h5) (bI_0.mp h13), rfl, rfl⟩) dX4_opens_17
  · refine X_aload_n K0 0 dX4_opens_8 rfl rfl ?_
    refine X_iload_n K0 2 dX4_opens_9 rfl rfl ?_
    refine X_callV (As := [.int se]) (rest := []) K0 0 (c_isSetting g o pl sl th ki el nu wa wo pg ga sh R C op T slots ap rr rd m al kinds elders numbers waf wof sp sg shf asked fi rest hR hC hT hm se) mi_X4_isSetting rfl rfl rfl ml_RX4_108 rfl (Nat.le_of_ble_eq_true rfl) (by decide) ⟨Nat.le_of_ble_eq_true rfl, Nat.le_of_ble_eq_true rfl⟩ rfl rfl dX4_opens_10 ?_
    intro v w' hr'; obtain ⟨rfl, rfl⟩ := hr'
    show X φ 0 0 ((o, oMain pl th pg ga sh asked fi) :: (pl, oPlan (nI R) (nI C) (bI op) (nI T) ap rr rd sl) :: (sl, aI g 40 slots) :: (th, oThings pl ki el nu (nI m) al wa wo) :: (ki, aI g 40 kinds) :: (el, aI g 40 elders) :: (nu, aI g 40 numbers) :: (wa, aJ g 12 waf) :: (wo, aJ g 12 wof) :: (pg, oGrid (nI R) (nI C) sp.1 sp.2.1 sp.2.2) :: (ga, oGrid sg.1 sg.2.1 sg.2.2.1 sg.2.2.2.1 sg.2.2.2.2) :: (sh, aS g 3 shf) :: rest) [(0, .ref o), (1, .int x), (2, .int se)] 13 [.int (bI (wiB se 0 ((nI (2 ^ m)) - 1)))]
    refine X_if_ne K0 18 dX4_opens_13 (by decide) (fun h13 => ?_) (fun h13 => ?_)
    · obtain ⟨j, hj, rfl⟩ := wi_of (bI_n0.mp h5) (by omega)
      obtain ⟨ik, hik, hkk, htr⟩ := kd_5 hKI hj
      refine X_aload_n K0 0 dX4_opens_18 rfl rfl ?_
      refine X_dup K0 dX4_opens_19 rfl ?_
      refine X_get K0 0 rfl rfl hin4 5 (by decide) fl_RX4_41 rfl dX4_opens_20 ?_
      refine X_getsB K0 hB fl_RX4_111 dX4_opens_23 ?_
      refine X_aload_n K0 0 dX4_opens_26 rfl rfl ?_
      refine X_get K0 0 rfl rfl hin4 1 (by decide) fl_RX4_21 rfl dX4_opens_27 ?_
      refine X_get K0 3 rfl rfl hin3 1 (by decide) fl_RX4_66 rfl dX4_opens_30 ?_
      refine X_iload_n K0 1 dX4_opens_33 rfl rfl ?_
      refine X_ialdN K0 4 rfl (by omega) (by first | decide | omega) dX4_opens_34 ?_
      refine X_v hkk ?_
      refine X_tldB K0 hB hik dX4_opens_35 ?_
      refine X_i2l (v := ((bodF ik).toInt64)) K0 dX4_opens_36 rfl ?_
      rw [htr]
      show X φ 0 0 ((o, oMain pl th pg ga sh asked fi) :: (pl, oPlan (nI R) (nI C) (bI op) (nI T) ap rr rd sl) :: (sl, aI g 40 slots) :: (th, oThings pl ki el nu (nI m) al wa wo) :: (ki, aI g 40 kinds) :: (el, aI g 40 elders) :: (nu, aI g 40 numbers) :: (wa, aJ g 12 waf) :: (wo, aJ g 12 wof) :: (pg, oGrid (nI R) (nI C) sp.1 sp.2.1 sp.2.2) :: (ga, oGrid sg.1 sg.2.1 sg.2.2.1 sg.2.2.2.1 sg.2.2.2.2) :: (sh, aS g 3 shf) :: rest) [(0, .ref o), (1, .int (nI j)), (2, .int se)] 37 [.long (trM (kinds j)), .long asked, .ref o]
      refine X_ladd K0 dX4_opens_37 ?_
      refine X_put (w' := ((o, oMain pl th pg ga sh (asked + (trM (kinds j))) fi) :: (pl, oPlan (nI R) (nI C) (bI op) (nI T) ap rr rd sl) :: (sl, aI g 40 slots) :: (th, oThings pl ki el nu (nI m) al wa wo) :: (ki, aI g 40 kinds) :: (el, aI g 40 elders) :: (nu, aI g 40 numbers) :: (wa, aJ g 12 waf) :: (wo, aJ g 12 wof) :: (pg, oGrid (nI R) (nI C) sp.1 sp.2.1 sp.2.2) :: (ga, oGrid sg.1 sg.2.1 sg.2.2.1 sg.2.2.2.1 sg.2.2.2.2) :: (sh, aS g 3 shf) :: rest)) K0 0 rfl rfl hin4 tyX4 tyX4_ok nmX4 5 (by decide) fl_RX4_41 rfl (tyX4_ok 5 (by decide)) rfl rfl (Nat.le_of_ble_eq_true rfl) dX4_opens_38 rfl ?_
      refine X_aload_n K0 0 dX4_opens_41 rfl rfl ?_
      refine X_get K0 0 rfl rfl hin4 1 (by decide) fl_RX4_21 rfl dX4_opens_42 ?_
      refine X_iload_n K0 2 dX4_opens_45 rfl rfl ?_
      refine X_callV (As := [.int se]) (rest := []) K0 3 (c_openBy g (o, oMain pl th pg ga sh (asked + (trM (kinds j))) fi) ((pg, oGrid (nI R) (nI C) sp.1 sp.2.1 sp.2.2) :: (ga, oGrid sg.1 sg.2.1 sg.2.2.1 sg.2.2.2.1 sg.2.2.2.2) :: (sh, aS g 3 shf) :: rest) pl sl th ki el nu wa wo (nI R) (nI C) (bI op) ap rr rd T slots m al kinds elders numbers waf wof (by omega) se) mi_X3_openBy rfl rfl rfl ml_RX4_114 rfl (Nat.le_of_ble_eq_true rfl) (by decide) ⟨Nat.le_of_ble_eq_true rfl, Nat.le_of_ble_eq_true rfl⟩ rfl rfl dX4_opens_46 ?_
      intro v w' hr'; obtain ⟨rfl, rfl⟩ := hr'
      show X φ 0 0 ((o, oMain pl th pg ga sh (asked + (trM (kinds j))) fi) :: (pl, oPlan (nI R) (nI C) (bI op) (nI T) ap rr rd sl) :: (sl, aI g 40 slots) :: (th, oThings pl ki el nu (nI m) al wa wo) :: (ki, aI g 40 kinds) :: (el, aI g 40 elders) :: (nu, aI g 40 numbers) :: (wa, aJ g 12 waf) :: (wo, aJ g 12 wof) :: (pg, oGrid (nI R) (nI C) sp.1 sp.2.1 sp.2.2) :: (ga, oGrid sg.1 sg.2.1 sg.2.2.1 sg.2.2.2.1 sg.2.2.2.2) :: (sh, aS g 3 shf) :: rest) [(0, .ref o), (1, .int (nI j)), (2, .int se)] 49 [.long (opF al waf wof se m)]
      refine X_aload_n K0 0 dX4_opens_49 rfl rfl ?_
      refine X_get K0 0 rfl rfl hin4 0 (by decide) fl_RX4_10 rfl dX4_opens_50 ?_
      refine X_get K0 1 rfl rfl hin1 7 (by decide) fl_RX4_118 rfl dX4_opens_53 ?_
      refine X_iload_n K0 1 dX4_opens_56 rfl rfl ?_
      refine X_ialdN K0 2 rfl (by omega) (by first | decide | omega) dX4_opens_57 ?_
      refine X_lushr (v := (lush (opF al waf wof se m) (slots j))) K0 dX4_opens_58 rfl ?_
      refine X_lconst (v := 1) K0 dX4_opens_59 (by decide) ?_
      refine X_land K0 dX4_opens_60 ?_
      refine X_l2i (v := (((lush (opF al waf wof se m) (slots j)) &&& 1).toInt32)) K0 dX4_opens_61 rfl ?_
      exact hr _ _ _ _ (Or.inr ⟨j, hj, rfl, bI_n0.mp h13, rfl, rfl⟩) dX4_opens_62
    · refine X_iconst (v := (-1)) K0 dX4_opens_16 (by decide) ?_
      exact hr _ _ _ _ (Or.inl ⟨by first | exact p_n (bI_0.mp h5) | exact p_yn (bI_n0.mp h5) (bI_0.mp h13), rfl, rfl⟩) dX4_opens_17
