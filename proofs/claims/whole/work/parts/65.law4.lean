/-! the law: its loop and its beginning -/
theorem end8 {Ln ii : Nat} (hL : Ln ≤ 4096) (hi : ii ≤ Ln) : nI Ln - 8 < nI ii ↔ ¬ ii + 8 ≤ Ln := by
  rw [Int32.lt_iff_toInt_lt, show (8 : Int32) = nI 8 from rfl, pk_sub_toInt (by omega) (by decide), nI_toInt (by omega)]
  omega
theorem po_nil (g : Gx) : PO g [] (fun _ => none) (fun _ => none) := ⟨fun _ => 0, fun _ _ => none, fun _ _ => Or.inl ⟨rfl, rfl⟩, fun _ _ _ _ h => absurd rfl h, fun _ _ _ _ _ _ _ _ _ h => by cases h⟩
theorem ms_nil (f : Nat → Int32) : MSh (fun _ => none) (fun _ => 0) f f f f := fun _ _ => rfl

set_option maxRecDepth 20000 in
set_option maxHeartbeats 400000 in
theorem law_loop {φ : Fx} {g : Gx} {nm : String} {b Ln qB o mo : Nat} {xs : Nat → Int32} (K0 : Cx φ g ⟨RL, nm, ""⟩ cL_law 4 9 328 600000 7302250) (hsc : Sc φ b Ln xs) (hB : Sb φ qB) (hLn : Ln ≤ 4096) (hend : ∀ w L, X φ 600000 7302250 w L 1108 [.int 1]) : ∀ (dd ii k n : Nat) (w : va_W), ii ≤ Ln → Ln ≤ ii + 8 * dd + 7 → k + 2 * dd ≤ 600000 → n + 40 * dd ≤ 7302250 → IV g o mo w → X φ k n w [(0, .ref b), (1, .ref o), (2, .ref mo), (3, .int (nI ii))] 18 [] := by
  have fin : ∀ (ii k n : Nat) (w : va_W), k ≤ 600000 → n ≤ 7302250 → X φ k n w [(0, .ref b), (1, .ref o), (2, .ref mo), (3, .int (nI ii))] 1107 [] := by
    intro ii k n w hk hn
    refine X_iconst (v := 1) K0 dL_law_1107 (by decide) ?_
    exact X.widen hk hn (hend w _)
  have head : ∀ (ii k n : Nat) (w : va_W), ii ≤ Ln → (¬ ii + 8 ≤ Ln → X φ k n w [(0, .ref b), (1, .ref o), (2, .ref mo), (3, .int (nI ii))] 1107 []) → (ii + 8 ≤ Ln → X φ k n w [(0, .ref b), (1, .ref o), (2, .ref mo), (3, .int (nI ii))] 27 []) → X φ k n w [(0, .ref b), (1, .ref o), (2, .ref mo), (3, .int (nI ii))] 18 [] := by
    intro ii k n w hi h1 h2
    refine X_iload_n K0 3 dL_law_18 rfl rfl ?_
    refine X_aload_n K0 0 dL_law_19 rfl rfl ?_
    refine X_slen K0 hsc dL_law_20 ?_
    refine X_bipush (v := 8) K0 dL_law_21 (by decide) ?_
    refine X_isub K0 dL_law_23 ?_
    refine X_icmp_gt K0 1107 dL_law_24 (by decide) (fun h => h1 ((end8 hLn hi).mp h)) (fun h => h2 (Classical.byContradiction (fun q => h ((end8 hLn hi).mpr q))))
  intro dd
  induction dd with
  | zero =>
    intro ii k n w hi hd hk hn hI
    exact head ii k n w hi (fun _ => fin ii k n w (by omega) (by omega)) (fun h => by omega)
  | succ dd ih =>
    intro ii k n w hi hd hk hn hI
    refine head ii k n w hi (fun _ => fin ii k n w (by omega) (by omega)) (fun hlt => ?_)
    have nxt : ∀ w', IV g o mo w' → X φ (k + 2) (n + 40) w' [(0, .ref b), (1, .ref o), (2, .ref mo), (3, .int (nI ii))] 1101 [] := by
      intro w' hI'
      refine X_iinc (v := ((nI ii) + 8)) (L' := [(3, .int ((nI ii) + 8)), (0, .ref b), (1, .ref o), (2, .ref mo)]) K0 3 dL_law_1101 rfl (by first | rfl | decide) (by decide) rfl ?_
      refine X_goto K0 18 dL_law_1104 (by decide) ?_
      refine X.sub [1, 2, 3, 0] (L' := [(0, .ref b), (1, .ref o), (2, .ref mo), (3, .int ((nI ii) + 8))]) rfl ?_
      exact X_eq rfl (by rw [show (8 : Int32) = nI 8 from rfl, nI_add]) rfl (ih (ii + 8) (k + 2) (n + 40) w' (by omega) (by omega) (by omega) (by omega) hI')
    refine X_aload_n K0 0 dL_law_27 rfl rfl ?_
    refine X_iload_n K0 3 dL_law_28 rfl rfl ?_
    refine X_sld K0 hsc (by omega) hLn dL_law_29 ?_
    refine X_bipush (v := 31) K0 dL_law_30 (by decide) ?_
    refine X_iand K0 dL_law_32 ?_
    obtain ⟨j, hj, hje⟩ := pk_andE (xs ii) (m := 31) 5 (by decide)
    refine X_v hje ?_
    by_cases hj25 : j < 25
    · rcases (show j = 0 ∨ j = 1 ∨ j = 2 ∨ j = 3 ∨ j = 4 ∨ j = 5 ∨ j = 6 ∨ j = 7 ∨ j = 8 ∨ j = 9 ∨ j = 10 ∨ j = 11 ∨ j = 12 ∨ j = 13 ∨ j = 14 ∨ j = 15 ∨ j = 16 ∨ j = 17 ∨ j = 18 ∨ j = 19 ∨ j = 20 ∨ j = 21 ∨ j = 22 ∨ j = 23 ∨ j = 24 by omega) with rfl | rfl | rfl | rfl | rfl | rfl | rfl | rfl | rfl | rfl | rfl | rfl | rfl | rfl | rfl | rfl | rfl | rfl | rfl | rfl | rfl | rfl | rfl | rfl | rfl
      · refine X_tableIn K0 148 dL_law_33 (by decide) (by decide) (by rfl) (by decide) ?_
        exact law_0 K0 hsc hB hlt hLn (by omega) (by omega) hI nxt
      · refine X_tableIn K0 207 dL_law_33 (by decide) (by decide) (by rfl) (by decide) ?_
        exact law_1 K0 hsc hB hlt hLn (by omega) (by omega) hI nxt
      · refine X_tableIn K0 240 dL_law_33 (by decide) (by decide) (by rfl) (by decide) ?_
        exact law_2 K0 hsc hB hlt hLn (by omega) (by omega) hI nxt
      · refine X_tableIn K0 299 dL_law_33 (by decide) (by decide) (by rfl) (by decide) ?_
        exact law_3 K0 hsc hB hlt hLn (by omega) (by omega) hI nxt
      · refine X_tableIn K0 332 dL_law_33 (by decide) (by decide) (by rfl) (by decide) ?_
        exact law_4 K0 hsc hB hlt hLn (by omega) (by omega) hI nxt
      · refine X_tableIn K0 355 dL_law_33 (by decide) (by decide) (by rfl) (by decide) ?_
        exact law_5 K0 hsc hB hlt hLn (by omega) (by omega) hI nxt
      · refine X_tableIn K0 388 dL_law_33 (by decide) (by decide) (by rfl) (by decide) ?_
        exact law_6 K0 hsc hB hlt hLn (by omega) (by omega) hI nxt
      · refine X_tableIn K0 421 dL_law_33 (by decide) (by decide) (by rfl) (by decide) ?_
        exact law_7 K0 hsc hB hlt hLn (by omega) (by omega) hI nxt
      · refine X_tableIn K0 454 dL_law_33 (by decide) (by decide) (by rfl) (by decide) ?_
        exact law_8 K0 hsc hB hlt hLn (by omega) (by omega) hI nxt
      · refine X_tableIn K0 487 dL_law_33 (by decide) (by decide) (by rfl) (by decide) ?_
        exact law_9 K0 hsc hB hlt hLn (by omega) (by omega) hI nxt
      · refine X_tableIn K0 520 dL_law_33 (by decide) (by decide) (by rfl) (by decide) ?_
        exact law_10 K0 hsc hB hlt hLn (by omega) (by omega) hI nxt
      · refine X_tableIn K0 553 dL_law_33 (by decide) (by decide) (by rfl) (by decide) ?_
        exact law_11 K0 hsc hB hlt hLn (by omega) (by omega) hI nxt
      · refine X_tableIn K0 586 dL_law_33 (by decide) (by decide) (by rfl) (by decide) ?_
        exact law_12 K0 hsc hB hlt hLn (by omega) (by omega) hI nxt
      · refine X_tableIn K0 629 dL_law_33 (by decide) (by decide) (by rfl) (by decide) ?_
        exact law_13 K0 hsc hB hlt hLn (by omega) (by omega) hI nxt
      · refine X_tableIn K0 672 dL_law_33 (by decide) (by decide) (by rfl) (by decide) ?_
        exact law_14 K0 hsc hB hlt hLn (by omega) (by omega) hI nxt
      · refine X_tableIn K0 695 dL_law_33 (by decide) (by decide) (by rfl) (by decide) ?_
        exact law_15 K0 hsc hB hlt hLn (by omega) (by omega) hI nxt
      · refine X_tableIn K0 739 dL_law_33 (by decide) (by decide) (by rfl) (by decide) ?_
        exact law_16 K0 hsc hB hlt hLn (by omega) (by omega) hI nxt
      · refine X_tableIn K0 772 dL_law_33 (by decide) (by decide) (by rfl) (by decide) ?_
        exact law_17 K0 hsc hB hlt hLn (by omega) (by omega) hI nxt
      · refine X_tableIn K0 805 dL_law_33 (by decide) (by decide) (by rfl) (by decide) ?_
        exact law_18 K0 hsc hB hlt hLn (by omega) (by omega) hI nxt
      · refine X_tableIn K0 848 dL_law_33 (by decide) (by decide) (by rfl) (by decide) ?_
        exact law_19 K0 hsc hB hlt hLn (by omega) (by omega) hI nxt
      · refine X_tableIn K0 891 dL_law_33 (by decide) (by decide) (by rfl) (by decide) ?_
        exact law_20 K0 hsc hB hlt hLn (by omega) (by omega) hI nxt
      · refine X_tableIn K0 954 dL_law_33 (by decide) (by decide) (by rfl) (by decide) ?_
        exact law_21 K0 hsc hB hlt hLn (by omega) (by omega) hI nxt
      · refine X_tableIn K0 1041 dL_law_33 (by decide) (by decide) (by rfl) (by decide) ?_
        exact law_22 K0 hsc hB hlt hLn (by omega) (by omega) hI nxt
      · refine X_tableIn K0 1074 dL_law_33 (by decide) (by decide) (by rfl) (by decide) ?_
        exact law_23 K0 hsc hB hlt hLn (by omega) (by omega) hI nxt
      · refine X_tableIn K0 1088 dL_law_33 (by decide) (by decide) (by rfl) (by decide) ?_
        exact law_24 K0 hsc hB hlt hLn (by omega) (by omega) hI nxt
    · refine X_tableOut K0 1101 dL_law_33 (Or.inr (by rw [nI_toInt (by omega)]; omega)) (by decide) ?_
      exact X.widen (by omega) (by omega) (nxt w hI)

set_option maxRecDepth 20000 in
set_option maxHeartbeats 400000 in
theorem law_run {φ : Fx} {g : Gx} {nm : String} {b Ln qB : Nat} {xs : Nat → Int32} (K0 : Cx φ g ⟨RL, nm, ""⟩ cL_law 4 9 328 600000 7302250) (hsc : Sc φ b Ln xs) (hB : Sb φ qB) (hLn : Ln ≤ 4096) (hend : ∀ w L, X φ 600000 7302250 w L 1108 [.int 1]) : X φ 0 0 [] [(0, .ref b)] 0 [] := by
  show X φ 0 0 ([] : va_W) [(0, .ref b)] 0 []
  refine X_new (ci := 4) (N := 7) (fs := [.null, .null, .null, .null, .null, .long 0, .int 0]) K0 hin4 tyX4 tyX4_ok rfl cl_RL_7 in_RX4 it_RX4 (fun j hj => by rcases (show j = 0 ∨ j = 1 ∨ j = 2 ∨ j = 3 ∨ j = 4 ∨ j = 5 ∨ j = 6 by omega) with rfl | rfl | rfl | rfl | rfl | rfl | rfl <;> rfl) (by omega) (by omega) rfl rfl dL_law_0 (fun o => ?_)
  show X φ 1 7 ((o, .inr (4, [.null, .null, .null, .null, .null, .long 0, .int 0])) :: []) [(0, .ref b)] 3 [.ref o]
  refine X_dup K0 dL_law_3 rfl ?_
  refine X_callI (As := []) (rest := [.ref o]) K0 (c_Main_init g o) mc_X4_init rfl ml_RL_9 rfl (Nat.le_of_ble_eq_true rfl) (by decide) ⟨by omega, by omega⟩ rfl rfl dL_law_4 ?_
  intro v w' hr'; obtain ⟨rfl, pl, sl, th, ki, el, nu, wa, wo, pg, ga, sh, rfl⟩ := hr'
  show X φ 12 220 ((o, oMain pl th pg ga sh 0 0) :: (pl, oPlan (nI 2) (nI 2) (bI false) (nI (plF 2 2 false (fun _ => 0)).2) (coF 2 2 2) (coF 2 (2 - 1) 2) (coF 2 2 (2 - 1)) sl) :: (sl, aI g 40 (plF 2 2 false (fun _ => 0)).1) :: (th, oThings pl ki el nu (nI (ctF (fiF (fun _ => 0) 1 40) (plF 2 2 false (fun _ => 0)).2)) (seA (fiF (fun _ => 0) 1 40) (plF 2 2 false (fun _ => 0)).1 (plF 2 2 false (fun _ => 0)).2) wa wo) :: (ki, aI g 40 (fiF (fun _ => 0) 1 40)) :: (el, aI g 40 (fiF (fun _ => 0) (-9) 40)) :: (nu, aI g 40 (nuF (fiF (fun _ => 0) 1 40) (fun _ => 0) (plF 2 2 false (fun _ => 0)).2)) :: (wa, aJ g 12 (seW (fiF (fun _ => 0) 1 40) (fiF (fun _ => 0) (-9) 40) (nuF (fiF (fun _ => 0) 1 40) (fun _ => 0) (plF 2 2 false (fun _ => 0)).2) (plF 2 2 false (fun _ => 0)).1 (fiF (fun _ => 0) 0 12) (plF 2 2 false (fun _ => 0)).2)) :: (wo, aJ g 12 (seO (fiF (fun _ => 0) 1 40) (fiF (fun _ => 0) (-9) 40) (nuF (fiF (fun _ => 0) 1 40) (fun _ => 0) (plF 2 2 false (fun _ => 0)).2) (plF 2 2 false (fun _ => 0)).1 (fiF (fun _ => 0) 0 12) (plF 2 2 false (fun _ => 0)).2)) :: (pg, oGrid (nI 2) (nI 2) 0 0 0) :: (ga, oGrid 0 0 0 0 0) :: (sh, aS g 3 (fun _ => none)) :: []) [(0, .ref b)] 7 [.ref o]
  refine X_astore_n (L' := [(1, .ref o), (0, .ref b)]) K0 dL_law_7 rfl (by decide) rfl ?_
  refine X_new (ci := 5) (N := 19) (fs := [.int 0, .int 0, .long 0, .int 0, .int 0, .int 0, .null, .null, .null, .null, .null, .int 0, .null, .null, .null, .null, .null, .null, .null]) K0 hin5 tyX5 tyX5_ok rfl cl_RL_10 in_RX5 it_RX5 (fun j hj => by rcases (show j = 0 ∨ j = 1 ∨ j = 2 ∨ j = 3 ∨ j = 4 ∨ j = 5 ∨ j = 6 ∨ j = 7 ∨ j = 8 ∨ j = 9 ∨ j = 10 ∨ j = 11 ∨ j = 12 ∨ j = 13 ∨ j = 14 ∨ j = 15 ∨ j = 16 ∨ j = 17 ∨ j = 18 by omega) with rfl | rfl | rfl | rfl | rfl | rfl | rfl | rfl | rfl | rfl | rfl | rfl | rfl | rfl | rfl | rfl | rfl | rfl | rfl <;> rfl) (by omega) (by omega) rfl rfl dL_law_8 (fun mo => ?_)
  show X φ 13 239 ((o, oMain pl th pg ga sh 0 0) :: (pl, oPlan (nI 2) (nI 2) (bI false) (nI (plF 2 2 false (fun _ => 0)).2) (coF 2 2 2) (coF 2 (2 - 1) 2) (coF 2 2 (2 - 1)) sl) :: (sl, aI g 40 (plF 2 2 false (fun _ => 0)).1) :: (th, oThings pl ki el nu (nI (ctF (fiF (fun _ => 0) 1 40) (plF 2 2 false (fun _ => 0)).2)) (seA (fiF (fun _ => 0) 1 40) (plF 2 2 false (fun _ => 0)).1 (plF 2 2 false (fun _ => 0)).2) wa wo) :: (ki, aI g 40 (fiF (fun _ => 0) 1 40)) :: (el, aI g 40 (fiF (fun _ => 0) (-9) 40)) :: (nu, aI g 40 (nuF (fiF (fun _ => 0) 1 40) (fun _ => 0) (plF 2 2 false (fun _ => 0)).2)) :: (wa, aJ g 12 (seW (fiF (fun _ => 0) 1 40) (fiF (fun _ => 0) (-9) 40) (nuF (fiF (fun _ => 0) 1 40) (fun _ => 0) (plF 2 2 false (fun _ => 0)).2) (plF 2 2 false (fun _ => 0)).1 (fiF (fun _ => 0) 0 12) (plF 2 2 false (fun _ => 0)).2)) :: (wo, aJ g 12 (seO (fiF (fun _ => 0) 1 40) (fiF (fun _ => 0) (-9) 40) (nuF (fiF (fun _ => 0) 1 40) (fun _ => 0) (plF 2 2 false (fun _ => 0)).2) (plF 2 2 false (fun _ => 0)).1 (fiF (fun _ => 0) 0 12) (plF 2 2 false (fun _ => 0)).2)) :: (pg, oGrid (nI 2) (nI 2) 0 0 0) :: (ga, oGrid 0 0 0 0 0) :: (sh, aS g 3 (fun _ => none)) :: (mo, .inr (5, [.int 0, .int 0, .long 0, .int 0, .int 0, .int 0, .null, .null, .null, .null, .null, .int 0, .null, .null, .null, .null, .null, .null, .null])) :: []) [(1, .ref o), (0, .ref b)] 11 [.ref mo]
  refine X_dup K0 dL_law_11 rfl ?_
  refine X_callI (As := []) (rest := [.ref mo]) K0 (m_init g (o, oMain pl th pg ga sh 0 0) (pl, oPlan (nI 2) (nI 2) (bI false) (nI (plF 2 2 false (fun _ => 0)).2) (coF 2 2 2) (coF 2 (2 - 1) 2) (coF 2 2 (2 - 1)) sl) (sl, aI g 40 (plF 2 2 false (fun _ => 0)).1) (th, oThings pl ki el nu (nI (ctF (fiF (fun _ => 0) 1 40) (plF 2 2 false (fun _ => 0)).2)) (seA (fiF (fun _ => 0) 1 40) (plF 2 2 false (fun _ => 0)).1 (plF 2 2 false (fun _ => 0)).2) wa wo) (ki, aI g 40 (fiF (fun _ => 0) 1 40)) (el, aI g 40 (fiF (fun _ => 0) (-9) 40)) (nu, aI g 40 (nuF (fiF (fun _ => 0) 1 40) (fun _ => 0) (plF 2 2 false (fun _ => 0)).2)) (wa, aJ g 12 (seW (fiF (fun _ => 0) 1 40) (fiF (fun _ => 0) (-9) 40) (nuF (fiF (fun _ => 0) 1 40) (fun _ => 0) (plF 2 2 false (fun _ => 0)).2) (plF 2 2 false (fun _ => 0)).1 (fiF (fun _ => 0) 0 12) (plF 2 2 false (fun _ => 0)).2)) (wo, aJ g 12 (seO (fiF (fun _ => 0) 1 40) (fiF (fun _ => 0) (-9) 40) (nuF (fiF (fun _ => 0) 1 40) (fun _ => 0) (plF 2 2 false (fun _ => 0)).2) (plF 2 2 false (fun _ => 0)).1 (fiF (fun _ => 0) 0 12) (plF 2 2 false (fun _ => 0)).2)) (pg, oGrid (nI 2) (nI 2) 0 0 0) (ga, oGrid 0 0 0 0 0) (sh, aS g 3 (fun _ => none)) mo) mc_X5_init rfl ml_RL_12 rfl (Nat.le_of_ble_eq_true rfl) (by decide) ⟨by omega, by omega⟩ rfl rfl dL_law_12 ?_
  intro v w' hr'; obtain ⟨rfl, mki, mel, mto, mio, mwy, mme, mhs, mso, msr, mrs, mce, mcp, rfl⟩ := hr'
  show X φ 25 5057 ((o, oMain pl th pg ga sh 0 0) :: (pl, oPlan (nI 2) (nI 2) (bI false) (nI (plF 2 2 false (fun _ => 0)).2) (coF 2 2 2) (coF 2 (2 - 1) 2) (coF 2 2 (2 - 1)) sl) :: (sl, aI g 40 (plF 2 2 false (fun _ => 0)).1) :: (th, oThings pl ki el nu (nI (ctF (fiF (fun _ => 0) 1 40) (plF 2 2 false (fun _ => 0)).2)) (seA (fiF (fun _ => 0) 1 40) (plF 2 2 false (fun _ => 0)).1 (plF 2 2 false (fun _ => 0)).2) wa wo) :: (ki, aI g 40 (fiF (fun _ => 0) 1 40)) :: (el, aI g 40 (fiF (fun _ => 0) (-9) 40)) :: (nu, aI g 40 (nuF (fiF (fun _ => 0) 1 40) (fun _ => 0) (plF 2 2 false (fun _ => 0)).2)) :: (wa, aJ g 12 (seW (fiF (fun _ => 0) 1 40) (fiF (fun _ => 0) (-9) 40) (nuF (fiF (fun _ => 0) 1 40) (fun _ => 0) (plF 2 2 false (fun _ => 0)).2) (plF 2 2 false (fun _ => 0)).1 (fiF (fun _ => 0) 0 12) (plF 2 2 false (fun _ => 0)).2)) :: (wo, aJ g 12 (seO (fiF (fun _ => 0) 1 40) (fiF (fun _ => 0) (-9) 40) (nuF (fiF (fun _ => 0) 1 40) (fun _ => 0) (plF 2 2 false (fun _ => 0)).2) (plF 2 2 false (fun _ => 0)).1 (fiF (fun _ => 0) 0 12) (plF 2 2 false (fun _ => 0)).2)) :: (pg, oGrid (nI 2) (nI 2) 0 0 0) :: (ga, oGrid 0 0 0 0 0) :: (sh, aS g 3 (fun _ => none)) :: (mo, oModel 0 0 0 (nI 2) (nI 2) (bI false) mki mel mto mio mwy (bI false) mme mhs mso msr mrs mce mcp) :: (mki, aI g 40 (fiF (fun _ => 0) 1 40)) :: (mel, aI g 40 (fiF (fun _ => 0) (-9) 40)) :: (mto, aI g 25 (fun _ => 0)) :: (mio, aZ g 40 (fun _ => 0)) :: (mwy, aI g 4096 (fun _ => 0)) :: (mme, aZ g 36 (fun _ => 0)) :: (mhs, aZ g 3 (fun _ => 0)) :: (mso, aI g 3 (fun _ => 0)) :: (msr, aI g 3 (fun _ => 0)) :: (mrs, aI g 12 (fun _ => 0)) :: (mce, aI g 480 (fun _ => 0)) :: (mcp, aI g 40 (fun _ => 0)) :: []) [(1, .ref o), (0, .ref b)] 15 [.ref mo]
  refine X_astore_n (L' := [(2, .ref mo), (1, .ref o), (0, .ref b)]) K0 dL_law_15 rfl (by decide) rfl ?_
  refine X_iconst (v := 0) K0 dL_law_16 (by decide) ?_
  refine X_istore_n (L' := [(3, .int 0), (2, .ref mo), (1, .ref o), (0, .ref b)]) K0 dL_law_17 rfl (by decide) rfl ?_
  refine X.sub [3, 2, 1, 0] (L' := [(0, .ref b), (1, .ref o), (2, .ref mo), (3, .int (nI 0))]) rfl ?_
  exact law_loop K0 hsc hB hLn hend 512 0 25 5057 _ (Nat.zero_le _) (by omega) (by omega) (by omega) ⟨pl, sl, th, ki, el, nu, wa, wo, pg, ga, sh, mki, mel, mto, mio, mwy, mme, mhs, mso, msr, mrs, mce, mcp, 2, 2, false, (plF 2 2 false (fun _ => 0)).2, (plF 2 2 false (fun _ => 0)).1, (coF 2 2 2), (coF 2 (2 - 1) 2), (coF 2 2 (2 - 1)), (ctF (fiF (fun _ => 0) 1 40) (plF 2 2 false (fun _ => 0)).2), (seA (fiF (fun _ => 0) 1 40) (plF 2 2 false (fun _ => 0)).1 (plF 2 2 false (fun _ => 0)).2), (fiF (fun _ => 0) 1 40), (fiF (fun _ => 0) (-9) 40), (nuF (fiF (fun _ => 0) 1 40) (fun _ => 0) (plF 2 2 false (fun _ => 0)).2), (seW (fiF (fun _ => 0) 1 40) (fiF (fun _ => 0) (-9) 40) (nuF (fiF (fun _ => 0) 1 40) (fun _ => 0) (plF 2 2 false (fun _ => 0)).2) (plF 2 2 false (fun _ => 0)).1 (fiF (fun _ => 0) 0 12) (plF 2 2 false (fun _ => 0)).2), (seO (fiF (fun _ => 0) 1 40) (fiF (fun _ => 0) (-9) 40) (nuF (fiF (fun _ => 0) 1 40) (fun _ => 0) (plF 2 2 false (fun _ => 0)).2) (plF 2 2 false (fun _ => 0)).1 (fiF (fun _ => 0) 0 12) (plF 2 2 false (fun _ => 0)).2), (0, 0, 0), (0, 0, 0, 0, 0), (fun _ => none), 0, 0, 0, false, (fun _ => 0), (fun _ => 0), (fun _ => 0), (fun _ => 0), (fun _ => 0), (fun _ => 0), (fun _ => 0), (fun _ => 0), (fun _ => 0), (fun _ => 0), [], (fun _ => none), ivmk rfl (RL2.laid (by decide) (by decide) false (fun _ => 0) (fun _ => 0) (fun _ => 0) (fun _ => 0) (fun _ => 0) (fun _ => 0)) (fun q => by cases q) (po_nil g) (ms_nil _)⟩
