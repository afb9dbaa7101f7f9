set_option maxRecDepth 20000 in
set_option maxHeartbeats 400000 in
theorem m_chance (g : Gx) (c0 c1 c2 c3 c4 c5 c6 c7 c8 c9 c10 c11 : Nat × va_E) (mo mki mel mto mio mwy mme mhs mso msr mrs mce mcp : Nat) (tn stt : Int32) (tr : Int64) (R C : Nat) (op hwb : Bool) (kinds elders tof iof wyf mef hsf sof srf rsf cef cpf : Nat → Int32) (rest : va_W) (hR : 1 ≤ R ∧ R ≤ 5) (hC : 1 ≤ C ∧ C ≤ 5) (hKI : KI (thM R C op) kinds elders) (hWY : WY R C op kinds elders hwb wyf) (way p q : Int32) : Con g yX5_chance cX5_chance 11 (some .long) 6 131 0 0 [.ref mo, .int way, .int p, .int q] (c0 :: c1 :: c2 :: c3 :: c4 :: c5 :: c6 :: c7 :: c8 :: c9 :: c10 :: c11 :: (mo, oModel tn stt tr (nI R) (nI C) (bI op) mki mel mto mio mwy (bI hwb) mme mhs mso msr mrs mce mcp) :: (mki, aI g 40 kinds) :: (mel, aI g 40 elders) :: (mto, aI g 25 tof) :: (mio, aZ g 40 iof) :: (mwy, aI g 4096 wyf) :: (mme, aZ g 36 mef) :: (mhs, aZ g 3 hsf) :: (mso, aI g 3 sof) :: (msr, aI g 3 srf) :: (mrs, aI g 12 rsf) :: (mce, aI g 480 cef) :: (mcp, aI g 40 cpf) :: rest) (fun v w' => v = some (.long (cvVM R C op kinds elders way p q)) ∧ ∃ (tq iq wq mq : Nat → Int32) (hq : Bool), WY R C op kinds elders hq wq ∧ (c0 :: c1 :: c2 :: c3 :: c4 :: c5 :: c6 :: c7 :: c8 :: c9 :: c10 :: c11 :: (mo, oModel 0 stt tr (nI R) (nI C) (bI op) mki mel mto mio mwy (bI hq) mme mhs mso msr mrs mce mcp) :: (mki, aI g 40 kinds) :: (mel, aI g 40 elders) :: (mto, aI g 25 tq) :: (mio, aZ g 40 iq) :: (mwy, aI g 4096 wq) :: (mme, aZ g 36 mq) :: (mhs, aZ g 3 hsf) :: (mso, aI g 3 sof) :: (msr, aI g 3 srf) :: (mrs, aI g 12 rsf) :: (mce, aI g 480 cef) :: (mcp, aI g 40 cpf) :: rest) = w') := by
  have hTM := th_M (op := op) hR hC
  have hPM := pl_M hR hC
  have hRM := rd_M hR hC
  have hN := pow_m hKI.2
  have hM12 := hKI.2
  refine Con.ofL (by decide +kernel) (Nat.le_of_ble_eq_true rfl) (fun φ K0 hr => ?_)
  show X φ 0 0 (c0 :: c1 :: c2 :: c3 :: c4 :: c5 :: c6 :: c7 :: c8 :: c9 :: c10 :: c11 :: (mo, oModel tn stt tr (nI R) (nI C) (bI op) mki mel mto mio mwy (bI hwb) mme mhs mso msr mrs mce mcp) :: (mki, aI g 40 kinds) :: (mel, aI g 40 elders) :: (mto, aI g 25 tof) :: (mio, aZ g 40 iof) :: (mwy, aI g 4096 wyf) :: (mme, aZ g 36 mef) :: (mhs, aZ g 3 hsf) :: (mso, aI g 3 sof) :: (msr, aI g 3 srf) :: (mrs, aI g 12 rsf) :: (mce, aI g 480 cef) :: (mcp, aI g 40 cpf) :: rest) [(0, .ref mo), (1, .int way), (2, .int p), (3, .int q)] 0 []
  refine X_aload_n K0 0 dX5_chance_0 rfl rfl ?_
  refine X_iconst (v := 0) K0 dX5_chance_1 (by decide) ?_
  refine X_put (w' := (c0 :: c1 :: c2 :: c3 :: c4 :: c5 :: c6 :: c7 :: c8 :: c9 :: c10 :: c11 :: (mo, oModel 0 stt tr (nI R) (nI C) (bI op) mki mel mto mio mwy (bI hwb) mme mhs mso msr mrs mce mcp) :: (mki, aI g 40 kinds) :: (mel, aI g 40 elders) :: (mto, aI g 25 tof) :: (mio, aZ g 40 iof) :: (mwy, aI g 4096 wyf) :: (mme, aZ g 36 mef) :: (mhs, aZ g 3 hsf) :: (mso, aI g 3 sof) :: (msr, aI g 3 srf) :: (mrs, aI g 12 rsf) :: (mce, aI g 480 cef) :: (mcp, aI g 40 cpf) :: rest)) K0 12 rfl rfl hin5 tyX5 tyX5_ok nmX5 0 (by decide) fl_RX5_58 rfl (tyX5_ok 0 (by decide)) rfl rfl (Nat.le_of_ble_eq_true rfl) dX5_chance_2 rfl ?_
  refine X_iload_n K0 1 dX5_chance_5 rfl rfl ?_
  refine X_iconst (v := 0) K0 dX5_chance_6 (by decide) ?_
  refine X_iconst (v := 3) K0 dX5_chance_7 (by decide) ?_
  refine X_callS (As := [.int way, .int 0, .int 3]) (rest := []) K0 (c_in g (c0 :: c1 :: c2 :: c3 :: c4 :: c5 :: c6 :: c7 :: c8 :: c9 :: c10 :: c11 :: (mo, oModel 0 stt tr (nI R) (nI C) (bI op) mki mel mto mio mwy (bI hwb) mme mhs mso msr mrs mce mcp) :: (mki, aI g 40 kinds) :: (mel, aI g 40 elders) :: (mto, aI g 25 tof) :: (mio, aZ g 40 iof) :: (mwy, aI g 4096 wyf) :: (mme, aZ g 36 mef) :: (mhs, aZ g 3 hsf) :: (mso, aI g 3 sof) :: (msr, aI g 3 srf) :: (mrs, aI g 12 rsf) :: (mce, aI g 480 cef) :: (mcp, aI g 40 cpf) :: rest) way 0 3) ms_X5_in rfl ml_RX5_81 rfl (Nat.le_of_ble_eq_true rfl) (by decide) ⟨Nat.le_of_ble_eq_true rfl, Nat.le_of_ble_eq_true rfl⟩ rfl rfl dX5_chance_8 ?_
  intro v w' hr'; obtain ⟨rfl, rfl⟩ := hr'
  show X φ 0 0 (c0 :: c1 :: c2 :: c3 :: c4 :: c5 :: c6 :: c7 :: c8 :: c9 :: c10 :: c11 :: (mo, oModel 0 stt tr (nI R) (nI C) (bI op) mki mel mto mio mwy (bI hwb) mme mhs mso msr mrs mce mcp) :: (mki, aI g 40 kinds) :: (mel, aI g 40 elders) :: (mto, aI g 25 tof) :: (mio, aZ g 40 iof) :: (mwy, aI g 4096 wyf) :: (mme, aZ g 36 mef) :: (mhs, aZ g 3 hsf) :: (mso, aI g 3 sof) :: (msr, aI g 3 srf) :: (mrs, aI g 12 rsf) :: (mce, aI g 480 cef) :: (mcp, aI g 40 cpf) :: rest) [(0, .ref mo), (1, .int way), (2, .int p), (3, .int q)] 11 [.int (bI (wiB way 0 3))]
  refine X_if_eq K0 33 dX5_chance_11 (by decide) (fun h11 => ?_) (fun h11 => ?_)
  · refine X_ldc2 K0 co_RX5_173 dX5_chance_33 ?_
    exact hr _ _ _ _ ⟨by rw [cvVM, no_if (by first | exact p_n (bI_0.mp h11) | exact p_yn (bI_n0.mp h11) (p_n (bI_0.mp h21)) | exact p_yn (bI_n0.mp h11) (p_yn (bI_n0.mp h21) (bI_0.mp h30)))], tof, iof, wyf, mef, hwb, hWY, rfl⟩ dX5_chance_36
  · refine X_iload_n K0 3 dX5_chance_14 rfl rfl ?_
    refine X_iconst (v := 1) K0 dX5_chance_15 (by decide) ?_
    refine X_bipush (v := 9) K0 dX5_chance_16 (by decide) ?_
    refine X_callS (As := [.int q, .int 1, .int 9]) (rest := []) K0 (c_in g (c0 :: c1 :: c2 :: c3 :: c4 :: c5 :: c6 :: c7 :: c8 :: c9 :: c10 :: c11 :: (mo, oModel 0 stt tr (nI R) (nI C) (bI op) mki mel mto mio mwy (bI hwb) mme mhs mso msr mrs mce mcp) :: (mki, aI g 40 kinds) :: (mel, aI g 40 elders) :: (mto, aI g 25 tof) :: (mio, aZ g 40 iof) :: (mwy, aI g 4096 wyf) :: (mme, aZ g 36 mef) :: (mhs, aZ g 3 hsf) :: (mso, aI g 3 sof) :: (msr, aI g 3 srf) :: (mrs, aI g 12 rsf) :: (mce, aI g 480 cef) :: (mcp, aI g 40 cpf) :: rest) q 1 9) ms_X5_in rfl ml_RX5_81 rfl (Nat.le_of_ble_eq_true rfl) (by decide) ⟨Nat.le_of_ble_eq_true rfl, Nat.le_of_ble_eq_true rfl⟩ rfl rfl dX5_chance_18 ?_
    intro v w' hr'; obtain ⟨rfl, rfl⟩ := hr'
    show X φ 0 0 (c0 :: c1 :: c2 :: c3 :: c4 :: c5 :: c6 :: c7 :: c8 :: c9 :: c10 :: c11 :: (mo, oModel 0 stt tr (nI R) (nI C) (bI op) mki mel mto mio mwy (bI hwb) mme mhs mso msr mrs mce mcp) :: (mki, aI g 40 kinds) :: (mel, aI g 40 elders) :: (mto, aI g 25 tof) :: (mio, aZ g 40 iof) :: (mwy, aI g 4096 wyf) :: (mme, aZ g 36 mef) :: (mhs, aZ g 3 hsf) :: (mso, aI g 3 sof) :: (msr, aI g 3 srf) :: (mrs, aI g 12 rsf) :: (mce, aI g 480 cef) :: (mcp, aI g 40 cpf) :: rest) [(0, .ref mo), (1, .int way), (2, .int p), (3, .int q)] 21 [.int (bI (wiB q 1 9))]
    refine X_if_eq K0 33 dX5_chance_21 (by decide) (fun h21 => ?_) (fun h21 => ?_)
    · refine X_ldc2 K0 co_RX5_173 dX5_chance_33 ?_
      exact hr _ _ _ _ ⟨by rw [cvVM, no_if (by first | exact p_n (bI_0.mp h11) | exact p_yn (bI_n0.mp h11) (p_n (bI_0.mp h21)) | exact p_yn (bI_n0.mp h11) (p_yn (bI_n0.mp h21) (bI_0.mp h30)))], tof, iof, wyf, mef, hwb, hWY, rfl⟩ dX5_chance_36
    · refine X_iload_n K0 2 dX5_chance_24 rfl rfl ?_
      refine X_iconst (v := 0) K0 dX5_chance_25 (by decide) ?_
      refine X_iload_n K0 3 dX5_chance_26 rfl rfl ?_
      refine X_callS (As := [.int p, .int 0, .int q]) (rest := []) K0 (c_in g (c0 :: c1 :: c2 :: c3 :: c4 :: c5 :: c6 :: c7 :: c8 :: c9 :: c10 :: c11 :: (mo, oModel 0 stt tr (nI R) (nI C) (bI op) mki mel mto mio mwy (bI hwb) mme mhs mso msr mrs mce mcp) :: (mki, aI g 40 kinds) :: (mel, aI g 40 elders) :: (mto, aI g 25 tof) :: (mio, aZ g 40 iof) :: (mwy, aI g 4096 wyf) :: (mme, aZ g 36 mef) :: (mhs, aZ g 3 hsf) :: (mso, aI g 3 sof) :: (msr, aI g 3 srf) :: (mrs, aI g 12 rsf) :: (mce, aI g 480 cef) :: (mcp, aI g 40 cpf) :: rest) p 0 q) ms_X5_in rfl ml_RX5_81 rfl (Nat.le_of_ble_eq_true rfl) (by decide) ⟨Nat.le_of_ble_eq_true rfl, Nat.le_of_ble_eq_true rfl⟩ rfl rfl dX5_chance_27 ?_
      intro v w' hr'; obtain ⟨rfl, rfl⟩ := hr'
      show X φ 0 0 (c0 :: c1 :: c2 :: c3 :: c4 :: c5 :: c6 :: c7 :: c8 :: c9 :: c10 :: c11 :: (mo, oModel 0 stt tr (nI R) (nI C) (bI op) mki mel mto mio mwy (bI hwb) mme mhs mso msr mrs mce mcp) :: (mki, aI g 40 kinds) :: (mel, aI g 40 elders) :: (mto, aI g 25 tof) :: (mio, aZ g 40 iof) :: (mwy, aI g 4096 wyf) :: (mme, aZ g 36 mef) :: (mhs, aZ g 3 hsf) :: (mso, aI g 3 sof) :: (msr, aI g 3 srf) :: (mrs, aI g 12 rsf) :: (mce, aI g 480 cef) :: (mcp, aI g 40 cpf) :: rest) [(0, .ref mo), (1, .int way), (2, .int p), (3, .int q)] 30 [.int (bI (wiB p 0 q))]
      refine X_if_ne K0 37 dX5_chance_30 (by decide) (fun h30 => ?_) (fun h30 => ?_)
      · refine X_aload_n K0 0 dX5_chance_37 rfl rfl ?_
        refine X_callV (As := []) (rest := []) K0 12 (m_chances g c0 c1 c2 c3 c4 c5 c6 c7 c8 c9 c10 c11 mo mki mel mto mio mwy mme mhs mso msr mrs mce mcp 0 stt tr R C op hwb kinds elders tof iof wyf mef hsf sof srf rsf cef cpf rest hR hC ) mi_X5_chances rfl rfl rfl ml_RX5_85 rfl (Nat.le_of_ble_eq_true rfl) (by decide) ⟨Nat.le_of_ble_eq_true rfl, Nat.le_of_ble_eq_true rfl⟩ rfl rfl dX5_chance_38 ?_
        intro v w' hr'; obtain ⟨rfl, rfl⟩ := hr'
        show X φ 0 0 (c0 :: c1 :: c2 :: c3 :: c4 :: c5 :: c6 :: c7 :: c8 :: c9 :: c10 :: c11 :: (mo, oModel 0 stt tr (nI R) (nI C) (bI op) mki mel mto mio mwy (bI hwb) mme mhs mso msr mrs mce mcp) :: (mki, aI g 40 kinds) :: (mel, aI g 40 elders) :: (mto, aI g 25 tof) :: (mio, aZ g 40 iof) :: (mwy, aI g 4096 wyf) :: (mme, aZ g 36 mef) :: (mhs, aZ g 3 hsf) :: (mso, aI g 3 sof) :: (msr, aI g 3 srf) :: (mrs, aI g 12 rsf) :: (mce, aI g 480 cef) :: (mcp, aI g 40 cpf) :: rest) [(0, .ref mo), (1, .int way), (2, .int p), (3, .int q)] 41 [.int (nI (ctF kinds (thM R C op)))]
        refine X_istore (L' := [(4, .int (nI (ctF kinds (thM R C op)))), (0, .ref mo), (1, .int way), (2, .int p), (3, .int q)]) K0 dX5_chance_41 (by decide) rfl ?_
        refine X_lconst (v := 0) K0 dX5_chance_43 (by decide) ?_
        refine X_lstore (L' := [(5, .long 0), (4, .int (nI (ctF kinds (thM R C op)))), (0, .ref mo), (1, .int way), (2, .int p), (3, .int q)]) K0 dX5_chance_44 (by decide) rfl ?_
        refine X_iconst (v := 0) K0 dX5_chance_46 (by decide) ?_
        refine X_istore (L' := [(7, .int 0), (5, .long 0), (4, .int (nI (ctF kinds (thM R C op)))), (0, .ref mo), (1, .int way), (2, .int p), (3, .int q)]) K0 dX5_chance_47 (by decide) rfl ?_
        refine X.sub [3, 4, 5, 6, 2, 1, 0] (L' := [(0, .ref mo), (1, .int way), (2, .int p), (3, .int q), (4, .int (nI (ctF kinds (thM R C op)))), (5, .long 0), (7, .int 0)]) rfl ?_
        have LOOPa : ∀ (dda iia : Nat), iia + dda = ((ctF kinds (thM R C op)) + 1) → ∀ (tq iq wq : Nat → Int32) (hq : Bool), WY R C op kinds elders hq wq → X φ 0 0 (c0 :: c1 :: c2 :: c3 :: c4 :: c5 :: c6 :: c7 :: c8 :: c9 :: c10 :: c11 :: (mo, oModel 0 stt tr (nI R) (nI C) (bI op) mki mel mto mio mwy (bI hq) mme mhs mso msr mrs mce mcp) :: (mki, aI g 40 kinds) :: (mel, aI g 40 elders) :: (mto, aI g 25 tq) :: (mio, aZ g 40 iq) :: (mwy, aI g 4096 wq) :: (mme, aZ g 36 mef) :: (mhs, aZ g 3 hsf) :: (mso, aI g 3 sof) :: (msr, aI g 3 srf) :: (mrs, aI g 12 rsf) :: (mce, aI g 480 cef) :: (mcp, aI g 40 cpf) :: rest) [(0, .ref mo), (1, .int way), (2, .int p), (3, .int q), (4, .int (nI (ctF kinds (thM R C op)))), (5, .long (chM (fun k => cnI (wsM R C op kinds elders way (nI k)) (2 ^ (ctF kinds (thM R C op)))) p q (ctF kinds (thM R C op)) iia)), (7, .int (nI iia))] 49 [] := by
          intro dda
          induction dda with
          | zero =>
            intro iia hiia tq iq wq hq hWq
            have hii2a : ((ctF kinds (thM R C op)) + 1) = iia := by omega
            subst hii2a
            refine X_iload K0 6 dX5_chance_49 rfl ?_
            refine X_iload K0 4 dX5_chance_51 rfl ?_
            refine X_icmp_gt K0 116 dX5_chance_53 (by decide) (fun h53 => ?_) (fun h53 => ?_)
            · refine X_lload K0 5 dX5_chance_116 rfl ?_
              exact hr _ _ _ _ ⟨by rw [cvVM, yes_if (p_yy (bI_n0.mp h11) (p_yy (bI_n0.mp h21) (bI_n0.mp h30)))], tq, iq, wq, mef, hq, hWq, rfl⟩ dX5_chance_118
            · exact absurd (nI_lt (Nat.lt_succ_self _) (by omega)) h53
          | succ dda iha =>
            intro iia hiia tq iq wq hq hWq
            have hlta : iia < ((ctF kinds (thM R C op)) + 1) := by omega
            refine X_iload K0 6 dX5_chance_49 rfl ?_
            refine X_iload K0 4 dX5_chance_51 rfl ?_
            refine X_icmp_gt K0 116 dX5_chance_53 (by decide) (fun h53 => ?_) (fun h53 => ?_)
            · exact absurd h53 (nI_nlt (by omega) (by omega))
            · refine X_aload_n K0 0 dX5_chance_56 rfl rfl ?_
              refine X_iload_n K0 1 dX5_chance_57 rfl rfl ?_
              refine X_iload K0 6 dX5_chance_58 rfl ?_
              refine X_callV (As := [.int way, .int (nI iia)]) (rest := []) K0 12 (m_countOf g c0 c1 c2 c3 c4 c5 c6 c7 c8 c9 c10 c11 mo mki mel mto mio mwy mme mhs mso msr mrs mce mcp 0 stt tr R C op hq kinds elders tq iq wq mef hsf sof srf rsf cef cpf rest hR hC hKI hWq way (nI iia)) mi_X5_countOf rfl rfl rfl ml_RX5_170 rfl (Nat.le_of_ble_eq_true rfl) (by decide) ⟨Nat.le_of_ble_eq_true rfl, Nat.le_of_ble_eq_true rfl⟩ rfl rfl dX5_chance_60 ?_
              intro v w' hr'; obtain ⟨rfl, tq1, iq1, wq1, hq1, rfl⟩ := hr'
              show X φ 0 0 (c0 :: c1 :: c2 :: c3 :: c4 :: c5 :: c6 :: c7 :: c8 :: c9 :: c10 :: c11 :: (mo, oModel 0 stt tr (nI R) (nI C) (bI op) mki mel mto mio mwy (bI true) mme mhs mso msr mrs mce mcp) :: (mki, aI g 40 kinds) :: (mel, aI g 40 elders) :: (mto, aI g 25 tq1) :: (mio, aZ g 40 iq1) :: (mwy, aI g 4096 wq1) :: (mme, aZ g 36 mef) :: (mhs, aZ g 3 hsf) :: (mso, aI g 3 sof) :: (msr, aI g 3 srf) :: (mrs, aI g 12 rsf) :: (mce, aI g 480 cef) :: (mcp, aI g 40 cpf) :: rest) [(0, .ref mo), (1, .int way), (2, .int p), (3, .int q), (4, .int (nI (ctF kinds (thM R C op)))), (5, .long (chM (fun k => cnI (wsM R C op kinds elders way (nI k)) (2 ^ (ctF kinds (thM R C op)))) p q (ctF kinds (thM R C op)) iia)), (7, .int (nI iia))] 63 [.int (cnI (wsM R C op kinds elders way (nI iia)) (2 ^ (ctF kinds (thM R C op))))]
              refine X_i2l (v := ((cnI (wsM R C op kinds elders way (nI iia)) (2 ^ (ctF kinds (thM R C op)))).toInt64)) K0 dX5_chance_63 rfl ?_
              refine X_lstore (L' := [(8, .long ((cnI (wsM R C op kinds elders way (nI iia)) (2 ^ (ctF kinds (thM R C op)))).toInt64)), (0, .ref mo), (1, .int way), (2, .int p), (3, .int q), (4, .int (nI (ctF kinds (thM R C op)))), (5, .long (chM (fun k => cnI (wsM R C op kinds elders way (nI k)) (2 ^ (ctF kinds (thM R C op)))) p q (ctF kinds (thM R C op)) iia)), (7, .int (nI iia))]) K0 dX5_chance_64 (by decide) rfl ?_
              refine X_iconst (v := 0) K0 dX5_chance_66 (by decide) ?_
              refine X_istore (L' := [(10, .int 0), (8, .long ((cnI (wsM R C op kinds elders way (nI iia)) (2 ^ (ctF kinds (thM R C op)))).toInt64)), (0, .ref mo), (1, .int way), (2, .int p), (3, .int q), (4, .int (nI (ctF kinds (thM R C op)))), (5, .long (chM (fun k => cnI (wsM R C op kinds elders way (nI k)) (2 ^ (ctF kinds (thM R C op)))) p q (ctF kinds (thM R C op)) iia)), (7, .int (nI iia))]) K0 dX5_chance_67 (by decide) rfl ?_
              refine X.sub [2, 3, 4, 5, 6, 7, 8, 1, 0] (L' := [(0, .ref mo), (1, .int way), (2, .int p), (3, .int q), (4, .int (nI (ctF kinds (thM R C op)))), (5, .long (chM (fun k => cnI (wsM R C op kinds elders way (nI k)) (2 ^ (ctF kinds (thM R C op)))) p q (ctF kinds (thM R C op)) iia)), (7, .int (nI iia)), (8, .long ((cnI (wsM R C op kinds elders way (nI iia)) (2 ^ (ctF kinds (thM R C op)))).toInt64)), (10, .int 0)]) rfl ?_
              have LOOPb : ∀ (ddb iib : Nat), iib + ddb = (ctF kinds (thM R C op)) → X φ 0 0 (c0 :: c1 :: c2 :: c3 :: c4 :: c5 :: c6 :: c7 :: c8 :: c9 :: c10 :: c11 :: (mo, oModel 0 stt tr (nI R) (nI C) (bI op) mki mel mto mio mwy (bI true) mme mhs mso msr mrs mce mcp) :: (mki, aI g 40 kinds) :: (mel, aI g 40 elders) :: (mto, aI g 25 tq1) :: (mio, aZ g 40 iq1) :: (mwy, aI g 4096 wq1) :: (mme, aZ g 36 mef) :: (mhs, aZ g 3 hsf) :: (mso, aI g 3 sof) :: (msr, aI g 3 srf) :: (mrs, aI g 12 rsf) :: (mce, aI g 480 cef) :: (mcp, aI g 40 cpf) :: rest) [(0, .ref mo), (1, .int way), (2, .int p), (3, .int q), (4, .int (nI (ctF kinds (thM R C op)))), (5, .long (chM (fun k => cnI (wsM R C op kinds elders way (nI k)) (2 ^ (ctF kinds (thM R C op)))) p q (ctF kinds (thM R C op)) iia)), (7, .int (nI iia)), (8, .long (mvF (cnI (wsM R C op kinds elders way (nI iia)) (2 ^ (ctF kinds (thM R C op)))).toInt64 p q iia iib)), (10, .int (nI iib))] 69 [] := by
                intro ddb
                induction ddb with
                | zero =>
                  intro iib hiib 
                  have hii2b : (ctF kinds (thM R C op)) = iib := by omega
                  subst hii2b
                  refine X_iload K0 8 dX5_chance_69 rfl ?_
                  refine X_iload K0 4 dX5_chance_71 rfl ?_
                  refine X_icmp_ge K0 103 dX5_chance_73 (by decide) (fun h73 => ?_) (fun h73 => ?_)
                  · refine X_lload K0 5 dX5_chance_103 rfl ?_
                    refine X_lload K0 7 dX5_chance_105 rfl ?_
                    refine X_ladd K0 dX5_chance_107 ?_
                    refine X_lstore (L' := [(5, .long ((chM (fun k => cnI (wsM R C op kinds elders way (nI k)) (2 ^ (ctF kinds (thM R C op)))) p q (ctF kinds (thM R C op)) iia) + (mvF (cnI (wsM R C op kinds elders way (nI iia)) (2 ^ (ctF kinds (thM R C op)))).toInt64 p q iia (ctF kinds (thM R C op))))), (0, .ref mo), (1, .int way), (2, .int p), (3, .int q), (4, .int (nI (ctF kinds (thM R C op)))), (7, .int (nI iia)), (8, .long (mvF (cnI (wsM R C op kinds elders way (nI iia)) (2 ^ (ctF kinds (thM R C op)))).toInt64 p q iia (ctF kinds (thM R C op)))), (10, .int (nI (ctF kinds (thM R C op))))]) K0 dX5_chance_108 (by decide) rfl ?_
                    refine X_iinc (v := ((nI iia) + 1)) (L' := [(7, .int ((nI iia) + 1)), (5, .long ((chM (fun k => cnI (wsM R C op kinds elders way (nI k)) (2 ^ (ctF kinds (thM R C op)))) p q (ctF kinds (thM R C op)) iia) + (mvF (cnI (wsM R C op kinds elders way (nI iia)) (2 ^ (ctF kinds (thM R C op)))).toInt64 p q iia (ctF kinds (thM R C op))))), (0, .ref mo), (1, .int way), (2, .int p), (3, .int q), (4, .int (nI (ctF kinds (thM R C op)))), (8, .long (mvF (cnI (wsM R C op kinds elders way (nI iia)) (2 ^ (ctF kinds (thM R C op)))).toInt64 p q iia (ctF kinds (thM R C op)))), (10, .int (nI (ctF kinds (thM R C op))))]) K0 6 dX5_chance_110 rfl (by first | rfl | decide) (by decide) rfl ?_
                    refine X_goto K0 49 dX5_chance_113 (by decide) ?_
                    refine X.sub [2, 3, 4, 5, 6, 1, 0] (L' := [(0, .ref mo), (1, .int way), (2, .int p), (3, .int q), (4, .int (nI (ctF kinds (thM R C op)))), (5, .long ((chM (fun k => cnI (wsM R C op kinds elders way (nI k)) (2 ^ (ctF kinds (thM R C op)))) p q (ctF kinds (thM R C op)) iia) + (mvF (cnI (wsM R C op kinds elders way (nI iia)) (2 ^ (ctF kinds (thM R C op)))).toInt64 p q iia (ctF kinds (thM R C op))))), (7, .int ((nI iia) + 1))]) rfl ?_
                    exact X_eq rfl (by rw [nI_succ] <;> rfl) rfl (iha (iia + 1) (by omega) tq1 iq1 wq1 true (fun _ => hq1))
                  · exact absurd (nI_le (Nat.le_refl _) (by omega)) h73
                | succ ddb ihb =>
                  intro iib hiib 
                  have hltb : iib < (ctF kinds (thM R C op)) := by omega
                  have hk31 : iia < 2 ^ 31 ∧ iib < 2 ^ 31 := by omega
                  refine X_iload K0 8 dX5_chance_69 rfl ?_
                  refine X_iload K0 4 dX5_chance_71 rfl ?_
                  refine X_icmp_ge K0 103 dX5_chance_73 (by decide) (fun h73 => ?_) (fun h73 => ?_)
                  · exact absurd h73 (nI_ge hltb (by omega))
                  · refine X_lload K0 7 dX5_chance_76 rfl ?_
                    refine X_iload K0 8 dX5_chance_78 rfl ?_
                    refine X_iload K0 6 dX5_chance_80 rfl ?_
                    refine X_icmp_ge K0 90 dX5_chance_82 (by decide) (fun h82 => ?_) (fun h82 => ?_)
                    · refine X_iload_n K0 3 dX5_chance_90 rfl rfl ?_
                      refine X_iload_n K0 2 dX5_chance_91 rfl rfl ?_
                      refine X_isub K0 dX5_chance_92 ?_
                      refine X_i2l (v := ((q - p).toInt64)) K0 dX5_chance_93 rfl ?_
                      refine X_lmul K0 dX5_chance_94 ?_
                      refine X_lstore (L' := [(8, .long ((mvF (cnI (wsM R C op kinds elders way (nI iia)) (2 ^ (ctF kinds (thM R C op)))).toInt64 p q iia iib) * ((q - p).toInt64))), (0, .ref mo), (1, .int way), (2, .int p), (3, .int q), (4, .int (nI (ctF kinds (thM R C op)))), (5, .long (chM (fun k => cnI (wsM R C op kinds elders way (nI k)) (2 ^ (ctF kinds (thM R C op)))) p q (ctF kinds (thM R C op)) iia)), (7, .int (nI iia)), (10, .int (nI iib))]) K0 dX5_chance_95 (by decide) rfl ?_
                      refine X_iinc (v := ((nI iib) + 1)) (L' := [(10, .int ((nI iib) + 1)), (8, .long ((mvF (cnI (wsM R C op kinds elders way (nI iia)) (2 ^ (ctF kinds (thM R C op)))).toInt64 p q iia iib) * ((q - p).toInt64))), (0, .ref mo), (1, .int way), (2, .int p), (3, .int q), (4, .int (nI (ctF kinds (thM R C op)))), (5, .long (chM (fun k => cnI (wsM R C op kinds elders way (nI k)) (2 ^ (ctF kinds (thM R C op)))) p q (ctF kinds (thM R C op)) iia)), (7, .int (nI iia))]) K0 8 dX5_chance_97 rfl (by first | rfl | decide) (by decide) rfl ?_
                      refine X_goto K0 69 dX5_chance_100 (by decide) ?_
                      refine X.sub [2, 3, 4, 5, 6, 7, 8, 1, 0] (L' := [(0, .ref mo), (1, .int way), (2, .int p), (3, .int q), (4, .int (nI (ctF kinds (thM R C op)))), (5, .long (chM (fun k => cnI (wsM R C op kinds elders way (nI k)) (2 ^ (ctF kinds (thM R C op)))) p q (ctF kinds (thM R C op)) iia)), (7, .int (nI iia)), (8, .long ((mvF (cnI (wsM R C op kinds elders way (nI iia)) (2 ^ (ctF kinds (thM R C op)))).toInt64 p q iia iib) * ((q - p).toInt64))), (10, .int ((nI iib) + 1))]) rfl ?_
                      exact X_eq rfl (by first | (rw [nI_succ, mvF, if_neg (Nat.not_lt.mpr (nle h82 hk31.1 hk31.2))]) | (rw [nI_succ, mvF, if_pos (nlt_nat h82 hk31.2 hk31.1)])) rfl (ihb (iib + 1) (by omega))
                    · refine X_iload_n K0 2 dX5_chance_85 rfl rfl ?_
                      refine X_i2l (v := (p.toInt64)) K0 dX5_chance_86 rfl ?_
                      refine X_goto K0 94 dX5_chance_87 (by decide) ?_
                      refine X_lmul K0 dX5_chance_94 ?_
                      refine X_lstore (L' := [(8, .long ((mvF (cnI (wsM R C op kinds elders way (nI iia)) (2 ^ (ctF kinds (thM R C op)))).toInt64 p q iia iib) * (p.toInt64))), (0, .ref mo), (1, .int way), (2, .int p), (3, .int q), (4, .int (nI (ctF kinds (thM R C op)))), (5, .long (chM (fun k => cnI (wsM R C op kinds elders way (nI k)) (2 ^ (ctF kinds (thM R C op)))) p q (ctF kinds (thM R C op)) iia)), (7, .int (nI iia)), (10, .int (nI iib))]) K0 dX5_chance_95 (by decide) rfl ?_
                      refine X_iinc (v := ((nI iib) + 1)) (L' := [(10, .int ((nI iib) + 1)), (8, .long ((mvF (cnI (wsM R C op kinds elders way (nI iia)) (2 ^ (ctF kinds (thM R C op)))).toInt64 p q iia iib) * (p.toInt64))), (0, .ref mo), (1, .int way), (2, .int p), (3, .int q), (4, .int (nI (ctF kinds (thM R C op)))), (5, .long (chM (fun k => cnI (wsM R C op kinds elders way (nI k)) (2 ^ (ctF kinds (thM R C op)))) p q (ctF kinds (thM R C op)) iia)), (7, .int (nI iia))]) K0 8 dX5_chance_97 rfl (by first | rfl | decide) (by decide) rfl ?_
                      refine X_goto K0 69 dX5_chance_100 (by decide) ?_
                      refine X.sub [2, 3, 4, 5, 6, 7, 8, 1, 0] (L' := [(0, .ref mo), (1, .int way), (2, .int p), (3, .int q), (4, .int (nI (ctF kinds (thM R C op)))), (5, .long (chM (fun k => cnI (wsM R C op kinds elders way (nI k)) (2 ^ (ctF kinds (thM R C op)))) p q (ctF kinds (thM R C op)) iia)), (7, .int (nI iia)), (8, .long ((mvF (cnI (wsM R C op kinds elders way (nI iia)) (2 ^ (ctF kinds (thM R C op)))).toInt64 p q iia iib) * (p.toInt64))), (10, .int ((nI iib) + 1))]) rfl ?_
                      exact X_eq rfl (by first | (rw [nI_succ, mvF, if_neg (Nat.not_lt.mpr (nle h82 hk31.1 hk31.2))]) | (rw [nI_succ, mvF, if_pos (nlt_nat h82 hk31.2 hk31.1)])) rfl (ihb (iib + 1) (by omega))
              exact LOOPb (ctF kinds (thM R C op)) 0 (by omega)
        exact LOOPa ((ctF kinds (thM R C op)) + 1) 0 (by omega) tof iof wyf hwb hWY
      · refine X_ldc2 K0 co_RX5_173 dX5_chance_33 ?_
        exact hr _ _ _ _ ⟨by rw [cvVM, no_if (by first | exact p_n (bI_0.mp h11) | exact p_yn (bI_n0.mp h11) (p_n (bI_0.mp h21)) | exact p_yn (bI_n0.mp h11) (p_yn (bI_n0.mp h21) (bI_0.mp h30)))], tof, iof, wyf, mef, hwb, hWY, rfl⟩ dX5_chance_36

set_option maxRecDepth 20000 in
set_option maxHeartbeats 400000 in
theorem m_pivot (g : Gx) (c0 c1 c2 c3 c4 c5 c6 c7 c8 c9 c10 c11 : Nat × va_E) (mo mki mel mto mio mwy mme mhs mso msr mrs mce mcp : Nat) (tn stt : Int32) (tr : Int64) (R C : Nat) (op hwb : Bool) (kinds elders tof iof wyf mef hsf sof srf rsf cef cpf : Nat → Int32) (rest : va_W) (hR : 1 ≤ R ∧ R ≤ 5) (hC : 1 ≤ C ∧ C ≤ 5) (hKI : KI (thM R C op) kinds elders) (hWY : WY R C op kinds elders hwb wyf) (way i : Int32) : Con g yX5_pivot cX5_pivot 5 (some .int) 5 107 0 0 [.ref mo, .int way, .int i] (c0 :: c1 :: c2 :: c3 :: c4 :: c5 :: c6 :: c7 :: c8 :: c9 :: c10 :: c11 :: (mo, oModel tn stt tr (nI R) (nI C) (bI op) mki mel mto mio mwy (bI hwb) mme mhs mso msr mrs mce mcp) :: (mki, aI g 40 kinds) :: (mel, aI g 40 elders) :: (mto, aI g 25 tof) :: (mio, aZ g 40 iof) :: (mwy, aI g 4096 wyf) :: (mme, aZ g 36 mef) :: (mhs, aZ g 3 hsf) :: (mso, aI g 3 sof) :: (msr, aI g 3 srf) :: (mrs, aI g 12 rsf) :: (mce, aI g 480 cef) :: (mcp, aI g 40 cpf) :: rest) (fun v w' => v = some (.int (pvVM R C op kinds elders way i)) ∧ ∃ (tq iq wq mq : Nat → Int32) (hq : Bool), WY R C op kinds elders hq wq ∧ (c0 :: c1 :: c2 :: c3 :: c4 :: c5 :: c6 :: c7 :: c8 :: c9 :: c10 :: c11 :: (mo, oModel 0 stt tr (nI R) (nI C) (bI op) mki mel mto mio mwy (bI hq) mme mhs mso msr mrs mce mcp) :: (mki, aI g 40 kinds) :: (mel, aI g 40 elders) :: (mto, aI g 25 tq) :: (mio, aZ g 40 iq) :: (mwy, aI g 4096 wq) :: (mme, aZ g 36 mq) :: (mhs, aZ g 3 hsf) :: (mso, aI g 3 sof) :: (msr, aI g 3 srf) :: (mrs, aI g 12 rsf) :: (mce, aI g 480 cef) :: (mcp, aI g 40 cpf) :: rest) = w') := by
  have hTM := th_M (op := op) hR hC
  have hPM := pl_M hR hC
  have hRM := rd_M hR hC
  have hN := pow_m hKI.2
  have hM12 := hKI.2
  refine Con.ofI (by decide +kernel) (Nat.le_of_ble_eq_true rfl) (fun φ K0 hr => ?_)
  show X φ 0 0 (c0 :: c1 :: c2 :: c3 :: c4 :: c5 :: c6 :: c7 :: c8 :: c9 :: c10 :: c11 :: (mo, oModel tn stt tr (nI R) (nI C) (bI op) mki mel mto mio mwy (bI hwb) mme mhs mso msr mrs mce mcp) :: (mki, aI g 40 kinds) :: (mel, aI g 40 elders) :: (mto, aI g 25 tof) :: (mio, aZ g 40 iof) :: (mwy, aI g 4096 wyf) :: (mme, aZ g 36 mef) :: (mhs, aZ g 3 hsf) :: (mso, aI g 3 sof) :: (msr, aI g 3 srf) :: (mrs, aI g 12 rsf) :: (mce, aI g 480 cef) :: (mcp, aI g 40 cpf) :: rest) [(0, .ref mo), (1, .int way), (2, .int i)] 0 []
  refine X_aload_n K0 0 dX5_pivot_0 rfl rfl ?_
  refine X_iconst (v := 0) K0 dX5_pivot_1 (by decide) ?_
  refine X_put (w' := (c0 :: c1 :: c2 :: c3 :: c4 :: c5 :: c6 :: c7 :: c8 :: c9 :: c10 :: c11 :: (mo, oModel 0 stt tr (nI R) (nI C) (bI op) mki mel mto mio mwy (bI hwb) mme mhs mso msr mrs mce mcp) :: (mki, aI g 40 kinds) :: (mel, aI g 40 elders) :: (mto, aI g 25 tof) :: (mio, aZ g 40 iof) :: (mwy, aI g 4096 wyf) :: (mme, aZ g 36 mef) :: (mhs, aZ g 3 hsf) :: (mso, aI g 3 sof) :: (msr, aI g 3 srf) :: (mrs, aI g 12 rsf) :: (mce, aI g 480 cef) :: (mcp, aI g 40 cpf) :: rest)) K0 12 rfl rfl hin5 tyX5 tyX5_ok nmX5 0 (by decide) fl_RX5_58 rfl (tyX5_ok 0 (by decide)) rfl rfl (Nat.le_of_ble_eq_true rfl) dX5_pivot_2 rfl ?_
  refine X_iload_n K0 1 dX5_pivot_5 rfl rfl ?_
  refine X_iconst (v := 0) K0 dX5_pivot_6 (by decide) ?_
  refine X_iconst (v := 3) K0 dX5_pivot_7 (by decide) ?_
  refine X_callS (As := [.int way, .int 0, .int 3]) (rest := []) K0 (c_in g (c0 :: c1 :: c2 :: c3 :: c4 :: c5 :: c6 :: c7 :: c8 :: c9 :: c10 :: c11 :: (mo, oModel 0 stt tr (nI R) (nI C) (bI op) mki mel mto mio mwy (bI hwb) mme mhs mso msr mrs mce mcp) :: (mki, aI g 40 kinds) :: (mel, aI g 40 elders) :: (mto, aI g 25 tof) :: (mio, aZ g 40 iof) :: (mwy, aI g 4096 wyf) :: (mme, aZ g 36 mef) :: (mhs, aZ g 3 hsf) :: (mso, aI g 3 sof) :: (msr, aI g 3 srf) :: (mrs, aI g 12 rsf) :: (mce, aI g 480 cef) :: (mcp, aI g 40 cpf) :: rest) way 0 3) ms_X5_in rfl ml_RX5_81 rfl (Nat.le_of_ble_eq_true rfl) (by decide) ⟨Nat.le_of_ble_eq_true rfl, Nat.le_of_ble_eq_true rfl⟩ rfl rfl dX5_pivot_8 ?_
  intro v w' hr'; obtain ⟨rfl, rfl⟩ := hr'
  show X φ 0 0 (c0 :: c1 :: c2 :: c3 :: c4 :: c5 :: c6 :: c7 :: c8 :: c9 :: c10 :: c11 :: (mo, oModel 0 stt tr (nI R) (nI C) (bI op) mki mel mto mio mwy (bI hwb) mme mhs mso msr mrs mce mcp) :: (mki, aI g 40 kinds) :: (mel, aI g 40 elders) :: (mto, aI g 25 tof) :: (mio, aZ g 40 iof) :: (mwy, aI g 4096 wyf) :: (mme, aZ g 36 mef) :: (mhs, aZ g 3 hsf) :: (mso, aI g 3 sof) :: (msr, aI g 3 srf) :: (mrs, aI g 12 rsf) :: (mce, aI g 480 cef) :: (mcp, aI g 40 cpf) :: rest) [(0, .ref mo), (1, .int way), (2, .int i)] 11 [.int (bI (wiB way 0 3))]
  refine X_if_eq K0 28 dX5_pivot_11 (by decide) (fun h11 => ?_) (fun h11 => ?_)
  · refine X_iconst (v := (-1)) K0 dX5_pivot_28 (by decide) ?_
    exact hr _ _ _ _ ⟨by rw [pvVM, no_if (by first | exact p_n (bI_0.mp h11) | exact p_yn (bI_n0.mp h11) (bI_0.mp h25))], tof, iof, wyf, mef, hwb, hWY, rfl⟩ dX5_pivot_29
  · refine X_iload_n K0 2 dX5_pivot_14 rfl rfl ?_
    refine X_iconst (v := 0) K0 dX5_pivot_15 (by decide) ?_
    refine X_aload_n K0 0 dX5_pivot_16 rfl rfl ?_
    refine X_callV (As := []) (rest := [.int 0, .int i]) K0 12 (m_chances g c0 c1 c2 c3 c4 c5 c6 c7 c8 c9 c10 c11 mo mki mel mto mio mwy mme mhs mso msr mrs mce mcp 0 stt tr R C op hwb kinds elders tof iof wyf mef hsf sof srf rsf cef cpf rest hR hC ) mi_X5_chances rfl rfl rfl ml_RX5_85 rfl (Nat.le_of_ble_eq_true rfl) (by decide) ⟨Nat.le_of_ble_eq_true rfl, Nat.le_of_ble_eq_true rfl⟩ rfl rfl dX5_pivot_17 ?_
    intro v w' hr'; obtain ⟨rfl, rfl⟩ := hr'
    show X φ 0 0 (c0 :: c1 :: c2 :: c3 :: c4 :: c5 :: c6 :: c7 :: c8 :: c9 :: c10 :: c11 :: (mo, oModel 0 stt tr (nI R) (nI C) (bI op) mki mel mto mio mwy (bI hwb) mme mhs mso msr mrs mce mcp) :: (mki, aI g 40 kinds) :: (mel, aI g 40 elders) :: (mto, aI g 25 tof) :: (mio, aZ g 40 iof) :: (mwy, aI g 4096 wyf) :: (mme, aZ g 36 mef) :: (mhs, aZ g 3 hsf) :: (mso, aI g 3 sof) :: (msr, aI g 3 srf) :: (mrs, aI g 12 rsf) :: (mce, aI g 480 cef) :: (mcp, aI g 40 cpf) :: rest) [(0, .ref mo), (1, .int way), (2, .int i)] 20 [.int (nI (ctF kinds (thM R C op))), .int 0, .int i]
    refine X_iconst (v := 1) K0 dX5_pivot_20 (by decide) ?_
    refine X_isub K0 dX5_pivot_21 ?_
    refine X_callS (As := [.int i, .int 0, .int ((nI (ctF kinds (thM R C op))) - 1)]) (rest := []) K0 (c_in g (c0 :: c1 :: c2 :: c3 :: c4 :: c5 :: c6 :: c7 :: c8 :: c9 :: c10 :: c11 :: (mo, oModel 0 stt tr (nI R) (nI C) (bI op) mki mel mto mio mwy (bI hwb) mme mhs mso msr mrs mce mcp) :: (mki, aI g 40 kinds) :: (mel, aI g 40 elders) :: (mto, aI g 25 tof) :: (mio, aZ g 40 iof) :: (mwy, aI g 4096 wyf) :: (mme, aZ g 36 mef) :: (mhs, aZ g 3 hsf) :: (mso, aI g 3 sof) :: (msr, aI g 3 srf) :: (mrs, aI g 12 rsf) :: (mce, aI g 480 cef) :: (mcp, aI g 40 cpf) :: rest) i 0 ((nI (ctF kinds (thM R C op))) - 1)) ms_X5_in rfl ml_RX5_81 rfl (Nat.le_of_ble_eq_true rfl) (by decide) ⟨Nat.le_of_ble_eq_true rfl, Nat.le_of_ble_eq_true rfl⟩ rfl rfl dX5_pivot_22 ?_
    intro v w' hr'; obtain ⟨rfl, rfl⟩ := hr'
    show X φ 0 0 (c0 :: c1 :: c2 :: c3 :: c4 :: c5 :: c6 :: c7 :: c8 :: c9 :: c10 :: c11 :: (mo, oModel 0 stt tr (nI R) (nI C) (bI op) mki mel mto mio mwy (bI hwb) mme mhs mso msr mrs mce mcp) :: (mki, aI g 40 kinds) :: (mel, aI g 40 elders) :: (mto, aI g 25 tof) :: (mio, aZ g 40 iof) :: (mwy, aI g 4096 wyf) :: (mme, aZ g 36 mef) :: (mhs, aZ g 3 hsf) :: (mso, aI g 3 sof) :: (msr, aI g 3 srf) :: (mrs, aI g 12 rsf) :: (mce, aI g 480 cef) :: (mcp, aI g 40 cpf) :: rest) [(0, .ref mo), (1, .int way), (2, .int i)] 25 [.int (bI (wiB i 0 ((nI (ctF kinds (thM R C op))) - 1)))]
    refine X_if_ne K0 30 dX5_pivot_25 (by decide) (fun h25 => ?_) (fun h25 => ?_)
    · obtain ⟨ji, hji, rfl⟩ := wi_of (bI_n0.mp h25) (by omega)
      have hclji : (nI ji).toNatClampNeg = ji := nI_clamp (by omega)
      refine X_aload_n K0 0 dX5_pivot_30 rfl rfl ?_
      refine X_callV (As := []) (rest := []) K0 12 (m_needWays g c0 c1 c2 c3 c4 c5 c6 c7 c8 c9 c10 c11 mo mki mel mto mio mwy mme mhs mso msr mrs mce mcp 0 stt tr R C op hwb kinds elders tof iof wyf mef hsf sof srf rsf cef cpf rest hR hC hKI hWY) mi_X5_needWays rfl rfl rfl ml_RX5_138 rfl (Nat.le_of_ble_eq_true rfl) (by decide) ⟨Nat.le_of_ble_eq_true rfl, Nat.le_of_ble_eq_true rfl⟩ rfl rfl dX5_pivot_31 ?_
      intro v w' hr'; obtain ⟨rfl, tq1, iq1, wq1, hq1, rfl⟩ := hr'
      show X φ 0 0 (c0 :: c1 :: c2 :: c3 :: c4 :: c5 :: c6 :: c7 :: c8 :: c9 :: c10 :: c11 :: (mo, oModel 0 stt tr (nI R) (nI C) (bI op) mki mel mto mio mwy (bI true) mme mhs mso msr mrs mce mcp) :: (mki, aI g 40 kinds) :: (mel, aI g 40 elders) :: (mto, aI g 25 tq1) :: (mio, aZ g 40 iq1) :: (mwy, aI g 4096 wq1) :: (mme, aZ g 36 mef) :: (mhs, aZ g 3 hsf) :: (mso, aI g 3 sof) :: (msr, aI g 3 srf) :: (mrs, aI g 12 rsf) :: (mce, aI g 480 cef) :: (mcp, aI g 40 cpf) :: rest) [(0, .ref mo), (1, .int way), (2, .int (nI ji))] 34 []
      refine X_iconst (v := 0) K0 dX5_pivot_34 (by decide) ?_
      refine X_istore_n (L' := [(3, .int 0), (0, .ref mo), (1, .int way), (2, .int (nI ji))]) K0 dX5_pivot_35 rfl (by decide) rfl ?_
      refine X_iconst (v := 0) K0 dX5_pivot_36 (by decide) ?_
      refine X_istore (L' := [(4, .int 0), (3, .int 0), (0, .ref mo), (1, .int way), (2, .int (nI ji))]) K0 dX5_pivot_37 (by decide) rfl ?_
      refine X.sub [2, 3, 4, 1, 0] (L' := [(0, .ref mo), (1, .int way), (2, .int (nI ji)), (3, .int 0), (4, .int 0)]) rfl ?_
      have LOOP : ∀ (dd ii : Nat), ii + dd = (2 ^ (ctF kinds (thM R C op))) → X φ 0 0 (c0 :: c1 :: c2 :: c3 :: c4 :: c5 :: c6 :: c7 :: c8 :: c9 :: c10 :: c11 :: (mo, oModel 0 stt tr (nI R) (nI C) (bI op) mki mel mto mio mwy (bI true) mme mhs mso msr mrs mce mcp) :: (mki, aI g 40 kinds) :: (mel, aI g 40 elders) :: (mto, aI g 25 tq1) :: (mio, aZ g 40 iq1) :: (mwy, aI g 4096 wq1) :: (mme, aZ g 36 mef) :: (mhs, aZ g 3 hsf) :: (mso, aI g 3 sof) :: (msr, aI g 3 srf) :: (mrs, aI g 12 rsf) :: (mce, aI g 480 cef) :: (mcp, aI g 40 cpf) :: rest) [(0, .ref mo), (1, .int way), (2, .int (nI ji)), (3, .int (cnI (pvM R C op kinds elders way ji) ii)), (4, .int (nI ii))] 39 [] := by
        intro dd
        induction dd with
        | zero =>
          intro ii hii 
          have hii2 : (2 ^ (ctF kinds (thM R C op))) = ii := by omega
          subst hii2
          refine X_iload K0 4 dX5_pivot_39 rfl ?_
          refine X_iconst (v := 1) K0 dX5_pivot_41 (by decide) ?_
          refine X_aload_n K0 0 dX5_pivot_42 rfl rfl ?_
          refine X_callV (As := []) (rest := [.int 1, .int (nI (2 ^ (ctF kinds (thM R C op))))]) K0 12 (m_chances g c0 c1 c2 c3 c4 c5 c6 c7 c8 c9 c10 c11 mo mki mel mto mio mwy mme mhs mso msr mrs mce mcp 0 stt tr R C op true kinds elders tq1 iq1 wq1 mef hsf sof srf rsf cef cpf rest hR hC ) mi_X5_chances rfl rfl rfl ml_RX5_85 rfl (Nat.le_of_ble_eq_true rfl) (by decide) ⟨Nat.le_of_ble_eq_true rfl, Nat.le_of_ble_eq_true rfl⟩ rfl rfl dX5_pivot_43 ?_
          intro v w' hr'; obtain ⟨rfl, rfl⟩ := hr'
          show X φ 0 0 (c0 :: c1 :: c2 :: c3 :: c4 :: c5 :: c6 :: c7 :: c8 :: c9 :: c10 :: c11 :: (mo, oModel 0 stt tr (nI R) (nI C) (bI op) mki mel mto mio mwy (bI true) mme mhs mso msr mrs mce mcp) :: (mki, aI g 40 kinds) :: (mel, aI g 40 elders) :: (mto, aI g 25 tq1) :: (mio, aZ g 40 iq1) :: (mwy, aI g 4096 wq1) :: (mme, aZ g 36 mef) :: (mhs, aZ g 3 hsf) :: (mso, aI g 3 sof) :: (msr, aI g 3 srf) :: (mrs, aI g 12 rsf) :: (mce, aI g 480 cef) :: (mcp, aI g 40 cpf) :: rest) [(0, .ref mo), (1, .int way), (2, .int (nI ji)), (3, .int (cnI (pvM R C op kinds elders way ji) (2 ^ (ctF kinds (thM R C op))))), (4, .int (nI (2 ^ (ctF kinds (thM R C op)))))] 46 [.int (nI (ctF kinds (thM R C op))), .int 1, .int (nI (2 ^ (ctF kinds (thM R C op))))]
          refine X_ishl K0 dX5_pivot_46 ?_
          refine X_v (z := (nI (2 ^ (ctF kinds (thM R C op))))) (shl_ct hKI.2) ?_
          refine X_icmp_ge K0 98 dX5_pivot_47 (by decide) (fun h47 => ?_) (fun h47 => ?_)
          · refine X_iload_n K0 3 dX5_pivot_98 rfl rfl ?_
            exact hr _ _ _ _ ⟨by rw [pvVM, yes_if (p_yy (bI_n0.mp h11) (bI_n0.mp h25)), hclji], tq1, iq1, wq1, mef, true, (fun _ => hq1), rfl⟩ dX5_pivot_99
          · exact absurd (nI_le (Nat.le_refl _) (by omega)) h47
        | succ dd ih =>
          intro ii hii 
          have hlt : ii < (2 ^ (ctF kinds (thM R C op))) := by omega
          refine X_iload K0 4 dX5_pivot_39 rfl ?_
          refine X_iconst (v := 1) K0 dX5_pivot_41 (by decide) ?_
          refine X_aload_n K0 0 dX5_pivot_42 rfl rfl ?_
          refine X_callV (As := []) (rest := [.int 1, .int (nI ii)]) K0 12 (m_chances g c0 c1 c2 c3 c4 c5 c6 c7 c8 c9 c10 c11 mo mki mel mto mio mwy mme mhs mso msr mrs mce mcp 0 stt tr R C op true kinds elders tq1 iq1 wq1 mef hsf sof srf rsf cef cpf rest hR hC ) mi_X5_chances rfl rfl rfl ml_RX5_85 rfl (Nat.le_of_ble_eq_true rfl) (by decide) ⟨Nat.le_of_ble_eq_true rfl, Nat.le_of_ble_eq_true rfl⟩ rfl rfl dX5_pivot_43 ?_
          intro v w' hr'; obtain ⟨rfl, rfl⟩ := hr'
          show X φ 0 0 (c0 :: c1 :: c2 :: c3 :: c4 :: c5 :: c6 :: c7 :: c8 :: c9 :: c10 :: c11 :: (mo, oModel 0 stt tr (nI R) (nI C) (bI op) mki mel mto mio mwy (bI true) mme mhs mso msr mrs mce mcp) :: (mki, aI g 40 kinds) :: (mel, aI g 40 elders) :: (mto, aI g 25 tq1) :: (mio, aZ g 40 iq1) :: (mwy, aI g 4096 wq1) :: (mme, aZ g 36 mef) :: (mhs, aZ g 3 hsf) :: (mso, aI g 3 sof) :: (msr, aI g 3 srf) :: (mrs, aI g 12 rsf) :: (mce, aI g 480 cef) :: (mcp, aI g 40 cpf) :: rest) [(0, .ref mo), (1, .int way), (2, .int (nI ji)), (3, .int (cnI (pvM R C op kinds elders way ji) ii)), (4, .int (nI ii))] 46 [.int (nI (ctF kinds (thM R C op))), .int 1, .int (nI ii)]
          refine X_ishl K0 dX5_pivot_46 ?_
          refine X_v (z := (nI (2 ^ (ctF kinds (thM R C op))))) (shl_ct hKI.2) ?_
          refine X_icmp_ge K0 98 dX5_pivot_47 (by decide) (fun h47 => ?_) (fun h47 => ?_)
          · exact absurd h47 (nI_ge hlt (by omega))
          · refine X_iload_n K0 3 dX5_pivot_50 rfl rfl ?_
            refine X_iload K0 4 dX5_pivot_51 rfl ?_
            refine X_iload_n K0 2 dX5_pivot_53 rfl rfl ?_
            refine X_ishr K0 dX5_pivot_54 ?_
            refine X_iconst (v := 1) K0 dX5_pivot_55 (by decide) ?_
            refine X_iand K0 dX5_pivot_56 ?_
            refine X_iconst (v := 1) K0 dX5_pivot_57 (by decide) ?_
            refine X_icmp_ne K0 89 dX5_pivot_58 (by decide) (fun h58 => ?_) (fun h58 => ?_)
            · refine X_iconst (v := 0) K0 dX5_pivot_89 (by decide) ?_
              refine X_iadd K0 dX5_pivot_90 ?_
              refine X_istore_n (L' := [(3, .int ((cnI (pvM R C op kinds elders way ji) ii) + 0)), (0, .ref mo), (1, .int way), (2, .int (nI ji)), (4, .int (nI ii))]) K0 dX5_pivot_91 rfl (by decide) rfl ?_
              refine X_iinc (v := ((nI ii) + 1)) (L' := [(4, .int ((nI ii) + 1)), (3, .int ((cnI (pvM R C op kinds elders way ji) ii) + 0)), (0, .ref mo), (1, .int way), (2, .int (nI ji))]) K0 4 dX5_pivot_92 rfl (by first | rfl | decide) (by decide) rfl ?_
              refine X_goto K0 39 dX5_pivot_95 (by decide) ?_
              refine X.sub [2, 3, 4, 1, 0] (L' := [(0, .ref mo), (1, .int way), (2, .int (nI ji)), (3, .int ((cnI (pvM R C op kinds elders way ji) ii) + 0)), (4, .int ((nI ii) + 1))]) rfl ?_
              exact X_eq rfl (by first | (rw [nI_succ, cn_n0 (p := (pvM R C op kinds elders way ji)) (i := ii) (pm_n1 h58)]) | (rw [nI_succ, cn_n0 (p := (pvM R C op kinds elders way ji)) (i := ii) (pm_n2 h68)]) | (rw [nI_succ, cn_n0 (p := (pvM R C op kinds elders way ji)) (i := ii) (pm_n3 h82)]) | (rw [nI_succ, cn_y1 (p := (pvM R C op kinds elders way ji)) (i := ii) (pm_y h58 h68 h82)])) rfl (ih (ii + 1) (by omega))
            · refine X_aload_n K0 0 dX5_pivot_61 rfl rfl ?_
              refine X_iload K0 4 dX5_pivot_62 rfl ?_
              refine X_iload_n K0 1 dX5_pivot_64 rfl rfl ?_
              refine X_callV (As := [.int (nI ii), .int way]) (rest := [.int (cnI (pvM R C op kinds elders way ji) ii)]) K0 12 (m_is g c0 c1 c2 c3 c4 c5 c6 c7 c8 c9 c10 c11 mo mki mel mto mio mwy mme mhs mso msr mrs mce mcp 0 stt tr R C op true kinds elders tq1 iq1 wq1 mef hsf sof srf rsf cef cpf rest ii (by omega) (hq1 ii (by omega)) way) mi_X5_is rfl rfl rfl ml_RX5_141 rfl (Nat.le_of_ble_eq_true rfl) (by decide) ⟨Nat.le_of_ble_eq_true rfl, Nat.le_of_ble_eq_true rfl⟩ rfl rfl dX5_pivot_65 ?_
              intro v w' hr'; obtain ⟨rfl, rfl⟩ := hr'
              show X φ 0 0 (c0 :: c1 :: c2 :: c3 :: c4 :: c5 :: c6 :: c7 :: c8 :: c9 :: c10 :: c11 :: (mo, oModel 0 stt tr (nI R) (nI C) (bI op) mki mel mto mio mwy (bI true) mme mhs mso msr mrs mce mcp) :: (mki, aI g 40 kinds) :: (mel, aI g 40 elders) :: (mto, aI g 25 tq1) :: (mio, aZ g 40 iq1) :: (mwy, aI g 4096 wq1) :: (mme, aZ g 36 mef) :: (mhs, aZ g 3 hsf) :: (mso, aI g 3 sof) :: (msr, aI g 3 srf) :: (mrs, aI g 12 rsf) :: (mce, aI g 480 cef) :: (mcp, aI g 40 cpf) :: rest) [(0, .ref mo), (1, .int way), (2, .int (nI ji)), (3, .int (cnI (pvM R C op kinds elders way ji) ii)), (4, .int (nI ii))] 68 [.int (bI (isM R C op kinds elders ii way)), .int (cnI (pvM R C op kinds elders way ji) ii)]
              refine X_if_eq K0 89 dX5_pivot_68 (by decide) (fun h68 => ?_) (fun h68 => ?_)
              · refine X_iconst (v := 0) K0 dX5_pivot_89 (by decide) ?_
                refine X_iadd K0 dX5_pivot_90 ?_
                refine X_istore_n (L' := [(3, .int ((cnI (pvM R C op kinds elders way ji) ii) + 0)), (0, .ref mo), (1, .int way), (2, .int (nI ji)), (4, .int (nI ii))]) K0 dX5_pivot_91 rfl (by decide) rfl ?_
                refine X_iinc (v := ((nI ii) + 1)) (L' := [(4, .int ((nI ii) + 1)), (3, .int ((cnI (pvM R C op kinds elders way ji) ii) + 0)), (0, .ref mo), (1, .int way), (2, .int (nI ji))]) K0 4 dX5_pivot_92 rfl (by first | rfl | decide) (by decide) rfl ?_
                refine X_goto K0 39 dX5_pivot_95 (by decide) ?_
                refine X.sub [2, 3, 4, 1, 0] (L' := [(0, .ref mo), (1, .int way), (2, .int (nI ji)), (3, .int ((cnI (pvM R C op kinds elders way ji) ii) + 0)), (4, .int ((nI ii) + 1))]) rfl ?_
                exact X_eq rfl (by first | (rw [nI_succ, cn_n0 (p := (pvM R C op kinds elders way ji)) (i := ii) (pm_n1 h58)]) | (rw [nI_succ, cn_n0 (p := (pvM R C op kinds elders way ji)) (i := ii) (pm_n2 h68)]) | (rw [nI_succ, cn_n0 (p := (pvM R C op kinds elders way ji)) (i := ii) (pm_n3 h82)]) | (rw [nI_succ, cn_y1 (p := (pvM R C op kinds elders way ji)) (i := ii) (pm_y h58 h68 h82)])) rfl (ih (ii + 1) (by omega))
              · refine X_aload_n K0 0 dX5_pivot_71 rfl rfl ?_
                refine X_iload K0 4 dX5_pivot_72 rfl ?_
                refine X_iconst (v := 1) K0 dX5_pivot_74 (by decide) ?_
                refine X_iload_n K0 2 dX5_pivot_75 rfl rfl ?_
                refine X_ishl K0 dX5_pivot_76 ?_
                refine X_isub K0 dX5_pivot_77 ?_
                refine X_v (z := (nI (ii - 2 ^ ji))) (pv_sub (by omega) (by omega) h58).2 ?_
                refine X_iload_n K0 1 dX5_pivot_78 rfl rfl ?_
                refine X_callV (As := [.int (nI (ii - 2 ^ ji)), .int way]) (rest := [.int (cnI (pvM R C op kinds elders way ji) ii)]) K0 12 (m_is g c0 c1 c2 c3 c4 c5 c6 c7 c8 c9 c10 c11 mo mki mel mto mio mwy mme mhs mso msr mrs mce mcp 0 stt tr R C op true kinds elders tq1 iq1 wq1 mef hsf sof srf rsf cef cpf rest (ii - 2 ^ ji) (Nat.lt_of_le_of_lt (Nat.sub_le _ _) (by omega)) (hq1 (ii - 2 ^ ji) (Nat.lt_of_le_of_lt (Nat.sub_le _ _) (by omega))) way) mi_X5_is rfl rfl rfl ml_RX5_141 rfl (Nat.le_of_ble_eq_true rfl) (by decide) ⟨Nat.le_of_ble_eq_true rfl, Nat.le_of_ble_eq_true rfl⟩ rfl rfl dX5_pivot_79 ?_
                intro v w' hr'; obtain ⟨rfl, rfl⟩ := hr'
                show X φ 0 0 (c0 :: c1 :: c2 :: c3 :: c4 :: c5 :: c6 :: c7 :: c8 :: c9 :: c10 :: c11 :: (mo, oModel 0 stt tr (nI R) (nI C) (bI op) mki mel mto mio mwy (bI true) mme mhs mso msr mrs mce mcp) :: (mki, aI g 40 kinds) :: (mel, aI g 40 elders) :: (mto, aI g 25 tq1) :: (mio, aZ g 40 iq1) :: (mwy, aI g 4096 wq1) :: (mme, aZ g 36 mef) :: (mhs, aZ g 3 hsf) :: (mso, aI g 3 sof) :: (msr, aI g 3 srf) :: (mrs, aI g 12 rsf) :: (mce, aI g 480 cef) :: (mcp, aI g 40 cpf) :: rest) [(0, .ref mo), (1, .int way), (2, .int (nI ji)), (3, .int (cnI (pvM R C op kinds elders way ji) ii)), (4, .int (nI ii))] 82 [.int (bI (isM R C op kinds elders (ii - 2 ^ ji) way)), .int (cnI (pvM R C op kinds elders way ji) ii)]
                refine X_if_ne K0 89 dX5_pivot_82 (by decide) (fun h82 => ?_) (fun h82 => ?_)
                · refine X_iconst (v := 0) K0 dX5_pivot_89 (by decide) ?_
                  refine X_iadd K0 dX5_pivot_90 ?_
                  refine X_istore_n (L' := [(3, .int ((cnI (pvM R C op kinds elders way ji) ii) + 0)), (0, .ref mo), (1, .int way), (2, .int (nI ji)), (4, .int (nI ii))]) K0 dX5_pivot_91 rfl (by decide) rfl ?_
                  refine X_iinc (v := ((nI ii) + 1)) (L' := [(4, .int ((nI ii) + 1)), (3, .int ((cnI (pvM R C op kinds elders way ji) ii) + 0)), (0, .ref mo), (1, .int way), (2, .int (nI ji))]) K0 4 dX5_pivot_92 rfl (by first | rfl | decide) (by decide) rfl ?_
                  refine X_goto K0 39 dX5_pivot_95 (by decide) ?_
                  refine X.sub [2, 3, 4, 1, 0] (L' := [(0, .ref mo), (1, .int way), (2, .int (nI ji)), (3, .int ((cnI (pvM R C op kinds elders way ji) ii) + 0)), (4, .int ((nI ii) + 1))]) rfl ?_
                  exact X_eq rfl (by first | (rw [nI_succ, cn_n0 (p := (pvM R C op kinds elders way ji)) (i := ii) (pm_n1 h58)]) | (rw [nI_succ, cn_n0 (p := (pvM R C op kinds elders way ji)) (i := ii) (pm_n2 h68)]) | (rw [nI_succ, cn_n0 (p := (pvM R C op kinds elders way ji)) (i := ii) (pm_n3 h82)]) | (rw [nI_succ, cn_y1 (p := (pvM R C op kinds elders way ji)) (i := ii) (pm_y h58 h68 h82)])) rfl (ih (ii + 1) (by omega))
                · refine X_iconst (v := 1) K0 dX5_pivot_85 (by decide) ?_
                  refine X_goto K0 90 dX5_pivot_86 (by decide) ?_
                  refine X_iadd K0 dX5_pivot_90 ?_
                  refine X_istore_n (L' := [(3, .int ((cnI (pvM R C op kinds elders way ji) ii) + 1)), (0, .ref mo), (1, .int way), (2, .int (nI ji)), (4, .int (nI ii))]) K0 dX5_pivot_91 rfl (by decide) rfl ?_
                  refine X_iinc (v := ((nI ii) + 1)) (L' := [(4, .int ((nI ii) + 1)), (3, .int ((cnI (pvM R C op kinds elders way ji) ii) + 1)), (0, .ref mo), (1, .int way), (2, .int (nI ji))]) K0 4 dX5_pivot_92 rfl (by first | rfl | decide) (by decide) rfl ?_
                  refine X_goto K0 39 dX5_pivot_95 (by decide) ?_
                  refine X.sub [2, 3, 4, 1, 0] (L' := [(0, .ref mo), (1, .int way), (2, .int (nI ji)), (3, .int ((cnI (pvM R C op kinds elders way ji) ii) + 1)), (4, .int ((nI ii) + 1))]) rfl ?_
                  exact X_eq rfl (by first | (rw [nI_succ, cn_n0 (p := (pvM R C op kinds elders way ji)) (i := ii) (pm_n1 h58)]) | (rw [nI_succ, cn_n0 (p := (pvM R C op kinds elders way ji)) (i := ii) (pm_n2 h68)]) | (rw [nI_succ, cn_n0 (p := (pvM R C op kinds elders way ji)) (i := ii) (pm_n3 h82)]) | (rw [nI_succ, cn_y1 (p := (pvM R C op kinds elders way ji)) (i := ii) (pm_y h58 h68 h82)])) rfl (ih (ii + 1) (by omega))
      exact LOOP (2 ^ (ctF kinds (thM R C op))) 0 (by omega)
    · refine X_iconst (v := (-1)) K0 dX5_pivot_28 (by decide) ?_
      exact hr _ _ _ _ ⟨by rw [pvVM, no_if (by first | exact p_n (bI_0.mp h11) | exact p_yn (bI_n0.mp h11) (bI_0.mp h25))], tof, iof, wyf, mef, hwb, hWY, rfl⟩ dX5_pivot_29

set_option maxRecDepth 20000 in
set_option maxHeartbeats 400000 in
theorem m_first (g : Gx) (c0 c1 c2 c3 c4 c5 c6 c7 c8 c9 c10 c11 : Nat × va_E) (mo mki mel mto mio mwy mme mhs mso msr mrs mce mcp : Nat) (tn stt : Int32) (tr : Int64) (R C : Nat) (op hwb : Bool) (kinds elders tof iof wyf mef hsf sof srf rsf cef cpf : Nat → Int32) (rest : va_W) (hR : 1 ≤ R ∧ R ≤ 5) (hC : 1 ≤ C ∧ C ≤ 5) (hKI : KI (thM R C op) kinds elders) (hWY : WY R C op kinds elders hwb wyf) (way k : Int32) : Con g yX5_first cX5_first 4 (some .int) 5 107 0 0 [.ref mo, .int way, .int k] (c0 :: c1 :: c2 :: c3 :: c4 :: c5 :: c6 :: c7 :: c8 :: c9 :: c10 :: c11 :: (mo, oModel tn stt tr (nI R) (nI C) (bI op) mki mel mto mio mwy (bI hwb) mme mhs mso msr mrs mce mcp) :: (mki, aI g 40 kinds) :: (mel, aI g 40 elders) :: (mto, aI g 25 tof) :: (mio, aZ g 40 iof) :: (mwy, aI g 4096 wyf) :: (mme, aZ g 36 mef) :: (mhs, aZ g 3 hsf) :: (mso, aI g 3 sof) :: (msr, aI g 3 srf) :: (mrs, aI g 12 rsf) :: (mce, aI g 480 cef) :: (mcp, aI g 40 cpf) :: rest) (fun v w' => (∃ r, v = some (.int r) ∧ frRM R C op kinds elders way k r) ∧ ∃ (tq iq wq mq : Nat → Int32) (hq : Bool), WY R C op kinds elders hq wq ∧ (c0 :: c1 :: c2 :: c3 :: c4 :: c5 :: c6 :: c7 :: c8 :: c9 :: c10 :: c11 :: (mo, oModel 0 stt tr (nI R) (nI C) (bI op) mki mel mto mio mwy (bI hq) mme mhs mso msr mrs mce mcp) :: (mki, aI g 40 kinds) :: (mel, aI g 40 elders) :: (mto, aI g 25 tq) :: (mio, aZ g 40 iq) :: (mwy, aI g 4096 wq) :: (mme, aZ g 36 mq) :: (mhs, aZ g 3 hsf) :: (mso, aI g 3 sof) :: (msr, aI g 3 srf) :: (mrs, aI g 12 rsf) :: (mce, aI g 480 cef) :: (mcp, aI g 40 cpf) :: rest) = w') := by
  have hTM := th_M (op := op) hR hC
  have hPM := pl_M hR hC
  have hRM := rd_M hR hC
  have hN := pow_m hKI.2
  have hM12 := hKI.2
  refine Con.ofI (by decide +kernel) (Nat.le_of_ble_eq_true rfl) (fun φ K0 hr => ?_)
  show X φ 0 0 (c0 :: c1 :: c2 :: c3 :: c4 :: c5 :: c6 :: c7 :: c8 :: c9 :: c10 :: c11 :: (mo, oModel tn stt tr (nI R) (nI C) (bI op) mki mel mto mio mwy (bI hwb) mme mhs mso msr mrs mce mcp) :: (mki, aI g 40 kinds) :: (mel, aI g 40 elders) :: (mto, aI g 25 tof) :: (mio, aZ g 40 iof) :: (mwy, aI g 4096 wyf) :: (mme, aZ g 36 mef) :: (mhs, aZ g 3 hsf) :: (mso, aI g 3 sof) :: (msr, aI g 3 srf) :: (mrs, aI g 12 rsf) :: (mce, aI g 480 cef) :: (mcp, aI g 40 cpf) :: rest) [(0, .ref mo), (1, .int way), (2, .int k)] 0 []
  refine X_aload_n K0 0 dX5_first_0 rfl rfl ?_
  refine X_iconst (v := 0) K0 dX5_first_1 (by decide) ?_
  refine X_put (w' := (c0 :: c1 :: c2 :: c3 :: c4 :: c5 :: c6 :: c7 :: c8 :: c9 :: c10 :: c11 :: (mo, oModel 0 stt tr (nI R) (nI C) (bI op) mki mel mto mio mwy (bI hwb) mme mhs mso msr mrs mce mcp) :: (mki, aI g 40 kinds) :: (mel, aI g 40 elders) :: (mto, aI g 25 tof) :: (mio, aZ g 40 iof) :: (mwy, aI g 4096 wyf) :: (mme, aZ g 36 mef) :: (mhs, aZ g 3 hsf) :: (mso, aI g 3 sof) :: (msr, aI g 3 srf) :: (mrs, aI g 12 rsf) :: (mce, aI g 480 cef) :: (mcp, aI g 40 cpf) :: rest)) K0 12 rfl rfl hin5 tyX5 tyX5_ok nmX5 0 (by decide) fl_RX5_58 rfl (tyX5_ok 0 (by decide)) rfl rfl (Nat.le_of_ble_eq_true rfl) dX5_first_2 rfl ?_
  refine X_iload_n K0 1 dX5_first_5 rfl rfl ?_
  refine X_iconst (v := 0) K0 dX5_first_6 (by decide) ?_
  refine X_iconst (v := 3) K0 dX5_first_7 (by decide) ?_
  refine X_callS (As := [.int way, .int 0, .int 3]) (rest := []) K0 (c_in g (c0 :: c1 :: c2 :: c3 :: c4 :: c5 :: c6 :: c7 :: c8 :: c9 :: c10 :: c11 :: (mo, oModel 0 stt tr (nI R) (nI C) (bI op) mki mel mto mio mwy (bI hwb) mme mhs mso msr mrs mce mcp) :: (mki, aI g 40 kinds) :: (mel, aI g 40 elders) :: (mto, aI g 25 tof) :: (mio, aZ g 40 iof) :: (mwy, aI g 4096 wyf) :: (mme, aZ g 36 mef) :: (mhs, aZ g 3 hsf) :: (mso, aI g 3 sof) :: (msr, aI g 3 srf) :: (mrs, aI g 12 rsf) :: (mce, aI g 480 cef) :: (mcp, aI g 40 cpf) :: rest) way 0 3) ms_X5_in rfl ml_RX5_81 rfl (Nat.le_of_ble_eq_true rfl) (by decide) ⟨Nat.le_of_ble_eq_true rfl, Nat.le_of_ble_eq_true rfl⟩ rfl rfl dX5_first_8 ?_
  intro v w' hr'; obtain ⟨rfl, rfl⟩ := hr'
  show X φ 0 0 (c0 :: c1 :: c2 :: c3 :: c4 :: c5 :: c6 :: c7 :: c8 :: c9 :: c10 :: c11 :: (mo, oModel 0 stt tr (nI R) (nI C) (bI op) mki mel mto mio mwy (bI hwb) mme mhs mso msr mrs mce mcp) :: (mki, aI g 40 kinds) :: (mel, aI g 40 elders) :: (mto, aI g 25 tof) :: (mio, aZ g 40 iof) :: (mwy, aI g 4096 wyf) :: (mme, aZ g 36 mef) :: (mhs, aZ g 3 hsf) :: (mso, aI g 3 sof) :: (msr, aI g 3 srf) :: (mrs, aI g 12 rsf) :: (mce, aI g 480 cef) :: (mcp, aI g 40 cpf) :: rest) [(0, .ref mo), (1, .int way), (2, .int k)] 11 [.int (bI (wiB way 0 3))]
  refine X_if_eq K0 22 dX5_first_11 (by decide) (fun h11 => ?_) (fun h11 => ?_)
  · refine X_iconst (v := (-1)) K0 dX5_first_22 (by decide) ?_
    exact hr _ _ _ _ ⟨⟨-1, rfl, Or.inl ⟨by first | exact p_n (bI_0.mp h11) | exact p_yn (bI_n0.mp h11) (bI_0.mp h19), rfl⟩⟩, tof, iof, wyf, mef, hwb, hWY, rfl⟩ dX5_first_23
  · refine X_aload_n K0 0 dX5_first_14 rfl rfl ?_
    refine X_iload_n K0 2 dX5_first_15 rfl rfl ?_
    refine X_callV (As := [.int k]) (rest := []) K0 12 (m_isSize g c0 c1 c2 c3 c4 c5 c6 c7 c8 c9 c10 c11 mo mki mel mto mio mwy mme mhs mso msr mrs mce mcp 0 stt tr R C op hwb kinds elders tof iof wyf mef hsf sof srf rsf cef cpf rest hR hC k) mi_X5_isSize rfl rfl rfl ml_RX5_167 rfl (Nat.le_of_ble_eq_true rfl) (by decide) ⟨Nat.le_of_ble_eq_true rfl, Nat.le_of_ble_eq_true rfl⟩ rfl rfl dX5_first_16 ?_
    intro v w' hr'; obtain ⟨rfl, rfl⟩ := hr'
    show X φ 0 0 (c0 :: c1 :: c2 :: c3 :: c4 :: c5 :: c6 :: c7 :: c8 :: c9 :: c10 :: c11 :: (mo, oModel 0 stt tr (nI R) (nI C) (bI op) mki mel mto mio mwy (bI hwb) mme mhs mso msr mrs mce mcp) :: (mki, aI g 40 kinds) :: (mel, aI g 40 elders) :: (mto, aI g 25 tof) :: (mio, aZ g 40 iof) :: (mwy, aI g 4096 wyf) :: (mme, aZ g 36 mef) :: (mhs, aZ g 3 hsf) :: (mso, aI g 3 sof) :: (msr, aI g 3 srf) :: (mrs, aI g 12 rsf) :: (mce, aI g 480 cef) :: (mcp, aI g 40 cpf) :: rest) [(0, .ref mo), (1, .int way), (2, .int k)] 19 [.int (bI (wiB k 0 (nI (ctF kinds (thM R C op)))))]
    refine X_if_ne K0 24 dX5_first_19 (by decide) (fun h19 => ?_) (fun h19 => ?_)
    · refine X_aload_n K0 0 dX5_first_24 rfl rfl ?_
      refine X_callV (As := []) (rest := []) K0 12 (m_needWays g c0 c1 c2 c3 c4 c5 c6 c7 c8 c9 c10 c11 mo mki mel mto mio mwy mme mhs mso msr mrs mce mcp 0 stt tr R C op hwb kinds elders tof iof wyf mef hsf sof srf rsf cef cpf rest hR hC hKI hWY) mi_X5_needWays rfl rfl rfl ml_RX5_138 rfl (Nat.le_of_ble_eq_true rfl) (by decide) ⟨Nat.le_of_ble_eq_true rfl, Nat.le_of_ble_eq_true rfl⟩ rfl rfl dX5_first_25 ?_
      intro v w' hr'; obtain ⟨rfl, tq1, iq1, wq1, hq1, rfl⟩ := hr'
      show X φ 0 0 (c0 :: c1 :: c2 :: c3 :: c4 :: c5 :: c6 :: c7 :: c8 :: c9 :: c10 :: c11 :: (mo, oModel 0 stt tr (nI R) (nI C) (bI op) mki mel mto mio mwy (bI true) mme mhs mso msr mrs mce mcp) :: (mki, aI g 40 kinds) :: (mel, aI g 40 elders) :: (mto, aI g 25 tq1) :: (mio, aZ g 40 iq1) :: (mwy, aI g 4096 wq1) :: (mme, aZ g 36 mef) :: (mhs, aZ g 3 hsf) :: (mso, aI g 3 sof) :: (msr, aI g 3 srf) :: (mrs, aI g 12 rsf) :: (mce, aI g 480 cef) :: (mcp, aI g 40 cpf) :: rest) [(0, .ref mo), (1, .int way), (2, .int k)] 28 []
      refine X_iconst (v := 0) K0 dX5_first_28 (by decide) ?_
      refine X_istore_n (L' := [(3, .int 0), (0, .ref mo), (1, .int way), (2, .int k)]) K0 dX5_first_29 rfl (by decide) rfl ?_
      refine X.sub [1, 2, 3, 0] (L' := [(0, .ref mo), (1, .int way), (2, .int k), (3, .int 0)]) rfl ?_
      have LOOP : ∀ (dd ii : Nat), ii + dd = (2 ^ (ctF kinds (thM R C op))) → (∀ t, t < ii → (wsM R C op kinds elders way k) t = false) → X φ 0 0 (c0 :: c1 :: c2 :: c3 :: c4 :: c5 :: c6 :: c7 :: c8 :: c9 :: c10 :: c11 :: (mo, oModel 0 stt tr (nI R) (nI C) (bI op) mki mel mto mio mwy (bI true) mme mhs mso msr mrs mce mcp) :: (mki, aI g 40 kinds) :: (mel, aI g 40 elders) :: (mto, aI g 25 tq1) :: (mio, aZ g 40 iq1) :: (mwy, aI g 4096 wq1) :: (mme, aZ g 36 mef) :: (mhs, aZ g 3 hsf) :: (mso, aI g 3 sof) :: (msr, aI g 3 srf) :: (mrs, aI g 12 rsf) :: (mce, aI g 480 cef) :: (mcp, aI g 40 cpf) :: rest) [(0, .ref mo), (1, .int way), (2, .int k), (3, .int (nI ii))] 30 [] := by
        intro dd
        induction dd with
        | zero =>
          intro ii hii hno
          have hii2 : (2 ^ (ctF kinds (thM R C op))) = ii := by omega
          subst hii2
          refine X_iload_n K0 3 dX5_first_30 rfl rfl ?_
          refine X_iconst (v := 1) K0 dX5_first_31 (by decide) ?_
          refine X_aload_n K0 0 dX5_first_32 rfl rfl ?_
          refine X_callV (As := []) (rest := [.int 1, .int (nI (2 ^ (ctF kinds (thM R C op))))]) K0 12 (m_chances g c0 c1 c2 c3 c4 c5 c6 c7 c8 c9 c10 c11 mo mki mel mto mio mwy mme mhs mso msr mrs mce mcp 0 stt tr R C op true kinds elders tq1 iq1 wq1 mef hsf sof srf rsf cef cpf rest hR hC ) mi_X5_chances rfl rfl rfl ml_RX5_85 rfl (Nat.le_of_ble_eq_true rfl) (by decide) ⟨Nat.le_of_ble_eq_true rfl, Nat.le_of_ble_eq_true rfl⟩ rfl rfl dX5_first_33 ?_
          intro v w' hr'; obtain ⟨rfl, rfl⟩ := hr'
          show X φ 0 0 (c0 :: c1 :: c2 :: c3 :: c4 :: c5 :: c6 :: c7 :: c8 :: c9 :: c10 :: c11 :: (mo, oModel 0 stt tr (nI R) (nI C) (bI op) mki mel mto mio mwy (bI true) mme mhs mso msr mrs mce mcp) :: (mki, aI g 40 kinds) :: (mel, aI g 40 elders) :: (mto, aI g 25 tq1) :: (mio, aZ g 40 iq1) :: (mwy, aI g 4096 wq1) :: (mme, aZ g 36 mef) :: (mhs, aZ g 3 hsf) :: (mso, aI g 3 sof) :: (msr, aI g 3 srf) :: (mrs, aI g 12 rsf) :: (mce, aI g 480 cef) :: (mcp, aI g 40 cpf) :: rest) [(0, .ref mo), (1, .int way), (2, .int k), (3, .int (nI (2 ^ (ctF kinds (thM R C op)))))] 36 [.int (nI (ctF kinds (thM R C op))), .int 1, .int (nI (2 ^ (ctF kinds (thM R C op))))]
          refine X_ishl K0 dX5_first_36 ?_
          refine X_v (z := (nI (2 ^ (ctF kinds (thM R C op))))) (shl_ct hKI.2) ?_
          refine X_icmp_ge K0 65 dX5_first_37 (by decide) (fun h37 => ?_) (fun h37 => ?_)
          · refine X_bipush (v := (-9)) K0 dX5_first_65 (by decide) ?_
            exact hr _ _ _ _ ⟨⟨-9, rfl, Or.inr ⟨p_yy (bI_n0.mp h11) (bI_n0.mp h19), Or.inr ⟨hno, rfl⟩⟩⟩, tq1, iq1, wq1, mef, true, (fun _ => hq1), rfl⟩ dX5_first_67
          · exact absurd (nI_le (Nat.le_refl _) (by omega)) h37
        | succ dd ih =>
          intro ii hii hno
          have hlt : ii < (2 ^ (ctF kinds (thM R C op))) := by omega
          refine X_iload_n K0 3 dX5_first_30 rfl rfl ?_
          refine X_iconst (v := 1) K0 dX5_first_31 (by decide) ?_
          refine X_aload_n K0 0 dX5_first_32 rfl rfl ?_
          refine X_callV (As := []) (rest := [.int 1, .int (nI ii)]) K0 12 (m_chances g c0 c1 c2 c3 c4 c5 c6 c7 c8 c9 c10 c11 mo mki mel mto mio mwy mme mhs mso msr mrs mce mcp 0 stt tr R C op true kinds elders tq1 iq1 wq1 mef hsf sof srf rsf cef cpf rest hR hC ) mi_X5_chances rfl rfl rfl ml_RX5_85 rfl (Nat.le_of_ble_eq_true rfl) (by decide) ⟨Nat.le_of_ble_eq_true rfl, Nat.le_of_ble_eq_true rfl⟩ rfl rfl dX5_first_33 ?_
          intro v w' hr'; obtain ⟨rfl, rfl⟩ := hr'
          show X φ 0 0 (c0 :: c1 :: c2 :: c3 :: c4 :: c5 :: c6 :: c7 :: c8 :: c9 :: c10 :: c11 :: (mo, oModel 0 stt tr (nI R) (nI C) (bI op) mki mel mto mio mwy (bI true) mme mhs mso msr mrs mce mcp) :: (mki, aI g 40 kinds) :: (mel, aI g 40 elders) :: (mto, aI g 25 tq1) :: (mio, aZ g 40 iq1) :: (mwy, aI g 4096 wq1) :: (mme, aZ g 36 mef) :: (mhs, aZ g 3 hsf) :: (mso, aI g 3 sof) :: (msr, aI g 3 srf) :: (mrs, aI g 12 rsf) :: (mce, aI g 480 cef) :: (mcp, aI g 40 cpf) :: rest) [(0, .ref mo), (1, .int way), (2, .int k), (3, .int (nI ii))] 36 [.int (nI (ctF kinds (thM R C op))), .int 1, .int (nI ii)]
          refine X_ishl K0 dX5_first_36 ?_
          refine X_v (z := (nI (2 ^ (ctF kinds (thM R C op))))) (shl_ct hKI.2) ?_
          refine X_icmp_ge K0 65 dX5_first_37 (by decide) (fun h37 => ?_) (fun h37 => ?_)
          · exact absurd h37 (nI_ge hlt (by omega))
          · refine X_iload_n K0 3 dX5_first_40 rfl rfl ?_
            refine X_callS (As := [.int (nI ii)]) (rest := []) K0 (m_bits g (c0 :: c1 :: c2 :: c3 :: c4 :: c5 :: c6 :: c7 :: c8 :: c9 :: c10 :: c11 :: (mo, oModel 0 stt tr (nI R) (nI C) (bI op) mki mel mto mio mwy (bI true) mme mhs mso msr mrs mce mcp) :: (mki, aI g 40 kinds) :: (mel, aI g 40 elders) :: (mto, aI g 25 tq1) :: (mio, aZ g 40 iq1) :: (mwy, aI g 4096 wq1) :: (mme, aZ g 36 mef) :: (mhs, aZ g 3 hsf) :: (mso, aI g 3 sof) :: (msr, aI g 3 srf) :: (mrs, aI g 12 rsf) :: (mce, aI g 480 cef) :: (mcp, aI g 40 cpf) :: rest) (nI ii)) ms_X5_bits rfl ml_RX5_164 rfl (Nat.le_of_ble_eq_true rfl) (by decide) ⟨Nat.le_of_ble_eq_true rfl, Nat.le_of_ble_eq_true rfl⟩ rfl rfl dX5_first_41 ?_
            intro v w' hr'; obtain ⟨rfl, rfl⟩ := hr'
            show X φ 0 0 (c0 :: c1 :: c2 :: c3 :: c4 :: c5 :: c6 :: c7 :: c8 :: c9 :: c10 :: c11 :: (mo, oModel 0 stt tr (nI R) (nI C) (bI op) mki mel mto mio mwy (bI true) mme mhs mso msr mrs mce mcp) :: (mki, aI g 40 kinds) :: (mel, aI g 40 elders) :: (mto, aI g 25 tq1) :: (mio, aZ g 40 iq1) :: (mwy, aI g 4096 wq1) :: (mme, aZ g 36 mef) :: (mhs, aZ g 3 hsf) :: (mso, aI g 3 sof) :: (msr, aI g 3 srf) :: (mrs, aI g 12 rsf) :: (mce, aI g 480 cef) :: (mcp, aI g 40 cpf) :: rest) [(0, .ref mo), (1, .int way), (2, .int k), (3, .int (nI ii))] 44 [.int (bsM (nI ii) 12)]
            refine X_iload_n K0 2 dX5_first_44 rfl rfl ?_
            refine X_icmp_ne K0 59 dX5_first_45 (by decide) (fun h45 => ?_) (fun h45 => ?_)
            · refine X_iinc (v := ((nI ii) + 1)) (L' := [(3, .int ((nI ii) + 1)), (0, .ref mo), (1, .int way), (2, .int k)]) K0 3 dX5_first_59 rfl (by first | rfl | decide) (by decide) rfl ?_
              refine X_goto K0 30 dX5_first_62 (by decide) ?_
              refine X.sub [1, 2, 3, 0] (L' := [(0, .ref mo), (1, .int way), (2, .int k), (3, .int ((nI ii) + 1))]) rfl ?_
              exact X_eq rfl (by rw [nI_succ] <;> rfl) rfl (ih (ii + 1) (by omega) (lt_s hno (by first | exact wm_n1 h45 | exact wm_n2 h54)))
            · refine X_aload_n K0 0 dX5_first_48 rfl rfl ?_
              refine X_iload_n K0 3 dX5_first_49 rfl rfl ?_
              refine X_iload_n K0 1 dX5_first_50 rfl rfl ?_
              refine X_callV (As := [.int (nI ii), .int way]) (rest := []) K0 12 (m_is g c0 c1 c2 c3 c4 c5 c6 c7 c8 c9 c10 c11 mo mki mel mto mio mwy mme mhs mso msr mrs mce mcp 0 stt tr R C op true kinds elders tq1 iq1 wq1 mef hsf sof srf rsf cef cpf rest ii (by omega) (hq1 ii (by omega)) way) mi_X5_is rfl rfl rfl ml_RX5_141 rfl (Nat.le_of_ble_eq_true rfl) (by decide) ⟨Nat.le_of_ble_eq_true rfl, Nat.le_of_ble_eq_true rfl⟩ rfl rfl dX5_first_51 ?_
              intro v w' hr'; obtain ⟨rfl, rfl⟩ := hr'
              show X φ 0 0 (c0 :: c1 :: c2 :: c3 :: c4 :: c5 :: c6 :: c7 :: c8 :: c9 :: c10 :: c11 :: (mo, oModel 0 stt tr (nI R) (nI C) (bI op) mki mel mto mio mwy (bI true) mme mhs mso msr mrs mce mcp) :: (mki, aI g 40 kinds) :: (mel, aI g 40 elders) :: (mto, aI g 25 tq1) :: (mio, aZ g 40 iq1) :: (mwy, aI g 4096 wq1) :: (mme, aZ g 36 mef) :: (mhs, aZ g 3 hsf) :: (mso, aI g 3 sof) :: (msr, aI g 3 srf) :: (mrs, aI g 12 rsf) :: (mce, aI g 480 cef) :: (mcp, aI g 40 cpf) :: rest) [(0, .ref mo), (1, .int way), (2, .int k), (3, .int (nI ii))] 54 [.int (bI (isM R C op kinds elders ii way))]
              refine X_if_eq K0 59 dX5_first_54 (by decide) (fun h54 => ?_) (fun h54 => ?_)
              · refine X_iinc (v := ((nI ii) + 1)) (L' := [(3, .int ((nI ii) + 1)), (0, .ref mo), (1, .int way), (2, .int k)]) K0 3 dX5_first_59 rfl (by first | rfl | decide) (by decide) rfl ?_
                refine X_goto K0 30 dX5_first_62 (by decide) ?_
                refine X.sub [1, 2, 3, 0] (L' := [(0, .ref mo), (1, .int way), (2, .int k), (3, .int ((nI ii) + 1))]) rfl ?_
                exact X_eq rfl (by rw [nI_succ] <;> rfl) rfl (ih (ii + 1) (by omega) (lt_s hno (by first | exact wm_n1 h45 | exact wm_n2 h54)))
              · refine X_iload_n K0 3 dX5_first_57 rfl rfl ?_
                exact hr _ _ _ _ ⟨⟨_, rfl, Or.inr ⟨p_yy (bI_n0.mp h11) (bI_n0.mp h19), Or.inl ⟨ii, hlt, wm_y h45 h54, hno, rfl⟩⟩⟩, tq1, iq1, wq1, mef, true, (fun _ => hq1), rfl⟩ dX5_first_58
      exact LOOP (2 ^ (ctF kinds (thM R C op))) 0 (by omega) (fun t h => absurd h (Nat.not_lt_zero t))
    · refine X_iconst (v := (-1)) K0 dX5_first_22 (by decide) ?_
      exact hr _ _ _ _ ⟨⟨-1, rfl, Or.inl ⟨by first | exact p_n (bI_0.mp h11) | exact p_yn (bI_n0.mp h11) (bI_0.mp h19), rfl⟩⟩, tof, iof, wyf, mef, hwb, hWY, rfl⟩ dX5_first_23

set_option maxRecDepth 20000 in
set_option maxHeartbeats 400000 in
theorem m_roadRight (g : Gx) (c0 c1 c2 c3 c4 c5 c6 c7 c8 c9 c10 c11 : Nat × va_E) (mo mki mel mto mio mwy mme mhs mso msr mrs mce mcp : Nat) (tn stt : Int32) (tr : Int64) (R C : Nat) (op hwb : Bool) (kinds elders tof iof wyf mef hsf sof srf rsf cef cpf : Nat → Int32) (rest : va_W) (hR : 1 ≤ R ∧ R ≤ 5) (hC : 1 ≤ C ∧ C ≤ 5) (r c : Nat) (tu : Bool) : Con g yX5_roadRight cX5_roadRight 4 (some .int) 1 20 0 0 [.ref mo, .int (nI r), .int (nI c), .int (bI tu)] (c0 :: c1 :: c2 :: c3 :: c4 :: c5 :: c6 :: c7 :: c8 :: c9 :: c10 :: c11 :: (mo, oModel tn stt tr (nI R) (nI C) (bI op) mki mel mto mio mwy (bI hwb) mme mhs mso msr mrs mce mcp) :: (mki, aI g 40 kinds) :: (mel, aI g 40 elders) :: (mto, aI g 25 tof) :: (mio, aZ g 40 iof) :: (mwy, aI g 4096 wyf) :: (mme, aZ g 36 mef) :: (mhs, aZ g 3 hsf) :: (mso, aI g 3 sof) :: (msr, aI g 3 srf) :: (mrs, aI g 12 rsf) :: (mce, aI g 480 cef) :: (mcp, aI g 40 cpf) :: rest) (Rs (some (.int (nI (rrM R C tu r c)))) (c0 :: c1 :: c2 :: c3 :: c4 :: c5 :: c6 :: c7 :: c8 :: c9 :: c10 :: c11 :: (mo, oModel tn stt tr (nI R) (nI C) (bI op) mki mel mto mio mwy (bI hwb) mme mhs mso msr mrs mce mcp) :: (mki, aI g 40 kinds) :: (mel, aI g 40 elders) :: (mto, aI g 25 tof) :: (mio, aZ g 40 iof) :: (mwy, aI g 4096 wyf) :: (mme, aZ g 36 mef) :: (mhs, aZ g 3 hsf) :: (mso, aI g 3 sof) :: (msr, aI g 3 srf) :: (mrs, aI g 12 rsf) :: (mce, aI g 480 cef) :: (mcp, aI g 40 cpf) :: rest)) := by
  have hTM := th_M (op := op) hR hC
  have hPM := pl_M hR hC
  have hRM := rd_M hR hC
  refine Con.ofI (by decide +kernel) (Nat.le_of_ble_eq_true rfl) (fun φ K0 hr => ?_)
  show X φ 0 0 (c0 :: c1 :: c2 :: c3 :: c4 :: c5 :: c6 :: c7 :: c8 :: c9 :: c10 :: c11 :: (mo, oModel tn stt tr (nI R) (nI C) (bI op) mki mel mto mio mwy (bI hwb) mme mhs mso msr mrs mce mcp) :: (mki, aI g 40 kinds) :: (mel, aI g 40 elders) :: (mto, aI g 25 tof) :: (mio, aZ g 40 iof) :: (mwy, aI g 4096 wyf) :: (mme, aZ g 36 mef) :: (mhs, aZ g 3 hsf) :: (mso, aI g 3 sof) :: (msr, aI g 3 srf) :: (mrs, aI g 12 rsf) :: (mce, aI g 480 cef) :: (mcp, aI g 40 cpf) :: rest) [(0, .ref mo), (1, .int (nI r)), (2, .int (nI c)), (3, .int (bI tu))] 0 []
  refine X_iload_n K0 3 dX5_roadRight_0 rfl rfl ?_
  refine X_if_eq K0 20 dX5_roadRight_1 (by decide) (fun h1 => ?_) (fun h1 => ?_)
  · refine X_iload_n K0 1 dX5_roadRight_20 rfl rfl ?_
    refine X_aload_n K0 0 dX5_roadRight_21 rfl rfl ?_
    refine X_get K0 12 rfl rfl hin5 4 (by decide) fl_RX5_13 rfl dX5_roadRight_22 ?_
    refine X_iconst (v := 1) K0 dX5_roadRight_25 (by decide) ?_
    refine X_isub K0 dX5_roadRight_26 ?_
    refine X_v (z := (nI (C - 1))) (nI_sub1 hC.1) ?_
    refine X_imul K0 dX5_roadRight_27 ?_
    refine X_iload_n K0 2 dX5_roadRight_28 rfl rfl ?_
    refine X_iadd K0 dX5_roadRight_29 ?_
    exact hr _ _ _ _ ⟨by first | (rw [rrM, if_pos (bI_n0.mp h1), pk_mul, nI_add, nI_add]) | (rw [rrM, ite_b0 h1, pk_mul, nI_add]), rfl⟩ dX5_roadRight_30
  · refine X_aload_n K0 0 dX5_roadRight_4 rfl rfl ?_
    refine X_callV (As := []) (rest := []) K0 12 (m_across g c0 c1 c2 c3 c4 c5 c6 c7 c8 c9 c10 c11 mo mki mel mto mio mwy mme mhs mso msr mrs mce mcp tn stt tr R C op hwb kinds elders tof iof wyf mef hsf sof srf rsf cef cpf rest hR hC ) mi_X5_across rfl rfl rfl ml_RX5_65 rfl (Nat.le_of_ble_eq_true rfl) (by decide) ⟨Nat.le_of_ble_eq_true rfl, Nat.le_of_ble_eq_true rfl⟩ rfl rfl dX5_roadRight_5 ?_
    intro v w' hr'; obtain ⟨rfl, rfl⟩ := hr'
    show X φ 0 0 (c0 :: c1 :: c2 :: c3 :: c4 :: c5 :: c6 :: c7 :: c8 :: c9 :: c10 :: c11 :: (mo, oModel tn stt tr (nI R) (nI C) (bI op) mki mel mto mio mwy (bI hwb) mme mhs mso msr mrs mce mcp) :: (mki, aI g 40 kinds) :: (mel, aI g 40 elders) :: (mto, aI g 25 tof) :: (mio, aZ g 40 iof) :: (mwy, aI g 4096 wyf) :: (mme, aZ g 36 mef) :: (mhs, aZ g 3 hsf) :: (mso, aI g 3 sof) :: (msr, aI g 3 srf) :: (mrs, aI g 12 rsf) :: (mce, aI g 480 cef) :: (mcp, aI g 40 cpf) :: rest) [(0, .ref mo), (1, .int (nI r)), (2, .int (nI c)), (3, .int (bI tu))] 8 [.int (nI (R * (C - 1)))]
    refine X_iload_n K0 2 dX5_roadRight_8 rfl rfl ?_
    refine X_aload_n K0 0 dX5_roadRight_9 rfl rfl ?_
    refine X_get K0 12 rfl rfl hin5 4 (by decide) fl_RX5_13 rfl dX5_roadRight_10 ?_
    refine X_imul K0 dX5_roadRight_13 ?_
    refine X_iadd K0 dX5_roadRight_14 ?_
    refine X_iload_n K0 1 dX5_roadRight_15 rfl rfl ?_
    refine X_iadd K0 dX5_roadRight_16 ?_
    refine X_goto K0 30 dX5_roadRight_17 (by decide) ?_
    exact hr _ _ _ _ ⟨by first | (rw [rrM, if_pos (bI_n0.mp h1), pk_mul, nI_add, nI_add]) | (rw [rrM, ite_b0 h1, pk_mul, nI_add]), rfl⟩ dX5_roadRight_30

set_option maxRecDepth 20000 in
set_option maxHeartbeats 400000 in
theorem m_roadDown (g : Gx) (c0 c1 c2 c3 c4 c5 c6 c7 c8 c9 c10 c11 : Nat × va_E) (mo mki mel mto mio mwy mme mhs mso msr mrs mce mcp : Nat) (tn stt : Int32) (tr : Int64) (R C : Nat) (op hwb : Bool) (kinds elders tof iof wyf mef hsf sof srf rsf cef cpf : Nat → Int32) (rest : va_W) (hR : 1 ≤ R ∧ R ≤ 5) (hC : 1 ≤ C ∧ C ≤ 5) (r c : Nat) (tu : Bool) : Con g yX5_roadDown cX5_roadDown 4 (some .int) 1 20 0 0 [.ref mo, .int (nI r), .int (nI c), .int (bI tu)] (c0 :: c1 :: c2 :: c3 :: c4 :: c5 :: c6 :: c7 :: c8 :: c9 :: c10 :: c11 :: (mo, oModel tn stt tr (nI R) (nI C) (bI op) mki mel mto mio mwy (bI hwb) mme mhs mso msr mrs mce mcp) :: (mki, aI g 40 kinds) :: (mel, aI g 40 elders) :: (mto, aI g 25 tof) :: (mio, aZ g 40 iof) :: (mwy, aI g 4096 wyf) :: (mme, aZ g 36 mef) :: (mhs, aZ g 3 hsf) :: (mso, aI g 3 sof) :: (msr, aI g 3 srf) :: (mrs, aI g 12 rsf) :: (mce, aI g 480 cef) :: (mcp, aI g 40 cpf) :: rest) (Rs (some (.int (nI (rnM R C tu r c)))) (c0 :: c1 :: c2 :: c3 :: c4 :: c5 :: c6 :: c7 :: c8 :: c9 :: c10 :: c11 :: (mo, oModel tn stt tr (nI R) (nI C) (bI op) mki mel mto mio mwy (bI hwb) mme mhs mso msr mrs mce mcp) :: (mki, aI g 40 kinds) :: (mel, aI g 40 elders) :: (mto, aI g 25 tof) :: (mio, aZ g 40 iof) :: (mwy, aI g 4096 wyf) :: (mme, aZ g 36 mef) :: (mhs, aZ g 3 hsf) :: (mso, aI g 3 sof) :: (msr, aI g 3 srf) :: (mrs, aI g 12 rsf) :: (mce, aI g 480 cef) :: (mcp, aI g 40 cpf) :: rest)) := by
  have hTM := th_M (op := op) hR hC
  have hPM := pl_M hR hC
  have hRM := rd_M hR hC
  refine Con.ofI (by decide +kernel) (Nat.le_of_ble_eq_true rfl) (fun φ K0 hr => ?_)
  show X φ 0 0 (c0 :: c1 :: c2 :: c3 :: c4 :: c5 :: c6 :: c7 :: c8 :: c9 :: c10 :: c11 :: (mo, oModel tn stt tr (nI R) (nI C) (bI op) mki mel mto mio mwy (bI hwb) mme mhs mso msr mrs mce mcp) :: (mki, aI g 40 kinds) :: (mel, aI g 40 elders) :: (mto, aI g 25 tof) :: (mio, aZ g 40 iof) :: (mwy, aI g 4096 wyf) :: (mme, aZ g 36 mef) :: (mhs, aZ g 3 hsf) :: (mso, aI g 3 sof) :: (msr, aI g 3 srf) :: (mrs, aI g 12 rsf) :: (mce, aI g 480 cef) :: (mcp, aI g 40 cpf) :: rest) [(0, .ref mo), (1, .int (nI r)), (2, .int (nI c)), (3, .int (bI tu))] 0 []
  refine X_iload_n K0 3 dX5_roadDown_0 rfl rfl ?_
  refine X_if_eq K0 17 dX5_roadDown_1 (by decide) (fun h1 => ?_) (fun h1 => ?_)
  · refine X_aload_n K0 0 dX5_roadDown_17 rfl rfl ?_
    refine X_callV (As := []) (rest := []) K0 12 (m_across g c0 c1 c2 c3 c4 c5 c6 c7 c8 c9 c10 c11 mo mki mel mto mio mwy mme mhs mso msr mrs mce mcp tn stt tr R C op hwb kinds elders tof iof wyf mef hsf sof srf rsf cef cpf rest hR hC ) mi_X5_across rfl rfl rfl ml_RX5_65 rfl (Nat.le_of_ble_eq_true rfl) (by decide) ⟨Nat.le_of_ble_eq_true rfl, Nat.le_of_ble_eq_true rfl⟩ rfl rfl dX5_roadDown_18 ?_
    intro v w' hr'; obtain ⟨rfl, rfl⟩ := hr'
    show X φ 0 0 (c0 :: c1 :: c2 :: c3 :: c4 :: c5 :: c6 :: c7 :: c8 :: c9 :: c10 :: c11 :: (mo, oModel tn stt tr (nI R) (nI C) (bI op) mki mel mto mio mwy (bI hwb) mme mhs mso msr mrs mce mcp) :: (mki, aI g 40 kinds) :: (mel, aI g 40 elders) :: (mto, aI g 25 tof) :: (mio, aZ g 40 iof) :: (mwy, aI g 4096 wyf) :: (mme, aZ g 36 mef) :: (mhs, aZ g 3 hsf) :: (mso, aI g 3 sof) :: (msr, aI g 3 srf) :: (mrs, aI g 12 rsf) :: (mce, aI g 480 cef) :: (mcp, aI g 40 cpf) :: rest) [(0, .ref mo), (1, .int (nI r)), (2, .int (nI c)), (3, .int (bI tu))] 21 [.int (nI (R * (C - 1)))]
    refine X_iload_n K0 1 dX5_roadDown_21 rfl rfl ?_
    refine X_aload_n K0 0 dX5_roadDown_22 rfl rfl ?_
    refine X_get K0 12 rfl rfl hin5 4 (by decide) fl_RX5_13 rfl dX5_roadDown_23 ?_
    refine X_imul K0 dX5_roadDown_26 ?_
    refine X_iadd K0 dX5_roadDown_27 ?_
    refine X_iload_n K0 2 dX5_roadDown_28 rfl rfl ?_
    refine X_iadd K0 dX5_roadDown_29 ?_
    exact hr _ _ _ _ ⟨by first | (rw [rnM, if_pos (bI_n0.mp h1), pk_mul, nI_add]) | (rw [rnM, ite_b0 h1, pk_mul, nI_add, nI_add]), rfl⟩ dX5_roadDown_30
  · refine X_iload_n K0 2 dX5_roadDown_4 rfl rfl ?_
    refine X_aload_n K0 0 dX5_roadDown_5 rfl rfl ?_
    refine X_get K0 12 rfl rfl hin5 4 (by decide) fl_RX5_13 rfl dX5_roadDown_6 ?_
    refine X_iconst (v := 1) K0 dX5_roadDown_9 (by decide) ?_
    refine X_isub K0 dX5_roadDown_10 ?_
    refine X_v (z := (nI (C - 1))) (nI_sub1 hC.1) ?_
    refine X_imul K0 dX5_roadDown_11 ?_
    refine X_iload_n K0 1 dX5_roadDown_12 rfl rfl ?_
    refine X_iadd K0 dX5_roadDown_13 ?_
    refine X_goto K0 30 dX5_roadDown_14 (by decide) ?_
    exact hr _ _ _ _ ⟨by first | (rw [rnM, if_pos (bI_n0.mp h1), pk_mul, nI_add]) | (rw [rnM, ite_b0 h1, pk_mul, nI_add, nI_add]), rfl⟩ dX5_roadDown_30

set_option maxRecDepth 20000 in
set_option maxHeartbeats 400000 in
theorem m_isWall0 (g : Gx) (c0 c1 c2 c3 c4 c5 c6 c7 c8 c9 c10 c11 : Nat × va_E) (mo mki mel mto mio mwy mme mhs mso msr mrs mce mcp : Nat) (tn stt : Int32) (tr : Int64) (R C : Nat) (op hwb : Bool) (kinds elders tof iof wyf mef hsf sof srf rsf cef cpf : Nat → Int32) (rest : va_W) (hR : 1 ≤ R ∧ R ≤ 5) (hC : 1 ≤ C ∧ C ≤ 5) (io0 : Nat → Int32) (hio : ∀ t, t < rdM R C → iof t = io0 t) : Con g yX5_isWall cX5_isWall 8 (some .boolean) 2 43 0 0 [.ref mo, .int 0] (c0 :: c1 :: c2 :: c3 :: c4 :: c5 :: c6 :: c7 :: c8 :: c9 :: c10 :: c11 :: (mo, oModel tn stt tr (nI R) (nI C) (bI op) mki mel mto mio mwy (bI hwb) mme mhs mso msr mrs mce mcp) :: (mki, aI g 40 kinds) :: (mel, aI g 40 elders) :: (mto, aI g 25 tof) :: (mio, aZ g 40 iof) :: (mwy, aI g 4096 wyf) :: (mme, aZ g 36 mef) :: (mhs, aZ g 3 hsf) :: (mso, aI g 3 sof) :: (msr, aI g 3 srf) :: (mrs, aI g 12 rsf) :: (mce, aI g 480 cef) :: (mcp, aI g 40 cpf) :: rest) (fun v w' => v = some (.int (bI (waM R C false io0))) ∧ ∃ mq : Nat → Int32, (c0 :: c1 :: c2 :: c3 :: c4 :: c5 :: c6 :: c7 :: c8 :: c9 :: c10 :: c11 :: (mo, oModel tn stt tr (nI R) (nI C) (bI op) mki mel mto mio mwy (bI hwb) mme mhs mso msr mrs mce mcp) :: (mki, aI g 40 kinds) :: (mel, aI g 40 elders) :: (mto, aI g 25 tof) :: (mio, aZ g 40 iof) :: (mwy, aI g 4096 wyf) :: (mme, aZ g 36 mq) :: (mhs, aZ g 3 hsf) :: (mso, aI g 3 sof) :: (msr, aI g 3 srf) :: (mrs, aI g 12 rsf) :: (mce, aI g 480 cef) :: (mcp, aI g 40 cpf) :: rest) = w') := by
  have hTM := th_M (op := op) hR hC
  have hPM := pl_M hR hC
  have hRM := rd_M hR hC
  refine Con.ofZ (by decide +kernel) (Nat.le_of_ble_eq_true rfl) (fun φ K0 hr => ?_)
  show X φ 0 0 (c0 :: c1 :: c2 :: c3 :: c4 :: c5 :: c6 :: c7 :: c8 :: c9 :: c10 :: c11 :: (mo, oModel tn stt tr (nI R) (nI C) (bI op) mki mel mto mio mwy (bI hwb) mme mhs mso msr mrs mce mcp) :: (mki, aI g 40 kinds) :: (mel, aI g 40 elders) :: (mto, aI g 25 tof) :: (mio, aZ g 40 iof) :: (mwy, aI g 4096 wyf) :: (mme, aZ g 36 mef) :: (mhs, aZ g 3 hsf) :: (mso, aI g 3 sof) :: (msr, aI g 3 srf) :: (mrs, aI g 12 rsf) :: (mce, aI g 480 cef) :: (mcp, aI g 40 cpf) :: rest) [(0, .ref mo), (1, .int 0)] 0 []
  refine X_iload_n K0 1 dX5_isWall_0 rfl rfl ?_
  refine X_if_eq K0 11 dX5_isWall_1 (by decide) (fun h1 => ?_) (fun h1 => ?_)
  · refine X_aload_n K0 0 dX5_isWall_11 rfl rfl ?_
    refine X_get K0 12 rfl rfl hin5 3 (by decide) fl_RX5_7 rfl dX5_isWall_12 ?_
    refine X_istore_n (L' := [(2, .int (nI R)), (0, .ref mo), (1, .int 0)]) K0 dX5_isWall_15 rfl (by decide) rfl ?_
    refine X_iload_n K0 2 dX5_isWall_16 rfl rfl ?_
    refine X_if_eq K0 27 dX5_isWall_17 (by decide) (fun h17 => ?_) (fun h17 => ?_)
    · refine X_aload_n K0 1 dX5_isWall_27 rfl rfl ?_
      refine X_get K0 12 rfl rfl hin5 4 (by decide) fl_RX5_13 rfl dX5_isWall_28 ?_
      refine X_iconst (v := 1) K0 dX5_isWall_31 (by decide) ?_
      refine X_isub K0 dX5_isWall_32 ?_
      refine X_v (z := (nI (C - 1))) (nI_sub1 hC.1) ?_
      refine X_istore_n (L' := [(3, .int (nI (C - 1))), (2, .int (nI R)), (0, .ref mo), (1, .int 0)]) K0 dX5_isWall_33 rfl (by decide) rfl ?_
      refine X_iconst (v := 0) K0 dX5_isWall_34 (by decide) ?_
      refine X_istore (L' := [(4, .int 0), (3, .int (nI (C - 1))), (2, .int (nI R)), (0, .ref mo), (1, .int 0)]) K0 dX5_isWall_35 (by decide) rfl ?_
      refine X.sub [3, 4, 2, 1, 0] (L' := [(0, .ref mo), (1, .int 0), (2, .int (nI R)), (3, .int (nI (C - 1))), (4, .int 0)]) rfl ?_
      have LOOPi : ∀ (ddi iii : Nat), iii + ddi = 36 → X φ 0 0 (c0 :: c1 :: c2 :: c3 :: c4 :: c5 :: c6 :: c7 :: c8 :: c9 :: c10 :: c11 :: (mo, oModel tn stt tr (nI R) (nI C) (bI op) mki mel mto mio mwy (bI hwb) mme mhs mso msr mrs mce mcp) :: (mki, aI g 40 kinds) :: (mel, aI g 40 elders) :: (mto, aI g 25 tof) :: (mio, aZ g 40 iof) :: (mwy, aI g 4096 wyf) :: (mme, aZ g 36 (ovr iii (bF (fun k => decide (k < (C - 1)))) mef)) :: (mhs, aZ g 3 hsf) :: (mso, aI g 3 sof) :: (msr, aI g 3 srf) :: (mrs, aI g 12 rsf) :: (mce, aI g 480 cef) :: (mcp, aI g 40 cpf) :: rest) [(0, .ref mo), (1, .int 0), (2, .int (nI R)), (3, .int (nI (C - 1))), (4, .int (nI iii))] 37 [] := by
        intro ddi
        induction ddi with
        | zero =>
          intro iii hiii 
          have hii2i : 36 = iii := by omega
          subst hii2i
          refine X_iload K0 4 dX5_isWall_37 rfl ?_
          refine X_bipush (v := 36) K0 dX5_isWall_39 (by decide) ?_
          refine X_icmp_ge K0 68 dX5_isWall_41 (by decide) (fun h41 => ?_) (fun h41 => ?_)
          · refine X_iconst (v := 1) K0 dX5_isWall_68 (by decide) ?_
            refine X_istore (L' := [(4, .int 1), (0, .ref mo), (1, .int 0), (2, .int (nI R)), (3, .int (nI (C - 1)))]) K0 dX5_isWall_69 (by decide) rfl ?_
            refine X.sub [1, 2, 3, 4, 0] (L' := [(0, .ref mo), (1, .int 0), (2, .int (nI R)), (3, .int (nI (C - 1))), (4, .int 1)]) rfl ?_
            have LOOPw : ∀ (n : Nat) (mb : Nat → Bool), cf mb 36 < n → WI R (C - 1) (shRM R C false io0) (shDM R C false io0) mb → X φ 0 0 (c0 :: c1 :: c2 :: c3 :: c4 :: c5 :: c6 :: c7 :: c8 :: c9 :: c10 :: c11 :: (mo, oModel tn stt tr (nI R) (nI C) (bI op) mki mel mto mio mwy (bI hwb) mme mhs mso msr mrs mce mcp) :: (mki, aI g 40 kinds) :: (mel, aI g 40 elders) :: (mto, aI g 25 tof) :: (mio, aZ g 40 iof) :: (mwy, aI g 4096 wyf) :: (mme, aZ g 36 (ovr 36 (bF mb) mef)) :: (mhs, aZ g 3 hsf) :: (mso, aI g 3 sof) :: (msr, aI g 3 srf) :: (mrs, aI g 12 rsf) :: (mce, aI g 480 cef) :: (mcp, aI g 40 cpf) :: rest) [(0, .ref mo), (1, .int 0), (2, .int (nI R)), (3, .int (nI (C - 1))), (4, .int (bI true))] 71 [] := by
              intro n
              induction n with
              | zero => exact fun mb h => absurd h (Nat.not_lt_zero _)
              | succ n ihw =>
                intro mb hcf hWI
                have J264 : ∀ (mb2 : Nat → Bool) (mr : Bool), PI R (C - 1) (shRM R C false io0) (shDM R C false io0) (cf mb 36) (R + 1) 0 mb2 mr → X φ 0 0 (c0 :: c1 :: c2 :: c3 :: c4 :: c5 :: c6 :: c7 :: c8 :: c9 :: c10 :: c11 :: (mo, oModel tn stt tr (nI R) (nI C) (bI op) mki mel mto mio mwy (bI hwb) mme mhs mso msr mrs mce mcp) :: (mki, aI g 40 kinds) :: (mel, aI g 40 elders) :: (mto, aI g 25 tof) :: (mio, aZ g 40 iof) :: (mwy, aI g 4096 wyf) :: (mme, aZ g 36 (ovr 36 (bF mb2) mef)) :: (mhs, aZ g 3 hsf) :: (mso, aI g 3 sof) :: (msr, aI g 3 srf) :: (mrs, aI g 12 rsf) :: (mce, aI g 480 cef) :: (mcp, aI g 40 cpf) :: rest) [(0, .ref mo), (1, .int 0), (2, .int (nI R)), (3, .int (nI (C - 1))), (4, .int (bI mr))] 264 [] := by
                  intro mb2 mr hPI
                  cases mr with
                  | true =>
                    refine X_goto K0 71 dX5_isWall_264 (by decide) ?_
                    exact ihw mb2 (Nat.lt_of_lt_of_le (hPI.2.2 rfl) (Nat.le_of_lt_succ hcf)) hPI.1
                  | false =>
                    refine X_goto K0 71 dX5_isWall_264 (by decide) ?_
                    refine X_iload K0 4 dX5_isWall_71 rfl ?_
                    refine X_if_eq K0 267 dX5_isWall_73 (by decide) (fun h73 => ?_) (fun h73 => absurd rfl h73)
                    refine X_iconst (v := 0) K0 dX5_isWall_267 (by decide) ?_
                    refine X_istore (L' := [(5, .int 0), (0, .ref mo), (1, .int 0), (2, .int (nI R)), (3, .int (nI (C - 1))), (4, .int (bI false))]) K0 dX5_isWall_268 (by decide) rfl ?_
                    refine X_iconst (v := 0) K0 dX5_isWall_270 (by decide) ?_
                    refine X_istore (L' := [(6, .int 0), (5, .int 0), (0, .ref mo), (1, .int 0), (2, .int (nI R)), (3, .int (nI (C - 1))), (4, .int (bI false))]) K0 dX5_isWall_271 (by decide) rfl ?_
                    refine X.sub [2, 3, 4, 5, 1, 0] (L' := [(0, .ref mo), (1, .int 0), (2, .int (nI R)), (3, .int (nI (C - 1))), (5, .int 0), (6, .int 0)]) rfl ?_
                    have LOOPf : ∀ (ddf iif : Nat), iif + ddf = (C - 1) → X φ 0 0 (c0 :: c1 :: c2 :: c3 :: c4 :: c5 :: c6 :: c7 :: c8 :: c9 :: c10 :: c11 :: (mo, oModel tn stt tr (nI R) (nI C) (bI op) mki mel mto mio mwy (bI hwb) mme mhs mso msr mrs mce mcp) :: (mki, aI g 40 kinds) :: (mel, aI g 40 elders) :: (mto, aI g 25 tof) :: (mio, aZ g 40 iof) :: (mwy, aI g 4096 wyf) :: (mme, aZ g 36 (ovr 36 (bF mb2) mef)) :: (mhs, aZ g 3 hsf) :: (mso, aI g 3 sof) :: (msr, aI g 3 srf) :: (mrs, aI g 12 rsf) :: (mce, aI g 480 cef) :: (mcp, aI g 40 cpf) :: rest) [(0, .ref mo), (1, .int 0), (2, .int (nI R)), (3, .int (nI (C - 1))), (5, .int (bI (anF (fun c => mb2 (6 * R + c)) iif))), (6, .int (nI iif))] 273 [] := by
                      intro ddf
                      induction ddf with
                      | zero =>
                        intro iif hiif 
                        have hii2f : (C - 1) = iif := by omega
                        subst hii2f
                        refine X_iload K0 5 dX5_isWall_273 rfl ?_
                        refine X_iload_n K0 3 dX5_isWall_275 rfl rfl ?_
                        refine X_icmp_ge K0 302 dX5_isWall_276 (by decide) (fun h276 => ?_) (fun h276 => ?_)
                        · refine X_iload K0 4 dX5_isWall_302 rfl ?_
                          exact hr _ _ _ _ ⟨by rw [hPI.fin hR.2 (by omega)]; rfl, _, rfl⟩ (bI_01 _) dX5_isWall_304
                        · exact absurd (nI_le (Nat.le_refl _) (by omega)) h276
                      | succ ddf ihf =>
                        intro iif hiif 
                        have hltf : iif < (C - 1) := by omega
                        refine X_iload K0 5 dX5_isWall_273 rfl ?_
                        refine X_iload_n K0 3 dX5_isWall_275 rfl rfl ?_
                        refine X_icmp_ge K0 302 dX5_isWall_276 (by decide) (fun h276 => ?_) (fun h276 => ?_)
                        · exact absurd h276 (nI_ge hltf (by omega))
                        · refine X_iload K0 4 dX5_isWall_279 rfl ?_
                          refine X_aload_n K0 0 dX5_isWall_281 rfl rfl ?_
                          refine X_get K0 12 rfl rfl hin5 12 (by decide) fl_RX5_33 rfl dX5_isWall_282 ?_
                          refine X_bipush (v := 6) K0 dX5_isWall_285 (by decide) ?_
                          refine X_iload_n K0 2 dX5_isWall_287 rfl rfl ?_
                          refine X_imul K0 dX5_isWall_288 ?_
                          refine X_v (z := (nI (6 * R))) (pk_mul 6 _) ?_
                          refine X_iload K0 5 dX5_isWall_289 rfl ?_
                          refine X_iadd K0 dX5_isWall_291 ?_
                          refine X_v (z := (nI (6 * R + iif))) (nI_add _ _) ?_
                          refine X_zaldN K0 18 rfl (by omega) (by first | decide | omega) dX5_isWall_292 ?_
                          refine X_v (ovr_lt (by omega)) ?_
                          refine X_ior K0 dX5_isWall_293 ?_
                          refine X_istore (L' := [(5, .int ((bI (anF (fun c => mb2 (6 * R + c)) iif)) ||| (bI (mb2 (6 * R + iif))))), (0, .ref mo), (1, .int 0), (2, .int (nI R)), (3, .int (nI (C - 1))), (6, .int (nI iif))]) K0 dX5_isWall_294 (by decide) rfl ?_
                          refine X_iinc (v := ((nI iif) + 1)) (L' := [(6, .int ((nI iif) + 1)), (5, .int ((bI (anF (fun c => mb2 (6 * R + c)) iif)) ||| (bI (mb2 (6 * R + iif))))), (0, .ref mo), (1, .int 0), (2, .int (nI R)), (3, .int (nI (C - 1)))]) K0 5 dX5_isWall_296 rfl (by first | rfl | decide) (by decide) rfl ?_
                          refine X_goto K0 273 dX5_isWall_299 (by decide) ?_
                          refine X.sub [2, 3, 4, 5, 1, 0] (L' := [(0, .ref mo), (1, .int 0), (2, .int (nI R)), (3, .int (nI (C - 1))), (5, .int ((bI (anF (fun c => mb2 (6 * R + c)) iif)) ||| (bI (mb2 (6 * R + iif))))), (6, .int ((nI iif) + 1))]) rfl ?_
                          exact X_eq rfl (by rw [nI_succ, anF, ← bI_or]) rfl (ihf (iif + 1) (by omega))
                    exact LOOPf (C - 1) 0 (by omega)
                refine X_iload K0 4 dX5_isWall_71 rfl ?_
                refine X_if_eq K0 267 dX5_isWall_73 (by decide) (fun h73 => absurd h73 (by decide)) (fun h73 => ?_)
                refine X_iconst (v := 0) K0 dX5_isWall_76 (by decide) ?_
                refine X_istore (L' := [(4, .int 0), (0, .ref mo), (1, .int 0), (2, .int (nI R)), (3, .int (nI (C - 1)))]) K0 dX5_isWall_77 (by decide) rfl ?_
                refine X_iconst (v := 0) K0 dX5_isWall_79 (by decide) ?_
                refine X_istore (L' := [(5, .int 0), (4, .int 0), (0, .ref mo), (1, .int 0), (2, .int (nI R)), (3, .int (nI (C - 1)))]) K0 dX5_isWall_80 (by decide) rfl ?_
                refine X.sub [2, 3, 4, 5, 1, 0] (L' := [(0, .ref mo), (1, .int 0), (2, .int (nI R)), (3, .int (nI (C - 1))), (4, .int 0), (5, .int 0)]) rfl ?_
                have LOOPr : ∀ (dd r : Nat), r + dd = R + 1 → ∀ (mb2 : Nat → Bool) (mr : Bool), PI R (C - 1) (shRM R C false io0) (shDM R C false io0) (cf mb 36) r 0 mb2 mr → X φ 0 0 (c0 :: c1 :: c2 :: c3 :: c4 :: c5 :: c6 :: c7 :: c8 :: c9 :: c10 :: c11 :: (mo, oModel tn stt tr (nI R) (nI C) (bI op) mki mel mto mio mwy (bI hwb) mme mhs mso msr mrs mce mcp) :: (mki, aI g 40 kinds) :: (mel, aI g 40 elders) :: (mto, aI g 25 tof) :: (mio, aZ g 40 iof) :: (mwy, aI g 4096 wyf) :: (mme, aZ g 36 (ovr 36 (bF mb2) mef)) :: (mhs, aZ g 3 hsf) :: (mso, aI g 3 sof) :: (msr, aI g 3 srf) :: (mrs, aI g 12 rsf) :: (mce, aI g 480 cef) :: (mcp, aI g 40 cpf) :: rest) [(0, .ref mo), (1, .int 0), (2, .int (nI R)), (3, .int (nI (C - 1))), (4, .int (bI mr)), (5, .int (nI r))] 82 [] := by
                  intro dd
                  induction dd with
                  | zero =>
                    intro r hr mb2 mr hPI
                    have hr2 : R + 1 = r := by omega
                    subst hr2
                    refine X_iload K0 5 dX5_isWall_82 rfl ?_
                    refine X_iload_n K0 2 dX5_isWall_84 rfl rfl ?_
                    refine X_icmp_gt K0 264 dX5_isWall_85 (by decide) (fun h85 => ?_) (fun h85 => ?_)
                    · refine X.sub [0, 1, 2, 3, 4] (L' := [(0, .ref mo), (1, .int 0), (2, .int (nI R)), (3, .int (nI (C - 1))), (4, .int (bI mr))]) rfl ?_
                      exact J264 mb2 mr hPI
                    · exact absurd (nI_lt (Nat.lt_succ_self _) (by omega)) h85
                  | succ dd ihr =>
                    intro r hr mb2 mr hPI
                    have hrH : r ≤ R := by omega
                    refine X_iload K0 5 dX5_isWall_82 rfl ?_
                    refine X_iload_n K0 2 dX5_isWall_84 rfl rfl ?_
                    refine X_icmp_gt K0 264 dX5_isWall_85 (by decide) (fun h85 => ?_) (fun h85 => ?_)
                    · exact absurd h85 (nI_nlt (by omega) (by omega))
                    · refine X_iconst (v := 0) K0 dX5_isWall_88 (by decide) ?_
                      refine X_istore (L' := [(6, .int 0), (0, .ref mo), (1, .int 0), (2, .int (nI R)), (3, .int (nI (C - 1))), (4, .int (bI mr)), (5, .int (nI r))]) K0 dX5_isWall_89 (by decide) rfl ?_
                      refine X.sub [1, 2, 3, 4, 5, 6, 0] (L' := [(0, .ref mo), (1, .int 0), (2, .int (nI R)), (3, .int (nI (C - 1))), (4, .int (bI mr)), (5, .int (nI r)), (6, .int 0)]) rfl ?_
                      have LOOPc : ∀ (ee c : Nat), c + ee = (C - 1) → ∀ (mb3 : Nat → Bool) (mr3 : Bool), PI R (C - 1) (shRM R C false io0) (shDM R C false io0) (cf mb 36) r c mb3 mr3 → X φ 0 0 (c0 :: c1 :: c2 :: c3 :: c4 :: c5 :: c6 :: c7 :: c8 :: c9 :: c10 :: c11 :: (mo, oModel tn stt tr (nI R) (nI C) (bI op) mki mel mto mio mwy (bI hwb) mme mhs mso msr mrs mce mcp) :: (mki, aI g 40 kinds) :: (mel, aI g 40 elders) :: (mto, aI g 25 tof) :: (mio, aZ g 40 iof) :: (mwy, aI g 4096 wyf) :: (mme, aZ g 36 (ovr 36 (bF mb3) mef)) :: (mhs, aZ g 3 hsf) :: (mso, aI g 3 sof) :: (msr, aI g 3 srf) :: (mrs, aI g 12 rsf) :: (mce, aI g 480 cef) :: (mcp, aI g 40 cpf) :: rest) [(0, .ref mo), (1, .int 0), (2, .int (nI R)), (3, .int (nI (C - 1))), (4, .int (bI mr3)), (5, .int (nI r)), (6, .int (nI c))] 91 [] := by
                        intro ee
                        induction ee with
                        | zero =>
                          intro c hc mb3 mr3 hPI3
                          have hc2 : (C - 1) = c := by omega
                          subst hc2
                          refine X_iload K0 6 dX5_isWall_91 rfl ?_
                          refine X_iload_n K0 3 dX5_isWall_93 rfl rfl ?_
                          refine X_icmp_ge K0 258 dX5_isWall_94 (by decide) (fun h94 => ?_) (fun h94 => ?_)
                          · refine X_iinc (v := ((nI r) + 1)) (L' := [(5, .int ((nI r) + 1)), (0, .ref mo), (1, .int 0), (2, .int (nI R)), (3, .int (nI (C - 1))), (4, .int (bI mr3)), (6, .int (nI (C - 1)))]) K0 5 dX5_isWall_258 rfl (by first | rfl | decide) (by decide) rfl ?_
                            refine X_goto K0 82 dX5_isWall_261 (by decide) ?_
                            refine X.sub [1, 2, 3, 4, 5, 0] (L' := [(0, .ref mo), (1, .int 0), (2, .int (nI R)), (3, .int (nI (C - 1))), (4, .int (bI mr3)), (5, .int ((nI r) + 1))]) rfl ?_
                            exact X_eq rfl (by rw [nI_succ]) rfl (ihr (r + 1) (by omega) mb3 mr3 hPI3.row)
                          · exact absurd (nI_le (Nat.le_refl _) (by omega)) h94
                        | succ ee ihc =>
                          intro c hc mb3 mr3 hPI3
                          have hcG : c < (C - 1) := by omega
                          have J252 : ∀ (mb4 : Nat → Bool) (mr4 : Bool), PI R (C - 1) (shRM R C false io0) (shDM R C false io0) (cf mb 36) r (c + 1) mb4 mr4 → X φ 0 0 (c0 :: c1 :: c2 :: c3 :: c4 :: c5 :: c6 :: c7 :: c8 :: c9 :: c10 :: c11 :: (mo, oModel tn stt tr (nI R) (nI C) (bI op) mki mel mto mio mwy (bI hwb) mme mhs mso msr mrs mce mcp) :: (mki, aI g 40 kinds) :: (mel, aI g 40 elders) :: (mto, aI g 25 tof) :: (mio, aZ g 40 iof) :: (mwy, aI g 4096 wyf) :: (mme, aZ g 36 (ovr 36 (bF mb4) mef)) :: (mhs, aZ g 3 hsf) :: (mso, aI g 3 sof) :: (msr, aI g 3 srf) :: (mrs, aI g 12 rsf) :: (mce, aI g 480 cef) :: (mcp, aI g 40 cpf) :: rest) [(0, .ref mo), (1, .int 0), (2, .int (nI R)), (3, .int (nI (C - 1))), (4, .int (bI mr4)), (5, .int (nI r)), (6, .int (nI c)), (7, .int (nI (6 * r + c)))] 252 [] := by
                            intro mb4 mr4 hPI4
                            refine X_iinc (v := ((nI c) + 1)) (L' := [(6, .int ((nI c) + 1)), (0, .ref mo), (1, .int 0), (2, .int (nI R)), (3, .int (nI (C - 1))), (4, .int (bI mr4)), (5, .int (nI r)), (7, .int (nI (6 * r + c)))]) K0 6 dX5_isWall_252 rfl (by first | rfl | decide) (by decide) rfl ?_
                            refine X_goto K0 91 dX5_isWall_255 (by decide) ?_
                            refine X.sub [1, 2, 3, 4, 5, 6, 0] (L' := [(0, .ref mo), (1, .int 0), (2, .int (nI R)), (3, .int (nI (C - 1))), (4, .int (bI mr4)), (5, .int (nI r)), (6, .int ((nI c) + 1))]) rfl ?_
                            exact X_eq rfl (by rw [nI_succ]) rfl (ihc (c + 1) (by omega) mb4 mr4 hPI4)
                          have J172 : ∀ (mb4 : Nat → Bool) (mr4 : Bool), PI1 R (C - 1) (shRM R C false io0) (shDM R C false io0) (cf mb 36) r c mb4 mr4 → X φ 0 0 (c0 :: c1 :: c2 :: c3 :: c4 :: c5 :: c6 :: c7 :: c8 :: c9 :: c10 :: c11 :: (mo, oModel tn stt tr (nI R) (nI C) (bI op) mki mel mto mio mwy (bI hwb) mme mhs mso msr mrs mce mcp) :: (mki, aI g 40 kinds) :: (mel, aI g 40 elders) :: (mto, aI g 25 tof) :: (mio, aZ g 40 iof) :: (mwy, aI g 4096 wyf) :: (mme, aZ g 36 (ovr 36 (bF mb4) mef)) :: (mhs, aZ g 3 hsf) :: (mso, aI g 3 sof) :: (msr, aI g 3 srf) :: (mrs, aI g 12 rsf) :: (mce, aI g 480 cef) :: (mcp, aI g 40 cpf) :: rest) [(0, .ref mo), (1, .int 0), (2, .int (nI R)), (3, .int (nI (C - 1))), (4, .int (bI mr4)), (5, .int (nI r)), (6, .int (nI c)), (7, .int (nI (6 * r + c)))] 172 [] := by
                            intro mb4 mr4 hPI4
                            refine X_iload K0 5 dX5_isWall_172 rfl ?_
                            refine X_if_le K0 252 dX5_isWall_174 (by decide) (fun h174 => ?_) (fun h174 => ?_)
                            · exact J252 mb4 mr4 (hPI4.b2 (by first | exact (fun q => absurd q (z_r h174 (by omega))) | exact (fun _ q => absurd q (Nat.not_lt.mpr (nle h180 (by omega) (by omega)))) | exact (fun _ _ q => absurd q (Nat.not_lt.mpr (nle h188 (by omega) (by omega)))) | exact (fun _ _ _ q => absurd (of_decide_eq_true q) h209) | exact (fun _ _ _ _ => bF_inj h228)))
                            · have h0r : 0 < r := p_r h174
                              refine X_iload K0 5 dX5_isWall_177 rfl ?_
                              refine X_iload_n K0 2 dX5_isWall_179 rfl rfl ?_
                              refine X_icmp_ge K0 252 dX5_isWall_180 (by decide) (fun h180 => ?_) (fun h180 => ?_)
                              · exact J252 mb4 mr4 (hPI4.b2 (by first | exact (fun q => absurd q (z_r h174 (by omega))) | exact (fun _ q => absurd q (Nat.not_lt.mpr (nle h180 (by omega) (by omega)))) | exact (fun _ _ q => absurd q (Nat.not_lt.mpr (nle h188 (by omega) (by omega)))) | exact (fun _ _ _ q => absurd (of_decide_eq_true q) h209) | exact (fun _ _ _ _ => bF_inj h228)))
                              · refine X_iload K0 6 dX5_isWall_183 rfl ?_
                                refine X_iconst (v := 1) K0 dX5_isWall_185 (by decide) ?_
                                refine X_iadd K0 dX5_isWall_186 ?_
                                refine X_v (z := (nI (c + 1))) (nI_add c 1) ?_
                                refine X_iload_n K0 3 dX5_isWall_187 rfl rfl ?_
                                refine X_icmp_ge K0 252 dX5_isWall_188 (by decide) (fun h188 => ?_) (fun h188 => ?_)
                                · exact J252 mb4 mr4 (hPI4.b2 (by first | exact (fun q => absurd q (z_r h174 (by omega))) | exact (fun _ q => absurd q (Nat.not_lt.mpr (nle h180 (by omega) (by omega)))) | exact (fun _ _ q => absurd q (Nat.not_lt.mpr (nle h188 (by omega) (by omega)))) | exact (fun _ _ _ q => absurd (of_decide_eq_true q) h209) | exact (fun _ _ _ _ => bF_inj h228)))
                                · have hk1 := nlt_nat h180 (by omega) (by omega)
                                  have hk2 := nlt_nat h188 (by omega) (by omega)
                                  refine X_aload_n K0 0 dX5_isWall_191 rfl rfl ?_
                                  refine X_get K0 12 rfl rfl hin5 9 (by decide) fl_RX5_26 rfl dX5_isWall_192 ?_
                                  refine X_aload_n K0 0 dX5_isWall_195 rfl rfl ?_
                                  refine X_iload K0 5 dX5_isWall_196 rfl ?_
                                  refine X_iconst (v := 1) K0 dX5_isWall_198 (by decide) ?_
                                  refine X_isub K0 dX5_isWall_199 ?_
                                  refine X_v (z := (nI (r - 1))) (nI_sub1 h0r) ?_
                                  refine X_iload K0 6 dX5_isWall_200 rfl ?_
                                  refine X_iconst (v := 1) K0 dX5_isWall_202 (by decide) ?_
                                  refine X_iadd K0 dX5_isWall_203 ?_
                                  refine X_v (z := (nI (c + 1))) (nI_add c 1) ?_
                                  refine X_iload_n K0 1 dX5_isWall_204 rfl rfl ?_
                                  refine X_callV (As := [.int (nI (r - 1)), .int (nI (c + 1)), .int 0]) (rest := [.ref mio]) K0 12 (m_roadDown g c0 c1 c2 c3 c4 c5 c6 c7 c8 c9 c10 c11 mo mki mel mto mio mwy mme mhs mso msr mrs mce mcp tn stt tr R C op hwb kinds elders tof iof wyf (ovr 36 (bF mb4) mef) hsf sof srf rsf cef cpf rest hR hC (r - 1) (c + 1) false) mi_X5_roadDown rfl rfl rfl ml_RX5_148 rfl (Nat.le_of_ble_eq_true rfl) (by decide) ⟨Nat.le_of_ble_eq_true rfl, Nat.le_of_ble_eq_true rfl⟩ rfl rfl dX5_isWall_205 ?_
                                  intro v w' hr'; obtain ⟨rfl, rfl⟩ := hr'
                                  show X φ 0 0 (c0 :: c1 :: c2 :: c3 :: c4 :: c5 :: c6 :: c7 :: c8 :: c9 :: c10 :: c11 :: (mo, oModel tn stt tr (nI R) (nI C) (bI op) mki mel mto mio mwy (bI hwb) mme mhs mso msr mrs mce mcp) :: (mki, aI g 40 kinds) :: (mel, aI g 40 elders) :: (mto, aI g 25 tof) :: (mio, aZ g 40 iof) :: (mwy, aI g 4096 wyf) :: (mme, aZ g 36 (ovr 36 (bF mb4) mef)) :: (mhs, aZ g 3 hsf) :: (mso, aI g 3 sof) :: (msr, aI g 3 srf) :: (mrs, aI g 12 rsf) :: (mce, aI g 480 cef) :: (mcp, aI g 40 cpf) :: rest) [(0, .ref mo), (1, .int 0), (2, .int (nI R)), (3, .int (nI (C - 1))), (4, .int (bI mr4)), (5, .int (nI r)), (6, .int (nI c)), (7, .int (nI (6 * r + c)))] 208 [.int (nI (rnM R C false (r - 1) (c + 1))), .ref mio]
                                  refine X_zaldN K0 16 rfl (Nat.lt_of_lt_of_le (rnf_lt hR hC (by omega) (by omega)) (rd_M hR hC).2.2) (by first | decide | omega) dX5_isWall_208 ?_
                                  refine X_v (hio _ (rnf_lt hR hC (by omega) (by omega))) ?_
                                  refine X_if_ne K0 252 dX5_isWall_209 (by decide) (fun h209 => ?_) (fun h209 => ?_)
                                  · exact J252 mb4 mr4 (hPI4.b2 (by first | exact (fun q => absurd q (z_r h174 (by omega))) | exact (fun _ q => absurd q (Nat.not_lt.mpr (nle h180 (by omega) (by omega)))) | exact (fun _ _ q => absurd q (Nat.not_lt.mpr (nle h188 (by omega) (by omega)))) | exact (fun _ _ _ q => absurd (of_decide_eq_true q) h209) | exact (fun _ _ _ _ => bF_inj h228)))
                                  · refine X_aload_n K0 0 dX5_isWall_212 rfl rfl ?_
                                    refine X_get K0 12 rfl rfl hin5 12 (by decide) fl_RX5_33 rfl dX5_isWall_213 ?_
                                    refine X_iload K0 7 dX5_isWall_216 rfl ?_
                                    refine X_zaldN K0 18 rfl (by omega) (by first | decide | omega) dX5_isWall_218 ?_
                                    refine X_v (ovr_lt (by omega)) ?_
                                    refine X_aload_n K0 0 dX5_isWall_219 rfl rfl ?_
                                    refine X_get K0 12 rfl rfl hin5 12 (by decide) fl_RX5_33 rfl dX5_isWall_220 ?_
                                    refine X_iload K0 7 dX5_isWall_223 rfl ?_
                                    refine X_iconst (v := 1) K0 dX5_isWall_225 (by decide) ?_
                                    refine X_iadd K0 dX5_isWall_226 ?_
                                    refine X_v (z := (nI (6 * r + c + 1))) (nI_add _ 1) ?_
                                    refine X_zaldN K0 18 rfl (by omega) (by first | decide | omega) dX5_isWall_227 ?_
                                    refine X_v (ovr_lt (by omega)) ?_
                                    refine X_icmp_eq K0 252 dX5_isWall_228 (by decide) (fun h228 => ?_) (fun h228 => ?_)
                                    · exact J252 mb4 mr4 (hPI4.b2 (by first | exact (fun q => absurd q (z_r h174 (by omega))) | exact (fun _ q => absurd q (Nat.not_lt.mpr (nle h180 (by omega) (by omega)))) | exact (fun _ _ q => absurd q (Nat.not_lt.mpr (nle h188 (by omega) (by omega)))) | exact (fun _ _ _ q => absurd (of_decide_eq_true q) h209) | exact (fun _ _ _ _ => bF_inj h228)))
                                    · refine X_aload_n K0 0 dX5_isWall_231 rfl rfl ?_
                                      refine X_get K0 12 rfl rfl hin5 12 (by decide) fl_RX5_33 rfl dX5_isWall_232 ?_
                                      refine X_iload K0 7 dX5_isWall_235 rfl ?_
                                      refine X_iconst (v := 1) K0 dX5_isWall_237 (by decide) ?_
                                      refine X_v (z := (bI true)) rfl ?_
                                      refine X_zastN (w' := (c0 :: c1 :: c2 :: c3 :: c4 :: c5 :: c6 :: c7 :: c8 :: c9 :: c10 :: c11 :: (mo, oModel tn stt tr (nI R) (nI C) (bI op) mki mel mto mio mwy (bI hwb) mme mhs mso msr mrs mce mcp) :: (mki, aI g 40 kinds) :: (mel, aI g 40 elders) :: (mto, aI g 25 tof) :: (mio, aZ g 40 iof) :: (mwy, aI g 4096 wyf) :: (mme, aZ g 36 (upd (ovr 36 (bF mb4) mef) (6 * r + c) (bI true))) :: (mhs, aZ g 3 hsf) :: (mso, aI g 3 sof) :: (msr, aI g 3 srf) :: (mrs, aI g 12 rsf) :: (mce, aI g 480 cef) :: (mcp, aI g 40 cpf) :: rest)) K0 18 rfl (by omega) (by first | decide | omega) dX5_isWall_238 rfl ?_
                                      refine X_aload_n K0 0 dX5_isWall_239 rfl rfl ?_
                                      refine X_get K0 12 rfl rfl hin5 12 (by decide) fl_RX5_33 rfl dX5_isWall_240 ?_
                                      refine X_iload K0 7 dX5_isWall_243 rfl ?_
                                      refine X_iconst (v := 1) K0 dX5_isWall_245 (by decide) ?_
                                      refine X_iadd K0 dX5_isWall_246 ?_
                                      refine X_v (z := (nI (6 * r + c + 1))) (nI_add _ 1) ?_
                                      refine X_iconst (v := 1) K0 dX5_isWall_247 (by decide) ?_
                                      refine X_v (z := (bI true)) rfl ?_
                                      refine X_zastN (w' := (c0 :: c1 :: c2 :: c3 :: c4 :: c5 :: c6 :: c7 :: c8 :: c9 :: c10 :: c11 :: (mo, oModel tn stt tr (nI R) (nI C) (bI op) mki mel mto mio mwy (bI hwb) mme mhs mso msr mrs mce mcp) :: (mki, aI g 40 kinds) :: (mel, aI g 40 elders) :: (mto, aI g 25 tof) :: (mio, aZ g 40 iof) :: (mwy, aI g 4096 wyf) :: (mme, aZ g 36 (upd (upd (ovr 36 (bF mb4) mef) (6 * r + c) (bI true)) (6 * r + c + 1) (bI true))) :: (mhs, aZ g 3 hsf) :: (mso, aI g 3 sof) :: (msr, aI g 3 srf) :: (mrs, aI g 12 rsf) :: (mce, aI g 480 cef) :: (mcp, aI g 40 cpf) :: rest)) K0 18 rfl (by omega) (by first | decide | omega) dX5_isWall_248 rfl ?_
                                      refine X_iconst (v := 1) K0 dX5_isWall_249 (by decide) ?_
                                      refine X_istore (L' := [(4, .int 1), (0, .ref mo), (1, .int 0), (2, .int (nI R)), (3, .int (nI (C - 1))), (5, .int (nI r)), (6, .int (nI c)), (7, .int (nI (6 * r + c)))]) K0 dX5_isWall_250 (by decide) rfl ?_
                                      refine X.sub [1, 2, 3, 4, 0, 5, 6, 7] (L' := [(0, .ref mo), (1, .int 0), (2, .int (nI R)), (3, .int (nI (C - 1))), (4, .int 1), (5, .int (nI r)), (6, .int (nI c)), (7, .int (nI (6 * r + c)))]) rfl ?_
                                      exact X_eq (by rw [ovr_upd (by omega), bF_ub, ovr_upd (by omega), bF_ub]) rfl rfl (J252 _ true (hPI4.s2 hR.2 (by omega) h0r (nlt_nat h180 (by omega) (by omega)) (nlt_nat h188 (by omega) (by omega)) (decide_eq_true h209) (bF_ninj h228)))
                          refine X_iload K0 6 dX5_isWall_91 rfl ?_
                          refine X_iload_n K0 3 dX5_isWall_93 rfl rfl ?_
                          refine X_icmp_ge K0 258 dX5_isWall_94 (by decide) (fun h94 => ?_) (fun h94 => ?_)
                          · exact absurd h94 (nI_ge hcG (by omega))
                          · refine X_bipush (v := 6) K0 dX5_isWall_97 (by decide) ?_
                            refine X_iload K0 5 dX5_isWall_99 rfl ?_
                            refine X_imul K0 dX5_isWall_101 ?_
                            refine X_v (z := (nI (6 * r))) (pk_mul 6 r) ?_
                            refine X_iload K0 6 dX5_isWall_102 rfl ?_
                            refine X_iadd K0 dX5_isWall_104 ?_
                            refine X_v (z := (nI (6 * r + c))) (nI_add _ _) ?_
                            refine X_istore (L' := [(7, .int (nI (6 * r + c))), (0, .ref mo), (1, .int 0), (2, .int (nI R)), (3, .int (nI (C - 1))), (4, .int (bI mr3)), (5, .int (nI r)), (6, .int (nI c))]) K0 dX5_isWall_105 (by decide) rfl ?_
                            refine X_iload K0 6 dX5_isWall_107 rfl ?_
                            refine X_iload_n K0 3 dX5_isWall_109 rfl rfl ?_
                            refine X_icmp_ge K0 172 dX5_isWall_110 (by decide) (fun h110 => ?_) (fun h110 => ?_)
                            · refine X.sub [1, 2, 3, 4, 5, 6, 7, 0] (L' := [(0, .ref mo), (1, .int 0), (2, .int (nI R)), (3, .int (nI (C - 1))), (4, .int (bI mr3)), (5, .int (nI r)), (6, .int (nI c)), (7, .int (nI (6 * r + c)))]) rfl ?_
                              exact J172 mb3 mr3 (hPI3.b1 (by first | exact (fun q => absurd q (Nat.not_lt.mpr (nle h110 (by omega) (by omega)))) | exact (fun _ q => absurd (of_decide_eq_true q) h127) | exact (fun _ _ => bF_inj h147)))
                            · have hk1 := nlt_nat h110 (by omega) (by omega)
                              refine X_aload_n K0 1 dX5_isWall_113 rfl rfl ?_
                              refine X_get K0 12 rfl rfl hin5 9 (by decide) fl_RX5_26 rfl dX5_isWall_114 ?_
                              refine X_aload_n K0 1 dX5_isWall_117 rfl rfl ?_
                              refine X_iload K0 6 dX5_isWall_118 rfl ?_
                              refine X_iload K0 7 dX5_isWall_120 rfl ?_
                              refine X_iload_n K0 2 dX5_isWall_122 rfl rfl ?_
                              refine X_callV (As := [.int (nI r), .int (nI c), .int 0]) (rest := [.ref mio]) K0 12 (m_roadRight g c0 c1 c2 c3 c4 c5 c6 c7 c8 c9 c10 c11 mo mki mel mto mio mwy mme mhs mso msr mrs mce mcp tn stt tr R C op hwb kinds elders tof iof wyf (ovr 36 (bF mb3) mef) hsf sof srf rsf cef cpf rest hR hC r c false) mi_X5_roadRight rfl rfl rfl ml_RX5_144 rfl (Nat.le_of_ble_eq_true rfl) (by decide) ⟨Nat.le_of_ble_eq_true rfl, Nat.le_of_ble_eq_true rfl⟩ rfl rfl dX5_isWall_123 ?_
                              intro v w' hr'; obtain ⟨rfl, rfl⟩ := hr'
                              show X φ 0 0 (c0 :: c1 :: c2 :: c3 :: c4 :: c5 :: c6 :: c7 :: c8 :: c9 :: c10 :: c11 :: (mo, oModel tn stt tr (nI R) (nI C) (bI op) mki mel mto mio mwy (bI hwb) mme mhs mso msr mrs mce mcp) :: (mki, aI g 40 kinds) :: (mel, aI g 40 elders) :: (mto, aI g 25 tof) :: (mio, aZ g 40 iof) :: (mwy, aI g 4096 wyf) :: (mme, aZ g 36 (ovr 36 (bF mb3) mef)) :: (mhs, aZ g 3 hsf) :: (mso, aI g 3 sof) :: (msr, aI g 3 srf) :: (mrs, aI g 12 rsf) :: (mce, aI g 480 cef) :: (mcp, aI g 40 cpf) :: rest) [(7, .int (nI (6 * r + c))), (0, .ref mo), (1, .int 0), (2, .int (nI R)), (3, .int (nI (C - 1))), (4, .int (bI mr3)), (5, .int (nI r)), (6, .int (nI c))] 126 [.int (nI (rrM R C false r c)), .ref mio]
                              refine X_zaldN K0 16 rfl (Nat.lt_of_lt_of_le (rrf_lt hR hC (by omega) (by omega)) (rd_M hR hC).2.2) (by first | decide | omega) dX5_isWall_126 ?_
                              refine X_v (hio _ (rrf_lt hR hC (by omega) (by omega))) ?_
                              refine X_if_ne K0 172 dX5_isWall_127 (by decide) (fun h127 => ?_) (fun h127 => ?_)
                              · refine X.sub [1, 2, 3, 4, 5, 6, 7, 0] (L' := [(0, .ref mo), (1, .int 0), (2, .int (nI R)), (3, .int (nI (C - 1))), (4, .int (bI mr3)), (5, .int (nI r)), (6, .int (nI c)), (7, .int (nI (6 * r + c)))]) rfl ?_
                                exact J172 mb3 mr3 (hPI3.b1 (by first | exact (fun q => absurd q (Nat.not_lt.mpr (nle h110 (by omega) (by omega)))) | exact (fun _ q => absurd (of_decide_eq_true q) h127) | exact (fun _ _ => bF_inj h147)))
                              · refine X_aload_n K0 1 dX5_isWall_130 rfl rfl ?_
                                refine X_get K0 12 rfl rfl hin5 12 (by decide) fl_RX5_33 rfl dX5_isWall_131 ?_
                                refine X_iload K0 0 dX5_isWall_134 rfl ?_
                                refine X_zaldN K0 18 rfl (by omega) (by first | decide | omega) dX5_isWall_136 ?_
                                refine X_v (ovr_lt (by omega)) ?_
                                refine X_aload_n K0 1 dX5_isWall_137 rfl rfl ?_
                                refine X_get K0 12 rfl rfl hin5 12 (by decide) fl_RX5_33 rfl dX5_isWall_138 ?_
                                refine X_iload K0 0 dX5_isWall_141 rfl ?_
                                refine X_bipush (v := 6) K0 dX5_isWall_143 (by decide) ?_
                                refine X_iadd K0 dX5_isWall_145 ?_
                                refine X_v (z := (nI (6 * r + c + 6))) (nI_add _ 6) ?_
                                refine X_zaldN K0 18 rfl (by omega) (by first | decide | omega) dX5_isWall_146 ?_
                                refine X_v (ovr_lt (by omega)) ?_
                                refine X_icmp_eq K0 172 dX5_isWall_147 (by decide) (fun h147 => ?_) (fun h147 => ?_)
                                · refine X.sub [1, 2, 3, 4, 5, 6, 7, 0] (L' := [(0, .ref mo), (1, .int 0), (2, .int (nI R)), (3, .int (nI (C - 1))), (4, .int (bI mr3)), (5, .int (nI r)), (6, .int (nI c)), (7, .int (nI (6 * r + c)))]) rfl ?_
                                  exact J172 mb3 mr3 (hPI3.b1 (by first | exact (fun q => absurd q (Nat.not_lt.mpr (nle h110 (by omega) (by omega)))) | exact (fun _ q => absurd (of_decide_eq_true q) h127) | exact (fun _ _ => bF_inj h147)))
                                · refine X_aload_n K0 1 dX5_isWall_150 rfl rfl ?_
                                  refine X_get K0 12 rfl rfl hin5 12 (by decide) fl_RX5_33 rfl dX5_isWall_151 ?_
                                  refine X_iload K0 0 dX5_isWall_154 rfl ?_
                                  refine X_iconst (v := 1) K0 dX5_isWall_156 (by decide) ?_
                                  refine X_v (z := (bI true)) rfl ?_
                                  refine X_zastN (w' := (c0 :: c1 :: c2 :: c3 :: c4 :: c5 :: c6 :: c7 :: c8 :: c9 :: c10 :: c11 :: (mo, oModel tn stt tr (nI R) (nI C) (bI op) mki mel mto mio mwy (bI hwb) mme mhs mso msr mrs mce mcp) :: (mki, aI g 40 kinds) :: (mel, aI g 40 elders) :: (mto, aI g 25 tof) :: (mio, aZ g 40 iof) :: (mwy, aI g 4096 wyf) :: (mme, aZ g 36 (upd (ovr 36 (bF mb3) mef) (6 * r + c) (bI true))) :: (mhs, aZ g 3 hsf) :: (mso, aI g 3 sof) :: (msr, aI g 3 srf) :: (mrs, aI g 12 rsf) :: (mce, aI g 480 cef) :: (mcp, aI g 40 cpf) :: rest)) K0 18 rfl (by omega) (by first | decide | omega) dX5_isWall_157 rfl ?_
                                  refine X_aload_n K0 1 dX5_isWall_158 rfl rfl ?_
                                  refine X_get K0 12 rfl rfl hin5 12 (by decide) fl_RX5_33 rfl dX5_isWall_159 ?_
                                  refine X_iload K0 0 dX5_isWall_162 rfl ?_
                                  refine X_bipush (v := 6) K0 dX5_isWall_164 (by decide) ?_
                                  refine X_iadd K0 dX5_isWall_166 ?_
                                  refine X_v (z := (nI (6 * r + c + 6))) (nI_add _ 6) ?_
                                  refine X_iconst (v := 1) K0 dX5_isWall_167 (by decide) ?_
                                  refine X_v (z := (bI true)) rfl ?_
                                  refine X_zastN (w' := (c0 :: c1 :: c2 :: c3 :: c4 :: c5 :: c6 :: c7 :: c8 :: c9 :: c10 :: c11 :: (mo, oModel tn stt tr (nI R) (nI C) (bI op) mki mel mto mio mwy (bI hwb) mme mhs mso msr mrs mce mcp) :: (mki, aI g 40 kinds) :: (mel, aI g 40 elders) :: (mto, aI g 25 tof) :: (mio, aZ g 40 iof) :: (mwy, aI g 4096 wyf) :: (mme, aZ g 36 (upd (upd (ovr 36 (bF mb3) mef) (6 * r + c) (bI true)) (6 * r + c + 6) (bI true))) :: (mhs, aZ g 3 hsf) :: (mso, aI g 3 sof) :: (msr, aI g 3 srf) :: (mrs, aI g 12 rsf) :: (mce, aI g 480 cef) :: (mcp, aI g 40 cpf) :: rest)) K0 18 rfl (by omega) (by first | decide | omega) dX5_isWall_168 rfl ?_
                                  refine X_iconst (v := 1) K0 dX5_isWall_169 (by decide) ?_
                                  refine X_istore (L' := [(4, .int 1), (7, .int (nI (6 * r + c))), (0, .ref mo), (1, .int 0), (2, .int (nI R)), (3, .int (nI (C - 1))), (5, .int (nI r)), (6, .int (nI c))]) K0 dX5_isWall_170 (by decide) rfl ?_
                                  refine X.sub [2, 3, 4, 5, 0, 6, 7, 1] (L' := [(0, .ref mo), (1, .int 0), (2, .int (nI R)), (3, .int (nI (C - 1))), (4, .int 1), (5, .int (nI r)), (6, .int (nI c)), (7, .int (nI (6 * r + c)))]) rfl ?_
                                  exact X_eq (by rw [ovr_upd (by omega), bF_ub, ovr_upd (by omega), bF_ub]) rfl rfl (J172 _ true (hPI3.s1 hR.2 (by omega) (nlt_nat h110 (by omega) (by omega)) hcG (decide_eq_true h127) (bF_ninj h147)))
                      exact LOOPc (C - 1) 0 (by omega) mb2 mr hPI
                exact LOOPr (R + 1) 0 (by omega) mb false (PI.start hWI)
            exact LOOPw (cf (fun k => decide (k < (C - 1))) 36 + 1) _ (Nat.lt_succ_self _) (WI.start hR.2 (by omega))
          · exact absurd (nI_le (Nat.le_refl 36) (by decide)) h41
        | succ ddi ihi =>
          intro iii hiii 
          have hlti : iii < 36 := by omega
          refine X_iload K0 4 dX5_isWall_37 rfl ?_
          refine X_bipush (v := 36) K0 dX5_isWall_39 (by decide) ?_
          refine X_icmp_ge K0 68 dX5_isWall_41 (by decide) (fun h41 => ?_) (fun h41 => ?_)
          · exact absurd h41 (nI_ge (b := 36) hlti (by decide))
          · refine X_aload_n K0 0 dX5_isWall_44 rfl rfl ?_
            refine X_get K0 12 rfl rfl hin5 12 (by decide) fl_RX5_33 rfl dX5_isWall_45 ?_
            refine X_iload K0 4 dX5_isWall_48 rfl ?_
            refine X_iload K0 4 dX5_isWall_50 rfl ?_
            refine X_iload_n K0 3 dX5_isWall_52 rfl rfl ?_
            refine X_icmp_ge K0 60 dX5_isWall_53 (by decide) (fun h53 => ?_) (fun h53 => ?_)
            · refine X_iconst (v := 0) K0 dX5_isWall_60 (by decide) ?_
              refine X_v (z := (bI false)) rfl ?_
              refine X_zastN (w' := (c0 :: c1 :: c2 :: c3 :: c4 :: c5 :: c6 :: c7 :: c8 :: c9 :: c10 :: c11 :: (mo, oModel tn stt tr (nI R) (nI C) (bI op) mki mel mto mio mwy (bI hwb) mme mhs mso msr mrs mce mcp) :: (mki, aI g 40 kinds) :: (mel, aI g 40 elders) :: (mto, aI g 25 tof) :: (mio, aZ g 40 iof) :: (mwy, aI g 4096 wyf) :: (mme, aZ g 36 (upd (ovr iii (bF (fun k => decide (k < (C - 1)))) mef) iii (bI false))) :: (mhs, aZ g 3 hsf) :: (mso, aI g 3 sof) :: (msr, aI g 3 srf) :: (mrs, aI g 12 rsf) :: (mce, aI g 480 cef) :: (mcp, aI g 40 cpf) :: rest)) K0 18 rfl (by omega) (by first | decide | omega) dX5_isWall_61 rfl ?_
              refine X_iinc (v := ((nI iii) + 1)) (L' := [(4, .int ((nI iii) + 1)), (0, .ref mo), (1, .int 0), (2, .int (nI R)), (3, .int (nI (C - 1)))]) K0 4 dX5_isWall_62 rfl (by first | rfl | decide) (by decide) rfl ?_
              refine X_goto K0 37 dX5_isWall_65 (by decide) ?_
              refine X.sub [1, 2, 3, 4, 0] (L' := [(0, .ref mo), (1, .int 0), (2, .int (nI R)), (3, .int (nI (C - 1))), (4, .int ((nI iii) + 1))]) rfl ?_
              exact X_eq (by first | (rw [ovr_s iii (bF (fun k => decide (k < (C - 1)))) mef (b_no h53 (by omega) (by omega))]) | (rw [ovr_s iii (bF (fun k => decide (k < (C - 1)))) mef (b_ye h53 (by omega) (by omega))])) (by rw [nI_succ] <;> rfl) rfl (ihi (iii + 1) (by omega))
            · refine X_iconst (v := 1) K0 dX5_isWall_56 (by decide) ?_
              refine X_v (z := (bI true)) rfl ?_
              refine X_goto K0 61 dX5_isWall_57 (by decide) ?_
              refine X_zastN (w' := (c0 :: c1 :: c2 :: c3 :: c4 :: c5 :: c6 :: c7 :: c8 :: c9 :: c10 :: c11 :: (mo, oModel tn stt tr (nI R) (nI C) (bI op) mki mel mto mio mwy (bI hwb) mme mhs mso msr mrs mce mcp) :: (mki, aI g 40 kinds) :: (mel, aI g 40 elders) :: (mto, aI g 25 tof) :: (mio, aZ g 40 iof) :: (mwy, aI g 4096 wyf) :: (mme, aZ g 36 (upd (ovr iii (bF (fun k => decide (k < (C - 1)))) mef) iii (bI true))) :: (mhs, aZ g 3 hsf) :: (mso, aI g 3 sof) :: (msr, aI g 3 srf) :: (mrs, aI g 12 rsf) :: (mce, aI g 480 cef) :: (mcp, aI g 40 cpf) :: rest)) K0 18 rfl (by omega) (by first | decide | omega) dX5_isWall_61 rfl ?_
              refine X_iinc (v := ((nI iii) + 1)) (L' := [(4, .int ((nI iii) + 1)), (0, .ref mo), (1, .int 0), (2, .int (nI R)), (3, .int (nI (C - 1)))]) K0 4 dX5_isWall_62 rfl (by first | rfl | decide) (by decide) rfl ?_
              refine X_goto K0 37 dX5_isWall_65 (by decide) ?_
              refine X.sub [1, 2, 3, 4, 0] (L' := [(0, .ref mo), (1, .int 0), (2, .int (nI R)), (3, .int (nI (C - 1))), (4, .int ((nI iii) + 1))]) rfl ?_
              exact X_eq (by first | (rw [ovr_s iii (bF (fun k => decide (k < (C - 1)))) mef (b_no h53 (by omega) (by omega))]) | (rw [ovr_s iii (bF (fun k => decide (k < (C - 1)))) mef (b_ye h53 (by omega) (by omega))])) (by rw [nI_succ] <;> rfl) rfl (ihi (iii + 1) (by omega))
      exact X_eq (by rw [ovr_0]) rfl rfl (LOOPi 36 0 (by omega))
    · exact absurd (by decide) h17
  · exact absurd (by decide) h1

set_option maxRecDepth 20000 in
set_option maxHeartbeats 400000 in
theorem m_isWall1 (g : Gx) (c0 c1 c2 c3 c4 c5 c6 c7 c8 c9 c10 c11 : Nat × va_E) (mo mki mel mto mio mwy mme mhs mso msr mrs mce mcp : Nat) (tn stt : Int32) (tr : Int64) (R C : Nat) (op hwb : Bool) (kinds elders tof iof wyf mef hsf sof srf rsf cef cpf : Nat → Int32) (rest : va_W) (hR : 1 ≤ R ∧ R ≤ 5) (hC : 1 ≤ C ∧ C ≤ 5) (io0 : Nat → Int32) (hio : ∀ t, t < rdM R C → iof t = io0 t) : Con g yX5_isWall cX5_isWall 8 (some .boolean) 2 43 0 0 [.ref mo, .int 1] (c0 :: c1 :: c2 :: c3 :: c4 :: c5 :: c6 :: c7 :: c8 :: c9 :: c10 :: c11 :: (mo, oModel tn stt tr (nI R) (nI C) (bI op) mki mel mto mio mwy (bI hwb) mme mhs mso msr mrs mce mcp) :: (mki, aI g 40 kinds) :: (mel, aI g 40 elders) :: (mto, aI g 25 tof) :: (mio, aZ g 40 iof) :: (mwy, aI g 4096 wyf) :: (mme, aZ g 36 mef) :: (mhs, aZ g 3 hsf) :: (mso, aI g 3 sof) :: (msr, aI g 3 srf) :: (mrs, aI g 12 rsf) :: (mce, aI g 480 cef) :: (mcp, aI g 40 cpf) :: rest) (fun v w' => v = some (.int (bI (waM R C true io0))) ∧ ∃ mq : Nat → Int32, (c0 :: c1 :: c2 :: c3 :: c4 :: c5 :: c6 :: c7 :: c8 :: c9 :: c10 :: c11 :: (mo, oModel tn stt tr (nI R) (nI C) (bI op) mki mel mto mio mwy (bI hwb) mme mhs mso msr mrs mce mcp) :: (mki, aI g 40 kinds) :: (mel, aI g 40 elders) :: (mto, aI g 25 tof) :: (mio, aZ g 40 iof) :: (mwy, aI g 4096 wyf) :: (mme, aZ g 36 mq) :: (mhs, aZ g 3 hsf) :: (mso, aI g 3 sof) :: (msr, aI g 3 srf) :: (mrs, aI g 12 rsf) :: (mce, aI g 480 cef) :: (mcp, aI g 40 cpf) :: rest) = w') := by
  have hTM := th_M (op := op) hR hC
  have hPM := pl_M hR hC
  have hRM := rd_M hR hC
  refine Con.ofZ (by decide +kernel) (Nat.le_of_ble_eq_true rfl) (fun φ K0 hr => ?_)
  show X φ 0 0 (c0 :: c1 :: c2 :: c3 :: c4 :: c5 :: c6 :: c7 :: c8 :: c9 :: c10 :: c11 :: (mo, oModel tn stt tr (nI R) (nI C) (bI op) mki mel mto mio mwy (bI hwb) mme mhs mso msr mrs mce mcp) :: (mki, aI g 40 kinds) :: (mel, aI g 40 elders) :: (mto, aI g 25 tof) :: (mio, aZ g 40 iof) :: (mwy, aI g 4096 wyf) :: (mme, aZ g 36 mef) :: (mhs, aZ g 3 hsf) :: (mso, aI g 3 sof) :: (msr, aI g 3 srf) :: (mrs, aI g 12 rsf) :: (mce, aI g 480 cef) :: (mcp, aI g 40 cpf) :: rest) [(0, .ref mo), (1, .int 1)] 0 []
  refine X_iload_n K0 1 dX5_isWall_0 rfl rfl ?_
  refine X_if_eq K0 11 dX5_isWall_1 (by decide) (fun h1 => ?_) (fun h1 => ?_)
  · exact absurd h1 (by decide)
  · refine X_aload_n K0 0 dX5_isWall_4 rfl rfl ?_
    refine X_get K0 12 rfl rfl hin5 4 (by decide) fl_RX5_13 rfl dX5_isWall_5 ?_
    refine X_goto K0 15 dX5_isWall_8 (by decide) ?_
    refine X_istore_n (L' := [(2, .int (nI C)), (0, .ref mo), (1, .int 1)]) K0 dX5_isWall_15 rfl (by decide) rfl ?_
    refine X_iload_n K0 2 dX5_isWall_16 rfl rfl ?_
    refine X_if_eq K0 27 dX5_isWall_17 (by decide) (fun h17 => ?_) (fun h17 => ?_)
    · exact absurd h17 (by decide)
    · refine X_aload_n K0 1 dX5_isWall_20 rfl rfl ?_
      refine X_get K0 12 rfl rfl hin5 3 (by decide) fl_RX5_7 rfl dX5_isWall_21 ?_
      refine X_goto K0 31 dX5_isWall_24 (by decide) ?_
      refine X_iconst (v := 1) K0 dX5_isWall_31 (by decide) ?_
      refine X_isub K0 dX5_isWall_32 ?_
      refine X_v (z := (nI (R - 1))) (nI_sub1 hR.1) ?_
      refine X_istore_n (L' := [(3, .int (nI (R - 1))), (2, .int (nI C)), (0, .ref mo), (1, .int 1)]) K0 dX5_isWall_33 rfl (by decide) rfl ?_
      refine X_iconst (v := 0) K0 dX5_isWall_34 (by decide) ?_
      refine X_istore (L' := [(4, .int 0), (3, .int (nI (R - 1))), (2, .int (nI C)), (0, .ref mo), (1, .int 1)]) K0 dX5_isWall_35 (by decide) rfl ?_
      refine X.sub [3, 4, 2, 1, 0] (L' := [(0, .ref mo), (1, .int 1), (2, .int (nI C)), (3, .int (nI (R - 1))), (4, .int 0)]) rfl ?_
      have LOOPi : ∀ (ddi iii : Nat), iii + ddi = 36 → X φ 0 0 (c0 :: c1 :: c2 :: c3 :: c4 :: c5 :: c6 :: c7 :: c8 :: c9 :: c10 :: c11 :: (mo, oModel tn stt tr (nI R) (nI C) (bI op) mki mel mto mio mwy (bI hwb) mme mhs mso msr mrs mce mcp) :: (mki, aI g 40 kinds) :: (mel, aI g 40 elders) :: (mto, aI g 25 tof) :: (mio, aZ g 40 iof) :: (mwy, aI g 4096 wyf) :: (mme, aZ g 36 (ovr iii (bF (fun k => decide (k < (R - 1)))) mef)) :: (mhs, aZ g 3 hsf) :: (mso, aI g 3 sof) :: (msr, aI g 3 srf) :: (mrs, aI g 12 rsf) :: (mce, aI g 480 cef) :: (mcp, aI g 40 cpf) :: rest) [(0, .ref mo), (1, .int 1), (2, .int (nI C)), (3, .int (nI (R - 1))), (4, .int (nI iii))] 37 [] := by
        intro ddi
        induction ddi with
        | zero =>
          intro iii hiii 
          have hii2i : 36 = iii := by omega
          subst hii2i
          refine X_iload K0 4 dX5_isWall_37 rfl ?_
          refine X_bipush (v := 36) K0 dX5_isWall_39 (by decide) ?_
          refine X_icmp_ge K0 68 dX5_isWall_41 (by decide) (fun h41 => ?_) (fun h41 => ?_)
          · refine X_iconst (v := 1) K0 dX5_isWall_68 (by decide) ?_
            refine X_istore (L' := [(4, .int 1), (0, .ref mo), (1, .int 1), (2, .int (nI C)), (3, .int (nI (R - 1)))]) K0 dX5_isWall_69 (by decide) rfl ?_
            refine X.sub [1, 2, 3, 4, 0] (L' := [(0, .ref mo), (1, .int 1), (2, .int (nI C)), (3, .int (nI (R - 1))), (4, .int 1)]) rfl ?_
            have LOOPw : ∀ (n : Nat) (mb : Nat → Bool), cf mb 36 < n → WI C (R - 1) (shRM R C true io0) (shDM R C true io0) mb → X φ 0 0 (c0 :: c1 :: c2 :: c3 :: c4 :: c5 :: c6 :: c7 :: c8 :: c9 :: c10 :: c11 :: (mo, oModel tn stt tr (nI R) (nI C) (bI op) mki mel mto mio mwy (bI hwb) mme mhs mso msr mrs mce mcp) :: (mki, aI g 40 kinds) :: (mel, aI g 40 elders) :: (mto, aI g 25 tof) :: (mio, aZ g 40 iof) :: (mwy, aI g 4096 wyf) :: (mme, aZ g 36 (ovr 36 (bF mb) mef)) :: (mhs, aZ g 3 hsf) :: (mso, aI g 3 sof) :: (msr, aI g 3 srf) :: (mrs, aI g 12 rsf) :: (mce, aI g 480 cef) :: (mcp, aI g 40 cpf) :: rest) [(0, .ref mo), (1, .int 1), (2, .int (nI C)), (3, .int (nI (R - 1))), (4, .int (bI true))] 71 [] := by
              intro n
              induction n with
              | zero => exact fun mb h => absurd h (Nat.not_lt_zero _)
              | succ n ihw =>
                intro mb hcf hWI
                have J264 : ∀ (mb2 : Nat → Bool) (mr : Bool), PI C (R - 1) (shRM R C true io0) (shDM R C true io0) (cf mb 36) (C + 1) 0 mb2 mr → X φ 0 0 (c0 :: c1 :: c2 :: c3 :: c4 :: c5 :: c6 :: c7 :: c8 :: c9 :: c10 :: c11 :: (mo, oModel tn stt tr (nI R) (nI C) (bI op) mki mel mto mio mwy (bI hwb) mme mhs mso msr mrs mce mcp) :: (mki, aI g 40 kinds) :: (mel, aI g 40 elders) :: (mto, aI g 25 tof) :: (mio, aZ g 40 iof) :: (mwy, aI g 4096 wyf) :: (mme, aZ g 36 (ovr 36 (bF mb2) mef)) :: (mhs, aZ g 3 hsf) :: (mso, aI g 3 sof) :: (msr, aI g 3 srf) :: (mrs, aI g 12 rsf) :: (mce, aI g 480 cef) :: (mcp, aI g 40 cpf) :: rest) [(0, .ref mo), (1, .int 1), (2, .int (nI C)), (3, .int (nI (R - 1))), (4, .int (bI mr))] 264 [] := by
                  intro mb2 mr hPI
                  cases mr with
                  | true =>
                    refine X_goto K0 71 dX5_isWall_264 (by decide) ?_
                    exact ihw mb2 (Nat.lt_of_lt_of_le (hPI.2.2 rfl) (Nat.le_of_lt_succ hcf)) hPI.1
                  | false =>
                    refine X_goto K0 71 dX5_isWall_264 (by decide) ?_
                    refine X_iload K0 4 dX5_isWall_71 rfl ?_
                    refine X_if_eq K0 267 dX5_isWall_73 (by decide) (fun h73 => ?_) (fun h73 => absurd rfl h73)
                    refine X_iconst (v := 0) K0 dX5_isWall_267 (by decide) ?_
                    refine X_istore (L' := [(5, .int 0), (0, .ref mo), (1, .int 1), (2, .int (nI C)), (3, .int (nI (R - 1))), (4, .int (bI false))]) K0 dX5_isWall_268 (by decide) rfl ?_
                    refine X_iconst (v := 0) K0 dX5_isWall_270 (by decide) ?_
                    refine X_istore (L' := [(6, .int 0), (5, .int 0), (0, .ref mo), (1, .int 1), (2, .int (nI C)), (3, .int (nI (R - 1))), (4, .int (bI false))]) K0 dX5_isWall_271 (by decide) rfl ?_
                    refine X.sub [2, 3, 4, 5, 1, 0] (L' := [(0, .ref mo), (1, .int 1), (2, .int (nI C)), (3, .int (nI (R - 1))), (5, .int 0), (6, .int 0)]) rfl ?_
                    have LOOPf : ∀ (ddf iif : Nat), iif + ddf = (R - 1) → X φ 0 0 (c0 :: c1 :: c2 :: c3 :: c4 :: c5 :: c6 :: c7 :: c8 :: c9 :: c10 :: c11 :: (mo, oModel tn stt tr (nI R) (nI C) (bI op) mki mel mto mio mwy (bI hwb) mme mhs mso msr mrs mce mcp) :: (mki, aI g 40 kinds) :: (mel, aI g 40 elders) :: (mto, aI g 25 tof) :: (mio, aZ g 40 iof) :: (mwy, aI g 4096 wyf) :: (mme, aZ g 36 (ovr 36 (bF mb2) mef)) :: (mhs, aZ g 3 hsf) :: (mso, aI g 3 sof) :: (msr, aI g 3 srf) :: (mrs, aI g 12 rsf) :: (mce, aI g 480 cef) :: (mcp, aI g 40 cpf) :: rest) [(0, .ref mo), (1, .int 1), (2, .int (nI C)), (3, .int (nI (R - 1))), (5, .int (bI (anF (fun c => mb2 (6 * C + c)) iif))), (6, .int (nI iif))] 273 [] := by
                      intro ddf
                      induction ddf with
                      | zero =>
                        intro iif hiif 
                        have hii2f : (R - 1) = iif := by omega
                        subst hii2f
                        refine X_iload K0 5 dX5_isWall_273 rfl ?_
                        refine X_iload_n K0 3 dX5_isWall_275 rfl rfl ?_
                        refine X_icmp_ge K0 302 dX5_isWall_276 (by decide) (fun h276 => ?_) (fun h276 => ?_)
                        · refine X_iload K0 4 dX5_isWall_302 rfl ?_
                          exact hr _ _ _ _ ⟨by rw [hPI.fin hC.2 (by omega)]; rfl, _, rfl⟩ (bI_01 _) dX5_isWall_304
                        · exact absurd (nI_le (Nat.le_refl _) (by omega)) h276
                      | succ ddf ihf =>
                        intro iif hiif 
                        have hltf : iif < (R - 1) := by omega
                        refine X_iload K0 5 dX5_isWall_273 rfl ?_
                        refine X_iload_n K0 3 dX5_isWall_275 rfl rfl ?_
                        refine X_icmp_ge K0 302 dX5_isWall_276 (by decide) (fun h276 => ?_) (fun h276 => ?_)
                        · exact absurd h276 (nI_ge hltf (by omega))
                        · refine X_iload K0 4 dX5_isWall_279 rfl ?_
                          refine X_aload_n K0 0 dX5_isWall_281 rfl rfl ?_
                          refine X_get K0 12 rfl rfl hin5 12 (by decide) fl_RX5_33 rfl dX5_isWall_282 ?_
                          refine X_bipush (v := 6) K0 dX5_isWall_285 (by decide) ?_
                          refine X_iload_n K0 2 dX5_isWall_287 rfl rfl ?_
                          refine X_imul K0 dX5_isWall_288 ?_
                          refine X_v (z := (nI (6 * C))) (pk_mul 6 _) ?_
                          refine X_iload K0 5 dX5_isWall_289 rfl ?_
                          refine X_iadd K0 dX5_isWall_291 ?_
                          refine X_v (z := (nI (6 * C + iif))) (nI_add _ _) ?_
                          refine X_zaldN K0 18 rfl (by omega) (by first | decide | omega) dX5_isWall_292 ?_
                          refine X_v (ovr_lt (by omega)) ?_
                          refine X_ior K0 dX5_isWall_293 ?_
                          refine X_istore (L' := [(5, .int ((bI (anF (fun c => mb2 (6 * C + c)) iif)) ||| (bI (mb2 (6 * C + iif))))), (0, .ref mo), (1, .int 1), (2, .int (nI C)), (3, .int (nI (R - 1))), (6, .int (nI iif))]) K0 dX5_isWall_294 (by decide) rfl ?_
                          refine X_iinc (v := ((nI iif) + 1)) (L' := [(6, .int ((nI iif) + 1)), (5, .int ((bI (anF (fun c => mb2 (6 * C + c)) iif)) ||| (bI (mb2 (6 * C + iif))))), (0, .ref mo), (1, .int 1), (2, .int (nI C)), (3, .int (nI (R - 1)))]) K0 5 dX5_isWall_296 rfl (by first | rfl | decide) (by decide) rfl ?_
                          refine X_goto K0 273 dX5_isWall_299 (by decide) ?_
                          refine X.sub [2, 3, 4, 5, 1, 0] (L' := [(0, .ref mo), (1, .int 1), (2, .int (nI C)), (3, .int (nI (R - 1))), (5, .int ((bI (anF (fun c => mb2 (6 * C + c)) iif)) ||| (bI (mb2 (6 * C + iif))))), (6, .int ((nI iif) + 1))]) rfl ?_
                          exact X_eq rfl (by rw [nI_succ, anF, ← bI_or]) rfl (ihf (iif + 1) (by omega))
                    exact LOOPf (R - 1) 0 (by omega)
                refine X_iload K0 4 dX5_isWall_71 rfl ?_
                refine X_if_eq K0 267 dX5_isWall_73 (by decide) (fun h73 => absurd h73 (by decide)) (fun h73 => ?_)
                refine X_iconst (v := 0) K0 dX5_isWall_76 (by decide) ?_
                refine X_istore (L' := [(4, .int 0), (0, .ref mo), (1, .int 1), (2, .int (nI C)), (3, .int (nI (R - 1)))]) K0 dX5_isWall_77 (by decide) rfl ?_
                refine X_iconst (v := 0) K0 dX5_isWall_79 (by decide) ?_
                refine X_istore (L' := [(5, .int 0), (4, .int 0), (0, .ref mo), (1, .int 1), (2, .int (nI C)), (3, .int (nI (R - 1)))]) K0 dX5_isWall_80 (by decide) rfl ?_
                refine X.sub [2, 3, 4, 5, 1, 0] (L' := [(0, .ref mo), (1, .int 1), (2, .int (nI C)), (3, .int (nI (R - 1))), (4, .int 0), (5, .int 0)]) rfl ?_
                have LOOPr : ∀ (dd r : Nat), r + dd = C + 1 → ∀ (mb2 : Nat → Bool) (mr : Bool), PI C (R - 1) (shRM R C true io0) (shDM R C true io0) (cf mb 36) r 0 mb2 mr → X φ 0 0 (c0 :: c1 :: c2 :: c3 :: c4 :: c5 :: c6 :: c7 :: c8 :: c9 :: c10 :: c11 :: (mo, oModel tn stt tr (nI R) (nI C) (bI op) mki mel mto mio mwy (bI hwb) mme mhs mso msr mrs mce mcp) :: (mki, aI g 40 kinds) :: (mel, aI g 40 elders) :: (mto, aI g 25 tof) :: (mio, aZ g 40 iof) :: (mwy, aI g 4096 wyf) :: (mme, aZ g 36 (ovr 36 (bF mb2) mef)) :: (mhs, aZ g 3 hsf) :: (mso, aI g 3 sof) :: (msr, aI g 3 srf) :: (mrs, aI g 12 rsf) :: (mce, aI g 480 cef) :: (mcp, aI g 40 cpf) :: rest) [(0, .ref mo), (1, .int 1), (2, .int (nI C)), (3, .int (nI (R - 1))), (4, .int (bI mr)), (5, .int (nI r))] 82 [] := by
                  intro dd
                  induction dd with
                  | zero =>
                    intro r hr mb2 mr hPI
                    have hr2 : C + 1 = r := by omega
                    subst hr2
                    refine X_iload K0 5 dX5_isWall_82 rfl ?_
                    refine X_iload_n K0 2 dX5_isWall_84 rfl rfl ?_
                    refine X_icmp_gt K0 264 dX5_isWall_85 (by decide) (fun h85 => ?_) (fun h85 => ?_)
                    · refine X.sub [0, 1, 2, 3, 4] (L' := [(0, .ref mo), (1, .int 1), (2, .int (nI C)), (3, .int (nI (R - 1))), (4, .int (bI mr))]) rfl ?_
                      exact J264 mb2 mr hPI
                    · exact absurd (nI_lt (Nat.lt_succ_self _) (by omega)) h85
                  | succ dd ihr =>
                    intro r hr mb2 mr hPI
                    have hrH : r ≤ C := by omega
                    refine X_iload K0 5 dX5_isWall_82 rfl ?_
                    refine X_iload_n K0 2 dX5_isWall_84 rfl rfl ?_
                    refine X_icmp_gt K0 264 dX5_isWall_85 (by decide) (fun h85 => ?_) (fun h85 => ?_)
                    · exact absurd h85 (nI_nlt (by omega) (by omega))
                    · refine X_iconst (v := 0) K0 dX5_isWall_88 (by decide) ?_
                      refine X_istore (L' := [(6, .int 0), (0, .ref mo), (1, .int 1), (2, .int (nI C)), (3, .int (nI (R - 1))), (4, .int (bI mr)), (5, .int (nI r))]) K0 dX5_isWall_89 (by decide) rfl ?_
                      refine X.sub [1, 2, 3, 4, 5, 6, 0] (L' := [(0, .ref mo), (1, .int 1), (2, .int (nI C)), (3, .int (nI (R - 1))), (4, .int (bI mr)), (5, .int (nI r)), (6, .int 0)]) rfl ?_
                      have LOOPc : ∀ (ee c : Nat), c + ee = (R - 1) → ∀ (mb3 : Nat → Bool) (mr3 : Bool), PI C (R - 1) (shRM R C true io0) (shDM R C true io0) (cf mb 36) r c mb3 mr3 → X φ 0 0 (c0 :: c1 :: c2 :: c3 :: c4 :: c5 :: c6 :: c7 :: c8 :: c9 :: c10 :: c11 :: (mo, oModel tn stt tr (nI R) (nI C) (bI op) mki mel mto mio mwy (bI hwb) mme mhs mso msr mrs mce mcp) :: (mki, aI g 40 kinds) :: (mel, aI g 40 elders) :: (mto, aI g 25 tof) :: (mio, aZ g 40 iof) :: (mwy, aI g 4096 wyf) :: (mme, aZ g 36 (ovr 36 (bF mb3) mef)) :: (mhs, aZ g 3 hsf) :: (mso, aI g 3 sof) :: (msr, aI g 3 srf) :: (mrs, aI g 12 rsf) :: (mce, aI g 480 cef) :: (mcp, aI g 40 cpf) :: rest) [(0, .ref mo), (1, .int 1), (2, .int (nI C)), (3, .int (nI (R - 1))), (4, .int (bI mr3)), (5, .int (nI r)), (6, .int (nI c))] 91 [] := by
                        intro ee
                        induction ee with
                        | zero =>
                          intro c hc mb3 mr3 hPI3
                          have hc2 : (R - 1) = c := by omega
                          subst hc2
                          refine X_iload K0 6 dX5_isWall_91 rfl ?_
                          refine X_iload_n K0 3 dX5_isWall_93 rfl rfl ?_
                          refine X_icmp_ge K0 258 dX5_isWall_94 (by decide) (fun h94 => ?_) (fun h94 => ?_)
                          · refine X_iinc (v := ((nI r) + 1)) (L' := [(5, .int ((nI r) + 1)), (0, .ref mo), (1, .int 1), (2, .int (nI C)), (3, .int (nI (R - 1))), (4, .int (bI mr3)), (6, .int (nI (R - 1)))]) K0 5 dX5_isWall_258 rfl (by first | rfl | decide) (by decide) rfl ?_
                            refine X_goto K0 82 dX5_isWall_261 (by decide) ?_
                            refine X.sub [1, 2, 3, 4, 5, 0] (L' := [(0, .ref mo), (1, .int 1), (2, .int (nI C)), (3, .int (nI (R - 1))), (4, .int (bI mr3)), (5, .int ((nI r) + 1))]) rfl ?_
                            exact X_eq rfl (by rw [nI_succ]) rfl (ihr (r + 1) (by omega) mb3 mr3 hPI3.row)
                          · exact absurd (nI_le (Nat.le_refl _) (by omega)) h94
                        | succ ee ihc =>
                          intro c hc mb3 mr3 hPI3
                          have hcG : c < (R - 1) := by omega
                          have J252 : ∀ (mb4 : Nat → Bool) (mr4 : Bool), PI C (R - 1) (shRM R C true io0) (shDM R C true io0) (cf mb 36) r (c + 1) mb4 mr4 → X φ 0 0 (c0 :: c1 :: c2 :: c3 :: c4 :: c5 :: c6 :: c7 :: c8 :: c9 :: c10 :: c11 :: (mo, oModel tn stt tr (nI R) (nI C) (bI op) mki mel mto mio mwy (bI hwb) mme mhs mso msr mrs mce mcp) :: (mki, aI g 40 kinds) :: (mel, aI g 40 elders) :: (mto, aI g 25 tof) :: (mio, aZ g 40 iof) :: (mwy, aI g 4096 wyf) :: (mme, aZ g 36 (ovr 36 (bF mb4) mef)) :: (mhs, aZ g 3 hsf) :: (mso, aI g 3 sof) :: (msr, aI g 3 srf) :: (mrs, aI g 12 rsf) :: (mce, aI g 480 cef) :: (mcp, aI g 40 cpf) :: rest) [(0, .ref mo), (1, .int 1), (2, .int (nI C)), (3, .int (nI (R - 1))), (4, .int (bI mr4)), (5, .int (nI r)), (6, .int (nI c)), (7, .int (nI (6 * r + c)))] 252 [] := by
                            intro mb4 mr4 hPI4
                            refine X_iinc (v := ((nI c) + 1)) (L' := [(6, .int ((nI c) + 1)), (0, .ref mo), (1, .int 1), (2, .int (nI C)), (3, .int (nI (R - 1))), (4, .int (bI mr4)), (5, .int (nI r)), (7, .int (nI (6 * r + c)))]) K0 6 dX5_isWall_252 rfl (by first | rfl | decide) (by decide) rfl ?_
                            refine X_goto K0 91 dX5_isWall_255 (by decide) ?_
                            refine X.sub [1, 2, 3, 4, 5, 6, 0] (L' := [(0, .ref mo), (1, .int 1), (2, .int (nI C)), (3, .int (nI (R - 1))), (4, .int (bI mr4)), (5, .int (nI r)), (6, .int ((nI c) + 1))]) rfl ?_
                            exact X_eq rfl (by rw [nI_succ]) rfl (ihc (c + 1) (by omega) mb4 mr4 hPI4)
                          have J172 : ∀ (mb4 : Nat → Bool) (mr4 : Bool), PI1 C (R - 1) (shRM R C true io0) (shDM R C true io0) (cf mb 36) r c mb4 mr4 → X φ 0 0 (c0 :: c1 :: c2 :: c3 :: c4 :: c5 :: c6 :: c7 :: c8 :: c9 :: c10 :: c11 :: (mo, oModel tn stt tr (nI R) (nI C) (bI op) mki mel mto mio mwy (bI hwb) mme mhs mso msr mrs mce mcp) :: (mki, aI g 40 kinds) :: (mel, aI g 40 elders) :: (mto, aI g 25 tof) :: (mio, aZ g 40 iof) :: (mwy, aI g 4096 wyf) :: (mme, aZ g 36 (ovr 36 (bF mb4) mef)) :: (mhs, aZ g 3 hsf) :: (mso, aI g 3 sof) :: (msr, aI g 3 srf) :: (mrs, aI g 12 rsf) :: (mce, aI g 480 cef) :: (mcp, aI g 40 cpf) :: rest) [(0, .ref mo), (1, .int 1), (2, .int (nI C)), (3, .int (nI (R - 1))), (4, .int (bI mr4)), (5, .int (nI r)), (6, .int (nI c)), (7, .int (nI (6 * r + c)))] 172 [] := by
                            intro mb4 mr4 hPI4
                            refine X_iload K0 5 dX5_isWall_172 rfl ?_
                            refine X_if_le K0 252 dX5_isWall_174 (by decide) (fun h174 => ?_) (fun h174 => ?_)
                            · exact J252 mb4 mr4 (hPI4.b2 (by first | exact (fun q => absurd q (z_r h174 (by omega))) | exact (fun _ q => absurd q (Nat.not_lt.mpr (nle h180 (by omega) (by omega)))) | exact (fun _ _ q => absurd q (Nat.not_lt.mpr (nle h188 (by omega) (by omega)))) | exact (fun _ _ _ q => absurd (of_decide_eq_true q) h209) | exact (fun _ _ _ _ => bF_inj h228)))
                            · have h0r : 0 < r := p_r h174
                              refine X_iload K0 5 dX5_isWall_177 rfl ?_
                              refine X_iload_n K0 2 dX5_isWall_179 rfl rfl ?_
                              refine X_icmp_ge K0 252 dX5_isWall_180 (by decide) (fun h180 => ?_) (fun h180 => ?_)
                              · exact J252 mb4 mr4 (hPI4.b2 (by first | exact (fun q => absurd q (z_r h174 (by omega))) | exact (fun _ q => absurd q (Nat.not_lt.mpr (nle h180 (by omega) (by omega)))) | exact (fun _ _ q => absurd q (Nat.not_lt.mpr (nle h188 (by omega) (by omega)))) | exact (fun _ _ _ q => absurd (of_decide_eq_true q) h209) | exact (fun _ _ _ _ => bF_inj h228)))
                              · refine X_iload K0 6 dX5_isWall_183 rfl ?_
                                refine X_iconst (v := 1) K0 dX5_isWall_185 (by decide) ?_
                                refine X_iadd K0 dX5_isWall_186 ?_
                                refine X_v (z := (nI (c + 1))) (nI_add c 1) ?_
                                refine X_iload_n K0 3 dX5_isWall_187 rfl rfl ?_
                                refine X_icmp_ge K0 252 dX5_isWall_188 (by decide) (fun h188 => ?_) (fun h188 => ?_)
                                · exact J252 mb4 mr4 (hPI4.b2 (by first | exact (fun q => absurd q (z_r h174 (by omega))) | exact (fun _ q => absurd q (Nat.not_lt.mpr (nle h180 (by omega) (by omega)))) | exact (fun _ _ q => absurd q (Nat.not_lt.mpr (nle h188 (by omega) (by omega)))) | exact (fun _ _ _ q => absurd (of_decide_eq_true q) h209) | exact (fun _ _ _ _ => bF_inj h228)))
                                · have hk1 := nlt_nat h180 (by omega) (by omega)
                                  have hk2 := nlt_nat h188 (by omega) (by omega)
                                  refine X_aload_n K0 0 dX5_isWall_191 rfl rfl ?_
                                  refine X_get K0 12 rfl rfl hin5 9 (by decide) fl_RX5_26 rfl dX5_isWall_192 ?_
                                  refine X_aload_n K0 0 dX5_isWall_195 rfl rfl ?_
                                  refine X_iload K0 5 dX5_isWall_196 rfl ?_
                                  refine X_iconst (v := 1) K0 dX5_isWall_198 (by decide) ?_
                                  refine X_isub K0 dX5_isWall_199 ?_
                                  refine X_v (z := (nI (r - 1))) (nI_sub1 h0r) ?_
                                  refine X_iload K0 6 dX5_isWall_200 rfl ?_
                                  refine X_iconst (v := 1) K0 dX5_isWall_202 (by decide) ?_
                                  refine X_iadd K0 dX5_isWall_203 ?_
                                  refine X_v (z := (nI (c + 1))) (nI_add c 1) ?_
                                  refine X_iload_n K0 1 dX5_isWall_204 rfl rfl ?_
                                  refine X_callV (As := [.int (nI (r - 1)), .int (nI (c + 1)), .int 1]) (rest := [.ref mio]) K0 12 (m_roadDown g c0 c1 c2 c3 c4 c5 c6 c7 c8 c9 c10 c11 mo mki mel mto mio mwy mme mhs mso msr mrs mce mcp tn stt tr R C op hwb kinds elders tof iof wyf (ovr 36 (bF mb4) mef) hsf sof srf rsf cef cpf rest hR hC (r - 1) (c + 1) true) mi_X5_roadDown rfl rfl rfl ml_RX5_148 rfl (Nat.le_of_ble_eq_true rfl) (by decide) ⟨Nat.le_of_ble_eq_true rfl, Nat.le_of_ble_eq_true rfl⟩ rfl rfl dX5_isWall_205 ?_
                                  intro v w' hr'; obtain ⟨rfl, rfl⟩ := hr'
                                  show X φ 0 0 (c0 :: c1 :: c2 :: c3 :: c4 :: c5 :: c6 :: c7 :: c8 :: c9 :: c10 :: c11 :: (mo, oModel tn stt tr (nI R) (nI C) (bI op) mki mel mto mio mwy (bI hwb) mme mhs mso msr mrs mce mcp) :: (mki, aI g 40 kinds) :: (mel, aI g 40 elders) :: (mto, aI g 25 tof) :: (mio, aZ g 40 iof) :: (mwy, aI g 4096 wyf) :: (mme, aZ g 36 (ovr 36 (bF mb4) mef)) :: (mhs, aZ g 3 hsf) :: (mso, aI g 3 sof) :: (msr, aI g 3 srf) :: (mrs, aI g 12 rsf) :: (mce, aI g 480 cef) :: (mcp, aI g 40 cpf) :: rest) [(0, .ref mo), (1, .int 1), (2, .int (nI C)), (3, .int (nI (R - 1))), (4, .int (bI mr4)), (5, .int (nI r)), (6, .int (nI c)), (7, .int (nI (6 * r + c)))] 208 [.int (nI (rnM R C true (r - 1) (c + 1))), .ref mio]
                                  refine X_zaldN K0 16 rfl (Nat.lt_of_lt_of_le (rnt_lt hR hC (by omega) (by omega)) (rd_M hR hC).2.2) (by first | decide | omega) dX5_isWall_208 ?_
                                  refine X_v (hio _ (rnt_lt hR hC (by omega) (by omega))) ?_
                                  refine X_if_ne K0 252 dX5_isWall_209 (by decide) (fun h209 => ?_) (fun h209 => ?_)
                                  · exact J252 mb4 mr4 (hPI4.b2 (by first | exact (fun q => absurd q (z_r h174 (by omega))) | exact (fun _ q => absurd q (Nat.not_lt.mpr (nle h180 (by omega) (by omega)))) | exact (fun _ _ q => absurd q (Nat.not_lt.mpr (nle h188 (by omega) (by omega)))) | exact (fun _ _ _ q => absurd (of_decide_eq_true q) h209) | exact (fun _ _ _ _ => bF_inj h228)))
                                  · refine X_aload_n K0 0 dX5_isWall_212 rfl rfl ?_
                                    refine X_get K0 12 rfl rfl hin5 12 (by decide) fl_RX5_33 rfl dX5_isWall_213 ?_
                                    refine X_iload K0 7 dX5_isWall_216 rfl ?_
                                    refine X_zaldN K0 18 rfl (by omega) (by first | decide | omega) dX5_isWall_218 ?_
                                    refine X_v (ovr_lt (by omega)) ?_
                                    refine X_aload_n K0 0 dX5_isWall_219 rfl rfl ?_
                                    refine X_get K0 12 rfl rfl hin5 12 (by decide) fl_RX5_33 rfl dX5_isWall_220 ?_
                                    refine X_iload K0 7 dX5_isWall_223 rfl ?_
                                    refine X_iconst (v := 1) K0 dX5_isWall_225 (by decide) ?_
                                    refine X_iadd K0 dX5_isWall_226 ?_
                                    refine X_v (z := (nI (6 * r + c + 1))) (nI_add _ 1) ?_
                                    refine X_zaldN K0 18 rfl (by omega) (by first | decide | omega) dX5_isWall_227 ?_
                                    refine X_v (ovr_lt (by omega)) ?_
                                    refine X_icmp_eq K0 252 dX5_isWall_228 (by decide) (fun h228 => ?_) (fun h228 => ?_)
                                    · exact J252 mb4 mr4 (hPI4.b2 (by first | exact (fun q => absurd q (z_r h174 (by omega))) | exact (fun _ q => absurd q (Nat.not_lt.mpr (nle h180 (by omega) (by omega)))) | exact (fun _ _ q => absurd q (Nat.not_lt.mpr (nle h188 (by omega) (by omega)))) | exact (fun _ _ _ q => absurd (of_decide_eq_true q) h209) | exact (fun _ _ _ _ => bF_inj h228)))
                                    · refine X_aload_n K0 0 dX5_isWall_231 rfl rfl ?_
                                      refine X_get K0 12 rfl rfl hin5 12 (by decide) fl_RX5_33 rfl dX5_isWall_232 ?_
                                      refine X_iload K0 7 dX5_isWall_235 rfl ?_
                                      refine X_iconst (v := 1) K0 dX5_isWall_237 (by decide) ?_
                                      refine X_v (z := (bI true)) rfl ?_
                                      refine X_zastN (w' := (c0 :: c1 :: c2 :: c3 :: c4 :: c5 :: c6 :: c7 :: c8 :: c9 :: c10 :: c11 :: (mo, oModel tn stt tr (nI R) (nI C) (bI op) mki mel mto mio mwy (bI hwb) mme mhs mso msr mrs mce mcp) :: (mki, aI g 40 kinds) :: (mel, aI g 40 elders) :: (mto, aI g 25 tof) :: (mio, aZ g 40 iof) :: (mwy, aI g 4096 wyf) :: (mme, aZ g 36 (upd (ovr 36 (bF mb4) mef) (6 * r + c) (bI true))) :: (mhs, aZ g 3 hsf) :: (mso, aI g 3 sof) :: (msr, aI g 3 srf) :: (mrs, aI g 12 rsf) :: (mce, aI g 480 cef) :: (mcp, aI g 40 cpf) :: rest)) K0 18 rfl (by omega) (by first | decide | omega) dX5_isWall_238 rfl ?_
                                      refine X_aload_n K0 0 dX5_isWall_239 rfl rfl ?_
                                      refine X_get K0 12 rfl rfl hin5 12 (by decide) fl_RX5_33 rfl dX5_isWall_240 ?_
                                      refine X_iload K0 7 dX5_isWall_243 rfl ?_
                                      refine X_iconst (v := 1) K0 dX5_isWall_245 (by decide) ?_
                                      refine X_iadd K0 dX5_isWall_246 ?_
                                      refine X_v (z := (nI (6 * r + c + 1))) (nI_add _ 1) ?_
                                      refine X_iconst (v := 1) K0 dX5_isWall_247 (by decide) ?_
                                      refine X_v (z := (bI true)) rfl ?_
                                      refine X_zastN (w' := (c0 :: c1 :: c2 :: c3 :: c4 :: c5 :: c6 :: c7 :: c8 :: c9 :: c10 :: c11 :: (mo, oModel tn stt tr (nI R) (nI C) (bI op) mki mel mto mio mwy (bI hwb) mme mhs mso msr mrs mce mcp) :: (mki, aI g 40 kinds) :: (mel, aI g 40 elders) :: (mto, aI g 25 tof) :: (mio, aZ g 40 iof) :: (mwy, aI g 4096 wyf) :: (mme, aZ g 36 (upd (upd (ovr 36 (bF mb4) mef) (6 * r + c) (bI true)) (6 * r + c + 1) (bI true))) :: (mhs, aZ g 3 hsf) :: (mso, aI g 3 sof) :: (msr, aI g 3 srf) :: (mrs, aI g 12 rsf) :: (mce, aI g 480 cef) :: (mcp, aI g 40 cpf) :: rest)) K0 18 rfl (by omega) (by first | decide | omega) dX5_isWall_248 rfl ?_
                                      refine X_iconst (v := 1) K0 dX5_isWall_249 (by decide) ?_
                                      refine X_istore (L' := [(4, .int 1), (0, .ref mo), (1, .int 1), (2, .int (nI C)), (3, .int (nI (R - 1))), (5, .int (nI r)), (6, .int (nI c)), (7, .int (nI (6 * r + c)))]) K0 dX5_isWall_250 (by decide) rfl ?_
                                      refine X.sub [1, 2, 3, 4, 0, 5, 6, 7] (L' := [(0, .ref mo), (1, .int 1), (2, .int (nI C)), (3, .int (nI (R - 1))), (4, .int 1), (5, .int (nI r)), (6, .int (nI c)), (7, .int (nI (6 * r + c)))]) rfl ?_
                                      exact X_eq (by rw [ovr_upd (by omega), bF_ub, ovr_upd (by omega), bF_ub]) rfl rfl (J252 _ true (hPI4.s2 hC.2 (by omega) h0r (nlt_nat h180 (by omega) (by omega)) (nlt_nat h188 (by omega) (by omega)) (decide_eq_true h209) (bF_ninj h228)))
                          refine X_iload K0 6 dX5_isWall_91 rfl ?_
                          refine X_iload_n K0 3 dX5_isWall_93 rfl rfl ?_
                          refine X_icmp_ge K0 258 dX5_isWall_94 (by decide) (fun h94 => ?_) (fun h94 => ?_)
                          · exact absurd h94 (nI_ge hcG (by omega))
                          · refine X_bipush (v := 6) K0 dX5_isWall_97 (by decide) ?_
                            refine X_iload K0 5 dX5_isWall_99 rfl ?_
                            refine X_imul K0 dX5_isWall_101 ?_
                            refine X_v (z := (nI (6 * r))) (pk_mul 6 r) ?_
                            refine X_iload K0 6 dX5_isWall_102 rfl ?_
                            refine X_iadd K0 dX5_isWall_104 ?_
                            refine X_v (z := (nI (6 * r + c))) (nI_add _ _) ?_
                            refine X_istore (L' := [(7, .int (nI (6 * r + c))), (0, .ref mo), (1, .int 1), (2, .int (nI C)), (3, .int (nI (R - 1))), (4, .int (bI mr3)), (5, .int (nI r)), (6, .int (nI c))]) K0 dX5_isWall_105 (by decide) rfl ?_
                            refine X_iload K0 6 dX5_isWall_107 rfl ?_
                            refine X_iload_n K0 3 dX5_isWall_109 rfl rfl ?_
                            refine X_icmp_ge K0 172 dX5_isWall_110 (by decide) (fun h110 => ?_) (fun h110 => ?_)
                            · refine X.sub [1, 2, 3, 4, 5, 6, 7, 0] (L' := [(0, .ref mo), (1, .int 1), (2, .int (nI C)), (3, .int (nI (R - 1))), (4, .int (bI mr3)), (5, .int (nI r)), (6, .int (nI c)), (7, .int (nI (6 * r + c)))]) rfl ?_
                              exact J172 mb3 mr3 (hPI3.b1 (by first | exact (fun q => absurd q (Nat.not_lt.mpr (nle h110 (by omega) (by omega)))) | exact (fun _ q => absurd (of_decide_eq_true q) h127) | exact (fun _ _ => bF_inj h147)))
                            · have hk1 := nlt_nat h110 (by omega) (by omega)
                              refine X_aload_n K0 1 dX5_isWall_113 rfl rfl ?_
                              refine X_get K0 12 rfl rfl hin5 9 (by decide) fl_RX5_26 rfl dX5_isWall_114 ?_
                              refine X_aload_n K0 1 dX5_isWall_117 rfl rfl ?_
                              refine X_iload K0 6 dX5_isWall_118 rfl ?_
                              refine X_iload K0 7 dX5_isWall_120 rfl ?_
                              refine X_iload_n K0 2 dX5_isWall_122 rfl rfl ?_
                              refine X_callV (As := [.int (nI r), .int (nI c), .int 1]) (rest := [.ref mio]) K0 12 (m_roadRight g c0 c1 c2 c3 c4 c5 c6 c7 c8 c9 c10 c11 mo mki mel mto mio mwy mme mhs mso msr mrs mce mcp tn stt tr R C op hwb kinds elders tof iof wyf (ovr 36 (bF mb3) mef) hsf sof srf rsf cef cpf rest hR hC r c true) mi_X5_roadRight rfl rfl rfl ml_RX5_144 rfl (Nat.le_of_ble_eq_true rfl) (by decide) ⟨Nat.le_of_ble_eq_true rfl, Nat.le_of_ble_eq_true rfl⟩ rfl rfl dX5_isWall_123 ?_
                              intro v w' hr'; obtain ⟨rfl, rfl⟩ := hr'
                              show X φ 0 0 (c0 :: c1 :: c2 :: c3 :: c4 :: c5 :: c6 :: c7 :: c8 :: c9 :: c10 :: c11 :: (mo, oModel tn stt tr (nI R) (nI C) (bI op) mki mel mto mio mwy (bI hwb) mme mhs mso msr mrs mce mcp) :: (mki, aI g 40 kinds) :: (mel, aI g 40 elders) :: (mto, aI g 25 tof) :: (mio, aZ g 40 iof) :: (mwy, aI g 4096 wyf) :: (mme, aZ g 36 (ovr 36 (bF mb3) mef)) :: (mhs, aZ g 3 hsf) :: (mso, aI g 3 sof) :: (msr, aI g 3 srf) :: (mrs, aI g 12 rsf) :: (mce, aI g 480 cef) :: (mcp, aI g 40 cpf) :: rest) [(7, .int (nI (6 * r + c))), (0, .ref mo), (1, .int 1), (2, .int (nI C)), (3, .int (nI (R - 1))), (4, .int (bI mr3)), (5, .int (nI r)), (6, .int (nI c))] 126 [.int (nI (rrM R C true r c)), .ref mio]
                              refine X_zaldN K0 16 rfl (Nat.lt_of_lt_of_le (rrt_lt hR hC (by omega) (by omega)) (rd_M hR hC).2.2) (by first | decide | omega) dX5_isWall_126 ?_
                              refine X_v (hio _ (rrt_lt hR hC (by omega) (by omega))) ?_
                              refine X_if_ne K0 172 dX5_isWall_127 (by decide) (fun h127 => ?_) (fun h127 => ?_)
                              · refine X.sub [1, 2, 3, 4, 5, 6, 7, 0] (L' := [(0, .ref mo), (1, .int 1), (2, .int (nI C)), (3, .int (nI (R - 1))), (4, .int (bI mr3)), (5, .int (nI r)), (6, .int (nI c)), (7, .int (nI (6 * r + c)))]) rfl ?_
                                exact J172 mb3 mr3 (hPI3.b1 (by first | exact (fun q => absurd q (Nat.not_lt.mpr (nle h110 (by omega) (by omega)))) | exact (fun _ q => absurd (of_decide_eq_true q) h127) | exact (fun _ _ => bF_inj h147)))
                              · refine X_aload_n K0 1 dX5_isWall_130 rfl rfl ?_
                                refine X_get K0 12 rfl rfl hin5 12 (by decide) fl_RX5_33 rfl dX5_isWall_131 ?_
                                refine X_iload K0 0 dX5_isWall_134 rfl ?_
                                refine X_zaldN K0 18 rfl (by omega) (by first | decide | omega) dX5_isWall_136 ?_
                                refine X_v (ovr_lt (by omega)) ?_
                                refine X_aload_n K0 1 dX5_isWall_137 rfl rfl ?_
                                refine X_get K0 12 rfl rfl hin5 12 (by decide) fl_RX5_33 rfl dX5_isWall_138 ?_
                                refine X_iload K0 0 dX5_isWall_141 rfl ?_
                                refine X_bipush (v := 6) K0 dX5_isWall_143 (by decide) ?_
                                refine X_iadd K0 dX5_isWall_145 ?_
                                refine X_v (z := (nI (6 * r + c + 6))) (nI_add _ 6) ?_
                                refine X_zaldN K0 18 rfl (by omega) (by first | decide | omega) dX5_isWall_146 ?_
                                refine X_v (ovr_lt (by omega)) ?_
                                refine X_icmp_eq K0 172 dX5_isWall_147 (by decide) (fun h147 => ?_) (fun h147 => ?_)
                                · refine X.sub [1, 2, 3, 4, 5, 6, 7, 0] (L' := [(0, .ref mo), (1, .int 1), (2, .int (nI C)), (3, .int (nI (R - 1))), (4, .int (bI mr3)), (5, .int (nI r)), (6, .int (nI c)), (7, .int (nI (6 * r + c)))]) rfl ?_
                                  exact J172 mb3 mr3 (hPI3.b1 (by first | exact (fun q => absurd q (Nat.not_lt.mpr (nle h110 (by omega) (by omega)))) | exact (fun _ q => absurd (of_decide_eq_true q) h127) | exact (fun _ _ => bF_inj h147)))
                                · refine X_aload_n K0 1 dX5_isWall_150 rfl rfl ?_
                                  refine X_get K0 12 rfl rfl hin5 12 (by decide) fl_RX5_33 rfl dX5_isWall_151 ?_
                                  refine X_iload K0 0 dX5_isWall_154 rfl ?_
                                  refine X_iconst (v := 1) K0 dX5_isWall_156 (by decide) ?_
                                  refine X_v (z := (bI true)) rfl ?_
                                  refine X_zastN (w' := (c0 :: c1 :: c2 :: c3 :: c4 :: c5 :: c6 :: c7 :: c8 :: c9 :: c10 :: c11 :: (mo, oModel tn stt tr (nI R) (nI C) (bI op) mki mel mto mio mwy (bI hwb) mme mhs mso msr mrs mce mcp) :: (mki, aI g 40 kinds) :: (mel, aI g 40 elders) :: (mto, aI g 25 tof) :: (mio, aZ g 40 iof) :: (mwy, aI g 4096 wyf) :: (mme, aZ g 36 (upd (ovr 36 (bF mb3) mef) (6 * r + c) (bI true))) :: (mhs, aZ g 3 hsf) :: (mso, aI g 3 sof) :: (msr, aI g 3 srf) :: (mrs, aI g 12 rsf) :: (mce, aI g 480 cef) :: (mcp, aI g 40 cpf) :: rest)) K0 18 rfl (by omega) (by first | decide | omega) dX5_isWall_157 rfl ?_
                                  refine X_aload_n K0 1 dX5_isWall_158 rfl rfl ?_
                                  refine X_get K0 12 rfl rfl hin5 12 (by decide) fl_RX5_33 rfl dX5_isWall_159 ?_
                                  refine X_iload K0 0 dX5_isWall_162 rfl ?_
                                  refine X_bipush (v := 6) K0 dX5_isWall_164 (by decide) ?_
                                  refine X_iadd K0 dX5_isWall_166 ?_
                                  refine X_v (z := (nI (6 * r + c + 6))) (nI_add _ 6) ?_
                                  refine X_iconst (v := 1) K0 dX5_isWall_167 (by decide) ?_
                                  refine X_v (z := (bI true)) rfl ?_
                                  refine X_zastN (w' := (c0 :: c1 :: c2 :: c3 :: c4 :: c5 :: c6 :: c7 :: c8 :: c9 :: c10 :: c11 :: (mo, oModel tn stt tr (nI R) (nI C) (bI op) mki mel mto mio mwy (bI hwb) mme mhs mso msr mrs mce mcp) :: (mki, aI g 40 kinds) :: (mel, aI g 40 elders) :: (mto, aI g 25 tof) :: (mio, aZ g 40 iof) :: (mwy, aI g 4096 wyf) :: (mme, aZ g 36 (upd (upd (ovr 36 (bF mb3) mef) (6 * r + c) (bI true)) (6 * r + c + 6) (bI true))) :: (mhs, aZ g 3 hsf) :: (mso, aI g 3 sof) :: (msr, aI g 3 srf) :: (mrs, aI g 12 rsf) :: (mce, aI g 480 cef) :: (mcp, aI g 40 cpf) :: rest)) K0 18 rfl (by omega) (by first | decide | omega) dX5_isWall_168 rfl ?_
                                  refine X_iconst (v := 1) K0 dX5_isWall_169 (by decide) ?_
                                  refine X_istore (L' := [(4, .int 1), (7, .int (nI (6 * r + c))), (0, .ref mo), (1, .int 1), (2, .int (nI C)), (3, .int (nI (R - 1))), (5, .int (nI r)), (6, .int (nI c))]) K0 dX5_isWall_170 (by decide) rfl ?_
                                  refine X.sub [2, 3, 4, 5, 0, 6, 7, 1] (L' := [(0, .ref mo), (1, .int 1), (2, .int (nI C)), (3, .int (nI (R - 1))), (4, .int 1), (5, .int (nI r)), (6, .int (nI c)), (7, .int (nI (6 * r + c)))]) rfl ?_
                                  exact X_eq (by rw [ovr_upd (by omega), bF_ub, ovr_upd (by omega), bF_ub]) rfl rfl (J172 _ true (hPI3.s1 hC.2 (by omega) (nlt_nat h110 (by omega) (by omega)) hcG (decide_eq_true h127) (bF_ninj h147)))
                      exact LOOPc (R - 1) 0 (by omega) mb2 mr hPI
                exact LOOPr (C + 1) 0 (by omega) mb false (PI.start hWI)
            exact LOOPw (cf (fun k => decide (k < (R - 1))) 36 + 1) _ (Nat.lt_succ_self _) (WI.start hC.2 (by omega))
          · exact absurd (nI_le (Nat.le_refl 36) (by decide)) h41
        | succ ddi ihi =>
          intro iii hiii 
          have hlti : iii < 36 := by omega
          refine X_iload K0 4 dX5_isWall_37 rfl ?_
          refine X_bipush (v := 36) K0 dX5_isWall_39 (by decide) ?_
          refine X_icmp_ge K0 68 dX5_isWall_41 (by decide) (fun h41 => ?_) (fun h41 => ?_)
          · exact absurd h41 (nI_ge (b := 36) hlti (by decide))
          · refine X_aload_n K0 0 dX5_isWall_44 rfl rfl ?_
            refine X_get K0 12 rfl rfl hin5 12 (by decide) fl_RX5_33 rfl dX5_isWall_45 ?_
            refine X_iload K0 4 dX5_isWall_48 rfl ?_
            refine X_iload K0 4 dX5_isWall_50 rfl ?_
            refine X_iload_n K0 3 dX5_isWall_52 rfl rfl ?_
            refine X_icmp_ge K0 60 dX5_isWall_53 (by decide) (fun h53 => ?_) (fun h53 => ?_)
            · refine X_iconst (v := 0) K0 dX5_isWall_60 (by decide) ?_
              refine X_v (z := (bI false)) rfl ?_
              refine X_zastN (w' := (c0 :: c1 :: c2 :: c3 :: c4 :: c5 :: c6 :: c7 :: c8 :: c9 :: c10 :: c11 :: (mo, oModel tn stt tr (nI R) (nI C) (bI op) mki mel mto mio mwy (bI hwb) mme mhs mso msr mrs mce mcp) :: (mki, aI g 40 kinds) :: (mel, aI g 40 elders) :: (mto, aI g 25 tof) :: (mio, aZ g 40 iof) :: (mwy, aI g 4096 wyf) :: (mme, aZ g 36 (upd (ovr iii (bF (fun k => decide (k < (R - 1)))) mef) iii (bI false))) :: (mhs, aZ g 3 hsf) :: (mso, aI g 3 sof) :: (msr, aI g 3 srf) :: (mrs, aI g 12 rsf) :: (mce, aI g 480 cef) :: (mcp, aI g 40 cpf) :: rest)) K0 18 rfl (by omega) (by first | decide | omega) dX5_isWall_61 rfl ?_
              refine X_iinc (v := ((nI iii) + 1)) (L' := [(4, .int ((nI iii) + 1)), (0, .ref mo), (1, .int 1), (2, .int (nI C)), (3, .int (nI (R - 1)))]) K0 4 dX5_isWall_62 rfl (by first | rfl | decide) (by decide) rfl ?_
              refine X_goto K0 37 dX5_isWall_65 (by decide) ?_
              refine X.sub [1, 2, 3, 4, 0] (L' := [(0, .ref mo), (1, .int 1), (2, .int (nI C)), (3, .int (nI (R - 1))), (4, .int ((nI iii) + 1))]) rfl ?_
              exact X_eq (by first | (rw [ovr_s iii (bF (fun k => decide (k < (R - 1)))) mef (b_no h53 (by omega) (by omega))]) | (rw [ovr_s iii (bF (fun k => decide (k < (R - 1)))) mef (b_ye h53 (by omega) (by omega))])) (by rw [nI_succ] <;> rfl) rfl (ihi (iii + 1) (by omega))
            · refine X_iconst (v := 1) K0 dX5_isWall_56 (by decide) ?_
              refine X_v (z := (bI true)) rfl ?_
              refine X_goto K0 61 dX5_isWall_57 (by decide) ?_
              refine X_zastN (w' := (c0 :: c1 :: c2 :: c3 :: c4 :: c5 :: c6 :: c7 :: c8 :: c9 :: c10 :: c11 :: (mo, oModel tn stt tr (nI R) (nI C) (bI op) mki mel mto mio mwy (bI hwb) mme mhs mso msr mrs mce mcp) :: (mki, aI g 40 kinds) :: (mel, aI g 40 elders) :: (mto, aI g 25 tof) :: (mio, aZ g 40 iof) :: (mwy, aI g 4096 wyf) :: (mme, aZ g 36 (upd (ovr iii (bF (fun k => decide (k < (R - 1)))) mef) iii (bI true))) :: (mhs, aZ g 3 hsf) :: (mso, aI g 3 sof) :: (msr, aI g 3 srf) :: (mrs, aI g 12 rsf) :: (mce, aI g 480 cef) :: (mcp, aI g 40 cpf) :: rest)) K0 18 rfl (by omega) (by first | decide | omega) dX5_isWall_61 rfl ?_
              refine X_iinc (v := ((nI iii) + 1)) (L' := [(4, .int ((nI iii) + 1)), (0, .ref mo), (1, .int 1), (2, .int (nI C)), (3, .int (nI (R - 1)))]) K0 4 dX5_isWall_62 rfl (by first | rfl | decide) (by decide) rfl ?_
              refine X_goto K0 37 dX5_isWall_65 (by decide) ?_
              refine X.sub [1, 2, 3, 4, 0] (L' := [(0, .ref mo), (1, .int 1), (2, .int (nI C)), (3, .int (nI (R - 1))), (4, .int ((nI iii) + 1))]) rfl ?_
              exact X_eq (by first | (rw [ovr_s iii (bF (fun k => decide (k < (R - 1)))) mef (b_no h53 (by omega) (by omega))]) | (rw [ovr_s iii (bF (fun k => decide (k < (R - 1)))) mef (b_ye h53 (by omega) (by omega))])) (by rw [nI_succ] <;> rfl) rfl (ihi (iii + 1) (by omega))
      exact X_eq (by rw [ovr_0]) rfl rfl (LOOPi 36 0 (by omega))

set_option maxRecDepth 20000 in
set_option maxHeartbeats 400000 in
theorem m_wall (g : Gx) (c0 c1 c2 c3 c4 c5 c6 c7 c8 c9 c10 c11 : Nat × va_E) (mo mki mel mto mio mwy mme mhs mso msr mrs mce mcp : Nat) (tn stt : Int32) (tr : Int64) (R C : Nat) (op hwb : Bool) (kinds elders tof iof wyf mef hsf sof srf rsf cef cpf : Nat → Int32) (rest : va_W) (hR : 1 ≤ R ∧ R ≤ 5) (hC : 1 ≤ C ∧ C ≤ 5) (hKI : KI (thM R C op) kinds elders) (hWY : WY R C op kinds elders hwb wyf) (se way : Int32) : Con g yX5_wall cX5_wall 3 (some .int) 5 103 0 0 [.ref mo, .int se, .int way] (c0 :: c1 :: c2 :: c3 :: c4 :: c5 :: c6 :: c7 :: c8 :: c9 :: c10 :: c11 :: (mo, oModel tn stt tr (nI R) (nI C) (bI op) mki mel mto mio mwy (bI hwb) mme mhs mso msr mrs mce mcp) :: (mki, aI g 40 kinds) :: (mel, aI g 40 elders) :: (mto, aI g 25 tof) :: (mio, aZ g 40 iof) :: (mwy, aI g 4096 wyf) :: (mme, aZ g 36 mef) :: (mhs, aZ g 3 hsf) :: (mso, aI g 3 sof) :: (msr, aI g 3 srf) :: (mrs, aI g 12 rsf) :: (mce, aI g 480 cef) :: (mcp, aI g 40 cpf) :: rest) (fun v w' => v = some (.int (waVM R C op kinds elders se way)) ∧ ∃ (tq iq wq mq : Nat → Int32) (hq : Bool), WY R C op kinds elders hq wq ∧ (c0 :: c1 :: c2 :: c3 :: c4 :: c5 :: c6 :: c7 :: c8 :: c9 :: c10 :: c11 :: (mo, oModel 0 stt tr (nI R) (nI C) (bI op) mki mel mto mio mwy (bI hq) mme mhs mso msr mrs mce mcp) :: (mki, aI g 40 kinds) :: (mel, aI g 40 elders) :: (mto, aI g 25 tq) :: (mio, aZ g 40 iq) :: (mwy, aI g 4096 wq) :: (mme, aZ g 36 mq) :: (mhs, aZ g 3 hsf) :: (mso, aI g 3 sof) :: (msr, aI g 3 srf) :: (mrs, aI g 12 rsf) :: (mce, aI g 480 cef) :: (mcp, aI g 40 cpf) :: rest) = w') := by
  have hTM := th_M (op := op) hR hC
  have hPM := pl_M hR hC
  have hRM := rd_M hR hC
  have hN := pow_m hKI.2
  have hM12 := hKI.2
  refine Con.ofI (by decide +kernel) (Nat.le_of_ble_eq_true rfl) (fun φ K0 hr => ?_)
  show X φ 0 0 (c0 :: c1 :: c2 :: c3 :: c4 :: c5 :: c6 :: c7 :: c8 :: c9 :: c10 :: c11 :: (mo, oModel tn stt tr (nI R) (nI C) (bI op) mki mel mto mio mwy (bI hwb) mme mhs mso msr mrs mce mcp) :: (mki, aI g 40 kinds) :: (mel, aI g 40 elders) :: (mto, aI g 25 tof) :: (mio, aZ g 40 iof) :: (mwy, aI g 4096 wyf) :: (mme, aZ g 36 mef) :: (mhs, aZ g 3 hsf) :: (mso, aI g 3 sof) :: (msr, aI g 3 srf) :: (mrs, aI g 12 rsf) :: (mce, aI g 480 cef) :: (mcp, aI g 40 cpf) :: rest) [(0, .ref mo), (1, .int se), (2, .int way)] 0 []
  refine X_aload_n K0 0 dX5_wall_0 rfl rfl ?_
  refine X_iconst (v := 0) K0 dX5_wall_1 (by decide) ?_
  refine X_put (w' := (c0 :: c1 :: c2 :: c3 :: c4 :: c5 :: c6 :: c7 :: c8 :: c9 :: c10 :: c11 :: (mo, oModel 0 stt tr (nI R) (nI C) (bI op) mki mel mto mio mwy (bI hwb) mme mhs mso msr mrs mce mcp) :: (mki, aI g 40 kinds) :: (mel, aI g 40 elders) :: (mto, aI g 25 tof) :: (mio, aZ g 40 iof) :: (mwy, aI g 4096 wyf) :: (mme, aZ g 36 mef) :: (mhs, aZ g 3 hsf) :: (mso, aI g 3 sof) :: (msr, aI g 3 srf) :: (mrs, aI g 12 rsf) :: (mce, aI g 480 cef) :: (mcp, aI g 40 cpf) :: rest)) K0 12 rfl rfl hin5 tyX5 tyX5_ok nmX5 0 (by decide) fl_RX5_58 rfl (tyX5_ok 0 (by decide)) rfl rfl (Nat.le_of_ble_eq_true rfl) dX5_wall_2 rfl ?_
  refine X_aload_n K0 0 dX5_wall_5 rfl rfl ?_
  refine X_iload_n K0 1 dX5_wall_6 rfl rfl ?_
  refine X_callV (As := [.int se]) (rest := []) K0 12 (m_isSetting g c0 c1 c2 c3 c4 c5 c6 c7 c8 c9 c10 c11 mo mki mel mto mio mwy mme mhs mso msr mrs mce mcp 0 stt tr R C op hwb kinds elders tof iof wyf mef hsf sof srf rsf cef cpf rest hR hC hKI se) mi_X5_isSetting rfl rfl rfl ml_RX5_107 rfl (Nat.le_of_ble_eq_true rfl) (by decide) ⟨Nat.le_of_ble_eq_true rfl, Nat.le_of_ble_eq_true rfl⟩ rfl rfl dX5_wall_7 ?_
  intro v w' hr'; obtain ⟨rfl, rfl⟩ := hr'
  show X φ 0 0 (c0 :: c1 :: c2 :: c3 :: c4 :: c5 :: c6 :: c7 :: c8 :: c9 :: c10 :: c11 :: (mo, oModel 0 stt tr (nI R) (nI C) (bI op) mki mel mto mio mwy (bI hwb) mme mhs mso msr mrs mce mcp) :: (mki, aI g 40 kinds) :: (mel, aI g 40 elders) :: (mto, aI g 25 tof) :: (mio, aZ g 40 iof) :: (mwy, aI g 4096 wyf) :: (mme, aZ g 36 mef) :: (mhs, aZ g 3 hsf) :: (mso, aI g 3 sof) :: (msr, aI g 3 srf) :: (mrs, aI g 12 rsf) :: (mce, aI g 480 cef) :: (mcp, aI g 40 cpf) :: rest) [(0, .ref mo), (1, .int se), (2, .int way)] 10 [.int (bI (wiB se 0 ((nI (2 ^ ctF kinds (thM R C op))) - 1)))]
  refine X_if_eq K0 22 dX5_wall_10 (by decide) (fun h10 => ?_) (fun h10 => ?_)
  · refine X_iconst (v := (-1)) K0 dX5_wall_22 (by decide) ?_
    exact hr _ _ _ _ ⟨by rw [waVM, no_if (by first | exact p_n (bI_0.mp h10) | exact p_yn (bI_n0.mp h10) (bI_0.mp h19))], tof, iof, wyf, mef, hwb, hWY, rfl⟩ dX5_wall_23
  · refine X_iload_n K0 2 dX5_wall_13 rfl rfl ?_
    refine X_iconst (v := 0) K0 dX5_wall_14 (by decide) ?_
    refine X_iconst (v := 1) K0 dX5_wall_15 (by decide) ?_
    refine X_callS (As := [.int way, .int 0, .int 1]) (rest := []) K0 (c_in g (c0 :: c1 :: c2 :: c3 :: c4 :: c5 :: c6 :: c7 :: c8 :: c9 :: c10 :: c11 :: (mo, oModel 0 stt tr (nI R) (nI C) (bI op) mki mel mto mio mwy (bI hwb) mme mhs mso msr mrs mce mcp) :: (mki, aI g 40 kinds) :: (mel, aI g 40 elders) :: (mto, aI g 25 tof) :: (mio, aZ g 40 iof) :: (mwy, aI g 4096 wyf) :: (mme, aZ g 36 mef) :: (mhs, aZ g 3 hsf) :: (mso, aI g 3 sof) :: (msr, aI g 3 srf) :: (mrs, aI g 12 rsf) :: (mce, aI g 480 cef) :: (mcp, aI g 40 cpf) :: rest) way 0 1) ms_X5_in rfl ml_RX5_81 rfl (Nat.le_of_ble_eq_true rfl) (by decide) ⟨Nat.le_of_ble_eq_true rfl, Nat.le_of_ble_eq_true rfl⟩ rfl rfl dX5_wall_16 ?_
    intro v w' hr'; obtain ⟨rfl, rfl⟩ := hr'
    show X φ 0 0 (c0 :: c1 :: c2 :: c3 :: c4 :: c5 :: c6 :: c7 :: c8 :: c9 :: c10 :: c11 :: (mo, oModel 0 stt tr (nI R) (nI C) (bI op) mki mel mto mio mwy (bI hwb) mme mhs mso msr mrs mce mcp) :: (mki, aI g 40 kinds) :: (mel, aI g 40 elders) :: (mto, aI g 25 tof) :: (mio, aZ g 40 iof) :: (mwy, aI g 4096 wyf) :: (mme, aZ g 36 mef) :: (mhs, aZ g 3 hsf) :: (mso, aI g 3 sof) :: (msr, aI g 3 srf) :: (mrs, aI g 12 rsf) :: (mce, aI g 480 cef) :: (mcp, aI g 40 cpf) :: rest) [(0, .ref mo), (1, .int se), (2, .int way)] 19 [.int (bI (wiB way 0 1))]
    refine X_if_ne K0 24 dX5_wall_19 (by decide) (fun h19 => ?_) (fun h19 => ?_)
    · refine X_aload_n K0 0 dX5_wall_24 rfl rfl ?_
      refine X_get K0 12 rfl rfl hin5 5 (by decide) fl_RX5_69 rfl dX5_wall_25 ?_
      refine X_if_eq K0 34 dX5_wall_28 (by decide) (fun h28 => ?_) (fun h28 => ?_)
      · refine X_aload_n K0 0 dX5_wall_34 rfl rfl ?_
        refine X_iload_n K0 1 dX5_wall_35 rfl rfl ?_
        refine X_callV (As := [.int se]) (rest := []) K0 12 (m_joins g c0 c1 c2 c3 c4 c5 c6 c7 c8 c9 c10 c11 mo mki mel mto mio mwy mme mhs mso msr mrs mce mcp 0 stt tr R C op hwb kinds elders tof iof wyf mef hsf sof srf rsf cef cpf rest hR hC hKI se) mi_X5_joins rfl rfl rfl ml_RX5_132 rfl (Nat.le_of_ble_eq_true rfl) (by decide) ⟨Nat.le_of_ble_eq_true rfl, Nat.le_of_ble_eq_true rfl⟩ rfl rfl dX5_wall_36 ?_
        intro v w' hr'; obtain ⟨rfl, rfl⟩ := hr'
        show X φ 0 0 (c0 :: c1 :: c2 :: c3 :: c4 :: c5 :: c6 :: c7 :: c8 :: c9 :: c10 :: c11 :: (mo, oModel 0 stt tr (nI R) (nI C) (bI op) mki mel mto mio mwy (bI hwb) mme mhs mso msr mrs mce mcp) :: (mki, aI g 40 kinds) :: (mel, aI g 40 elders) :: (mto, aI g 25 (ovr (R * C) (jC R C op (ioC kinds elders se) (rdM R C)) tof)) :: (mio, aZ g 40 (ovr (thM R C op) (ioC kinds elders se) iof)) :: (mwy, aI g 4096 wyf) :: (mme, aZ g 36 mef) :: (mhs, aZ g 3 hsf) :: (mso, aI g 3 sof) :: (msr, aI g 3 srf) :: (mrs, aI g 12 rsf) :: (mce, aI g 480 cef) :: (mcp, aI g 40 cpf) :: rest) [(0, .ref mo), (1, .int se), (2, .int way)] 39 []
        refine X_aload_n K0 0 dX5_wall_39 rfl rfl ?_
        refine X_iload_n K0 2 dX5_wall_40 rfl rfl ?_
        refine X_iconst (v := 1) K0 dX5_wall_41 (by decide) ?_
        refine X_icmp_ne K0 49 dX5_wall_42 (by decide) (fun h42 => ?_) (fun h42 => ?_)
        · refine X_iconst (v := 0) K0 dX5_wall_49 (by decide) ?_
          refine X_callV (As := [.int 0]) (rest := []) K0 12 (m_isWall0 g c0 c1 c2 c3 c4 c5 c6 c7 c8 c9 c10 c11 mo mki mel mto mio mwy mme mhs mso msr mrs mce mcp 0 stt tr R C op hwb kinds elders (ovr (R * C) (jC R C op (ioC kinds elders se) (rdM R C)) tof) (ovr (thM R C op) (ioC kinds elders se) iof) wyf mef hsf sof srf rsf cef cpf rest hR hC (ioC kinds elders se) (fun t ht => ovr_lt (by rw [th_f (bI_0.mp h28)]; exact ht))) mi_X5_isWall rfl rfl rfl ml_RX5_151 rfl (Nat.le_of_ble_eq_true rfl) (by decide) ⟨Nat.le_of_ble_eq_true rfl, Nat.le_of_ble_eq_true rfl⟩ rfl rfl dX5_wall_50 ?_
          intro v w' hr'; obtain ⟨rfl, mq1, rfl⟩ := hr'
          show X φ 0 0 (c0 :: c1 :: c2 :: c3 :: c4 :: c5 :: c6 :: c7 :: c8 :: c9 :: c10 :: c11 :: (mo, oModel 0 stt tr (nI R) (nI C) (bI op) mki mel mto mio mwy (bI hwb) mme mhs mso msr mrs mce mcp) :: (mki, aI g 40 kinds) :: (mel, aI g 40 elders) :: (mto, aI g 25 (ovr (R * C) (jC R C op (ioC kinds elders se) (rdM R C)) tof)) :: (mio, aZ g 40 (ovr (thM R C op) (ioC kinds elders se) iof)) :: (mwy, aI g 4096 wyf) :: (mme, aZ g 36 mq1) :: (mhs, aZ g 3 hsf) :: (mso, aI g 3 sof) :: (msr, aI g 3 srf) :: (mrs, aI g 12 rsf) :: (mce, aI g 480 cef) :: (mcp, aI g 40 cpf) :: rest) [(0, .ref mo), (1, .int se), (2, .int way)] 53 [.int (bI (waM R C false (ioC kinds elders se)))]
          refine X_if_eq K0 60 dX5_wall_53 (by decide) (fun h53 => ?_) (fun h53 => ?_)
          · refine X_iconst (v := 0) K0 dX5_wall_60 (by decide) ?_
            exact hr _ _ _ _ ⟨by first | (rw [waVM, yes_if (p_yy (bI_n0.mp h10) (bI_n0.mp h19)), ite_b0 h28, decide_eq_true h42, bI_n0.mp h53]; rfl) | (rw [waVM, yes_if (p_yy (bI_n0.mp h10) (bI_n0.mp h19)), ite_b0 h28, decide_eq_true h42, bI_0.mp h53]; rfl) | (rw [waVM, yes_if (p_yy (bI_n0.mp h10) (bI_n0.mp h19)), ite_b0 h28, decide_eq_false h42, bI_n0.mp h53]; rfl) | (rw [waVM, yes_if (p_yy (bI_n0.mp h10) (bI_n0.mp h19)), ite_b0 h28, decide_eq_false h42, bI_0.mp h53]; rfl), (ovr (R * C) (jC R C op (ioC kinds elders se) (rdM R C)) tof), (ovr (thM R C op) (ioC kinds elders se) iof), wyf, mq1, hwb, hWY, rfl⟩ dX5_wall_61
          · refine X_iconst (v := 1) K0 dX5_wall_56 (by decide) ?_
            refine X_goto K0 61 dX5_wall_57 (by decide) ?_
            exact hr _ _ _ _ ⟨by first | (rw [waVM, yes_if (p_yy (bI_n0.mp h10) (bI_n0.mp h19)), ite_b0 h28, decide_eq_true h42, bI_n0.mp h53]; rfl) | (rw [waVM, yes_if (p_yy (bI_n0.mp h10) (bI_n0.mp h19)), ite_b0 h28, decide_eq_true h42, bI_0.mp h53]; rfl) | (rw [waVM, yes_if (p_yy (bI_n0.mp h10) (bI_n0.mp h19)), ite_b0 h28, decide_eq_false h42, bI_n0.mp h53]; rfl) | (rw [waVM, yes_if (p_yy (bI_n0.mp h10) (bI_n0.mp h19)), ite_b0 h28, decide_eq_false h42, bI_0.mp h53]; rfl), (ovr (R * C) (jC R C op (ioC kinds elders se) (rdM R C)) tof), (ovr (thM R C op) (ioC kinds elders se) iof), wyf, mq1, hwb, hWY, rfl⟩ dX5_wall_61
        · refine X_iconst (v := 1) K0 dX5_wall_45 (by decide) ?_
          refine X_goto K0 50 dX5_wall_46 (by decide) ?_
          refine X_callV (As := [.int 1]) (rest := []) K0 12 (m_isWall1 g c0 c1 c2 c3 c4 c5 c6 c7 c8 c9 c10 c11 mo mki mel mto mio mwy mme mhs mso msr mrs mce mcp 0 stt tr R C op hwb kinds elders (ovr (R * C) (jC R C op (ioC kinds elders se) (rdM R C)) tof) (ovr (thM R C op) (ioC kinds elders se) iof) wyf mef hsf sof srf rsf cef cpf rest hR hC (ioC kinds elders se) (fun t ht => ovr_lt (by rw [th_f (bI_0.mp h28)]; exact ht))) mi_X5_isWall rfl rfl rfl ml_RX5_151 rfl (Nat.le_of_ble_eq_true rfl) (by decide) ⟨Nat.le_of_ble_eq_true rfl, Nat.le_of_ble_eq_true rfl⟩ rfl rfl dX5_wall_50 ?_
          intro v w' hr'; obtain ⟨rfl, mq1, rfl⟩ := hr'
          show X φ 0 0 (c0 :: c1 :: c2 :: c3 :: c4 :: c5 :: c6 :: c7 :: c8 :: c9 :: c10 :: c11 :: (mo, oModel 0 stt tr (nI R) (nI C) (bI op) mki mel mto mio mwy (bI hwb) mme mhs mso msr mrs mce mcp) :: (mki, aI g 40 kinds) :: (mel, aI g 40 elders) :: (mto, aI g 25 (ovr (R * C) (jC R C op (ioC kinds elders se) (rdM R C)) tof)) :: (mio, aZ g 40 (ovr (thM R C op) (ioC kinds elders se) iof)) :: (mwy, aI g 4096 wyf) :: (mme, aZ g 36 mq1) :: (mhs, aZ g 3 hsf) :: (mso, aI g 3 sof) :: (msr, aI g 3 srf) :: (mrs, aI g 12 rsf) :: (mce, aI g 480 cef) :: (mcp, aI g 40 cpf) :: rest) [(0, .ref mo), (1, .int se), (2, .int way)] 53 [.int (bI (waM R C true (ioC kinds elders se)))]
          refine X_if_eq K0 60 dX5_wall_53 (by decide) (fun h53 => ?_) (fun h53 => ?_)
          · refine X_iconst (v := 0) K0 dX5_wall_60 (by decide) ?_
            exact hr _ _ _ _ ⟨by first | (rw [waVM, yes_if (p_yy (bI_n0.mp h10) (bI_n0.mp h19)), ite_b0 h28, decide_eq_true h42, bI_n0.mp h53]; rfl) | (rw [waVM, yes_if (p_yy (bI_n0.mp h10) (bI_n0.mp h19)), ite_b0 h28, decide_eq_true h42, bI_0.mp h53]; rfl) | (rw [waVM, yes_if (p_yy (bI_n0.mp h10) (bI_n0.mp h19)), ite_b0 h28, decide_eq_false h42, bI_n0.mp h53]; rfl) | (rw [waVM, yes_if (p_yy (bI_n0.mp h10) (bI_n0.mp h19)), ite_b0 h28, decide_eq_false h42, bI_0.mp h53]; rfl), (ovr (R * C) (jC R C op (ioC kinds elders se) (rdM R C)) tof), (ovr (thM R C op) (ioC kinds elders se) iof), wyf, mq1, hwb, hWY, rfl⟩ dX5_wall_61
          · refine X_iconst (v := 1) K0 dX5_wall_56 (by decide) ?_
            refine X_goto K0 61 dX5_wall_57 (by decide) ?_
            exact hr _ _ _ _ ⟨by first | (rw [waVM, yes_if (p_yy (bI_n0.mp h10) (bI_n0.mp h19)), ite_b0 h28, decide_eq_true h42, bI_n0.mp h53]; rfl) | (rw [waVM, yes_if (p_yy (bI_n0.mp h10) (bI_n0.mp h19)), ite_b0 h28, decide_eq_true h42, bI_0.mp h53]; rfl) | (rw [waVM, yes_if (p_yy (bI_n0.mp h10) (bI_n0.mp h19)), ite_b0 h28, decide_eq_false h42, bI_n0.mp h53]; rfl) | (rw [waVM, yes_if (p_yy (bI_n0.mp h10) (bI_n0.mp h19)), ite_b0 h28, decide_eq_false h42, bI_0.mp h53]; rfl), (ovr (R * C) (jC R C op (ioC kinds elders se) (rdM R C)) tof), (ovr (thM R C op) (ioC kinds elders se) iof), wyf, mq1, hwb, hWY, rfl⟩ dX5_wall_61
      · refine X_bipush (v := (-2)) K0 dX5_wall_31 (by decide) ?_
        exact hr _ _ _ _ ⟨by rw [waVM, yes_if (p_yy (bI_n0.mp h10) (bI_n0.mp h19)), if_pos (bI_n0.mp h28)], tof, iof, wyf, mef, hwb, hWY, rfl⟩ dX5_wall_33
    · refine X_iconst (v := (-1)) K0 dX5_wall_22 (by decide) ?_
      exact hr _ _ _ _ ⟨by rw [waVM, no_if (by first | exact p_n (bI_0.mp h10) | exact p_yn (bI_n0.mp h10) (bI_0.mp h19))], tof, iof, wyf, mef, hwb, hWY, rfl⟩ dX5_wall_23

set_option maxRecDepth 20000 in
set_option maxHeartbeats 400000 in
theorem m_walls (g : Gx) (c0 c1 c2 c3 c4 c5 c6 c7 c8 c9 c10 c11 : Nat × va_E) (mo mki mel mto mio mwy mme mhs mso msr mrs mce mcp : Nat) (tn stt : Int32) (tr : Int64) (R C : Nat) (op hwb : Bool) (kinds elders tof iof wyf mef hsf sof srf rsf cef cpf : Nat → Int32) (rest : va_W) (hR : 1 ≤ R ∧ R ≤ 5) (hC : 1 ≤ C ∧ C ≤ 5) (hKI : KI (thM R C op) kinds elders) (hWY : WY R C op kinds elders hwb wyf) (way k : Int32) : Con g yX5_walls cX5_walls 5 (some .int) 5 103 0 0 [.ref mo, .int way, .int k] (c0 :: c1 :: c2 :: c3 :: c4 :: c5 :: c6 :: c7 :: c8 :: c9 :: c10 :: c11 :: (mo, oModel tn stt tr (nI R) (nI C) (bI op) mki mel mto mio mwy (bI hwb) mme mhs mso msr mrs mce mcp) :: (mki, aI g 40 kinds) :: (mel, aI g 40 elders) :: (mto, aI g 25 tof) :: (mio, aZ g 40 iof) :: (mwy, aI g 4096 wyf) :: (mme, aZ g 36 mef) :: (mhs, aZ g 3 hsf) :: (mso, aI g 3 sof) :: (msr, aI g 3 srf) :: (mrs, aI g 12 rsf) :: (mce, aI g 480 cef) :: (mcp, aI g 40 cpf) :: rest) (fun v w' => v = some (.int (wlsVM R C op kinds elders way k)) ∧ ∃ (tq iq wq mq : Nat → Int32) (hq : Bool), WY R C op kinds elders hq wq ∧ (c0 :: c1 :: c2 :: c3 :: c4 :: c5 :: c6 :: c7 :: c8 :: c9 :: c10 :: c11 :: (mo, oModel 0 stt tr (nI R) (nI C) (bI op) mki mel mto mio mwy (bI hq) mme mhs mso msr mrs mce mcp) :: (mki, aI g 40 kinds) :: (mel, aI g 40 elders) :: (mto, aI g 25 tq) :: (mio, aZ g 40 iq) :: (mwy, aI g 4096 wq) :: (mme, aZ g 36 mq) :: (mhs, aZ g 3 hsf) :: (mso, aI g 3 sof) :: (msr, aI g 3 srf) :: (mrs, aI g 12 rsf) :: (mce, aI g 480 cef) :: (mcp, aI g 40 cpf) :: rest) = w') := by
  have hTM := th_M (op := op) hR hC
  have hPM := pl_M hR hC
  have hRM := rd_M hR hC
  have hN := pow_m hKI.2
  have hM12 := hKI.2
  refine Con.ofI (by decide +kernel) (Nat.le_of_ble_eq_true rfl) (fun φ K0 hr => ?_)
  show X φ 0 0 (c0 :: c1 :: c2 :: c3 :: c4 :: c5 :: c6 :: c7 :: c8 :: c9 :: c10 :: c11 :: (mo, oModel tn stt tr (nI R) (nI C) (bI op) mki mel mto mio mwy (bI hwb) mme mhs mso msr mrs mce mcp) :: (mki, aI g 40 kinds) :: (mel, aI g 40 elders) :: (mto, aI g 25 tof) :: (mio, aZ g 40 iof) :: (mwy, aI g 4096 wyf) :: (mme, aZ g 36 mef) :: (mhs, aZ g 3 hsf) :: (mso, aI g 3 sof) :: (msr, aI g 3 srf) :: (mrs, aI g 12 rsf) :: (mce, aI g 480 cef) :: (mcp, aI g 40 cpf) :: rest) [(0, .ref mo), (1, .int way), (2, .int k)] 0 []
  refine X_aload_n K0 0 dX5_walls_0 rfl rfl ?_
  refine X_iconst (v := 0) K0 dX5_walls_1 (by decide) ?_
  refine X_put (w' := (c0 :: c1 :: c2 :: c3 :: c4 :: c5 :: c6 :: c7 :: c8 :: c9 :: c10 :: c11 :: (mo, oModel 0 stt tr (nI R) (nI C) (bI op) mki mel mto mio mwy (bI hwb) mme mhs mso msr mrs mce mcp) :: (mki, aI g 40 kinds) :: (mel, aI g 40 elders) :: (mto, aI g 25 tof) :: (mio, aZ g 40 iof) :: (mwy, aI g 4096 wyf) :: (mme, aZ g 36 mef) :: (mhs, aZ g 3 hsf) :: (mso, aI g 3 sof) :: (msr, aI g 3 srf) :: (mrs, aI g 12 rsf) :: (mce, aI g 480 cef) :: (mcp, aI g 40 cpf) :: rest)) K0 12 rfl rfl hin5 tyX5 tyX5_ok nmX5 0 (by decide) fl_RX5_58 rfl (tyX5_ok 0 (by decide)) rfl rfl (Nat.le_of_ble_eq_true rfl) dX5_walls_2 rfl ?_
  refine X_aload_n K0 0 dX5_walls_5 rfl rfl ?_
  refine X_get K0 12 rfl rfl hin5 5 (by decide) fl_RX5_69 rfl dX5_walls_6 ?_
  refine X_if_eq K0 15 dX5_walls_9 (by decide) (fun h9 => ?_) (fun h9 => ?_)
  · refine X_iload_n K0 1 dX5_walls_15 rfl rfl ?_
    refine X_iconst (v := 0) K0 dX5_walls_16 (by decide) ?_
    refine X_iconst (v := 1) K0 dX5_walls_17 (by decide) ?_
    refine X_callS (As := [.int way, .int 0, .int 1]) (rest := []) K0 (c_in g (c0 :: c1 :: c2 :: c3 :: c4 :: c5 :: c6 :: c7 :: c8 :: c9 :: c10 :: c11 :: (mo, oModel 0 stt tr (nI R) (nI C) (bI op) mki mel mto mio mwy (bI hwb) mme mhs mso msr mrs mce mcp) :: (mki, aI g 40 kinds) :: (mel, aI g 40 elders) :: (mto, aI g 25 tof) :: (mio, aZ g 40 iof) :: (mwy, aI g 4096 wyf) :: (mme, aZ g 36 mef) :: (mhs, aZ g 3 hsf) :: (mso, aI g 3 sof) :: (msr, aI g 3 srf) :: (mrs, aI g 12 rsf) :: (mce, aI g 480 cef) :: (mcp, aI g 40 cpf) :: rest) way 0 1) ms_X5_in rfl ml_RX5_81 rfl (Nat.le_of_ble_eq_true rfl) (by decide) ⟨Nat.le_of_ble_eq_true rfl, Nat.le_of_ble_eq_true rfl⟩ rfl rfl dX5_walls_18 ?_
    intro v w' hr'; obtain ⟨rfl, rfl⟩ := hr'
    show X φ 0 0 (c0 :: c1 :: c2 :: c3 :: c4 :: c5 :: c6 :: c7 :: c8 :: c9 :: c10 :: c11 :: (mo, oModel 0 stt tr (nI R) (nI C) (bI op) mki mel mto mio mwy (bI hwb) mme mhs mso msr mrs mce mcp) :: (mki, aI g 40 kinds) :: (mel, aI g 40 elders) :: (mto, aI g 25 tof) :: (mio, aZ g 40 iof) :: (mwy, aI g 4096 wyf) :: (mme, aZ g 36 mef) :: (mhs, aZ g 3 hsf) :: (mso, aI g 3 sof) :: (msr, aI g 3 srf) :: (mrs, aI g 12 rsf) :: (mce, aI g 480 cef) :: (mcp, aI g 40 cpf) :: rest) [(0, .ref mo), (1, .int way), (2, .int k)] 21 [.int (bI (wiB way 0 1))]
    refine X_if_eq K0 32 dX5_walls_21 (by decide) (fun h21 => ?_) (fun h21 => ?_)
    · refine X_iconst (v := (-1)) K0 dX5_walls_32 (by decide) ?_
      exact hr _ _ _ _ ⟨by rw [wlsVM, ite_b0 h9, no_if (by first | exact p_n (bI_0.mp h21) | exact p_yn (bI_n0.mp h21) (bI_0.mp h29))], tof, iof, wyf, mef, hwb, hWY, rfl⟩ dX5_walls_33
    · refine X_aload_n K0 0 dX5_walls_24 rfl rfl ?_
      refine X_iload_n K0 2 dX5_walls_25 rfl rfl ?_
      refine X_callV (As := [.int k]) (rest := []) K0 12 (m_isSize g c0 c1 c2 c3 c4 c5 c6 c7 c8 c9 c10 c11 mo mki mel mto mio mwy mme mhs mso msr mrs mce mcp 0 stt tr R C op hwb kinds elders tof iof wyf mef hsf sof srf rsf cef cpf rest hR hC k) mi_X5_isSize rfl rfl rfl ml_RX5_167 rfl (Nat.le_of_ble_eq_true rfl) (by decide) ⟨Nat.le_of_ble_eq_true rfl, Nat.le_of_ble_eq_true rfl⟩ rfl rfl dX5_walls_26 ?_
      intro v w' hr'; obtain ⟨rfl, rfl⟩ := hr'
      show X φ 0 0 (c0 :: c1 :: c2 :: c3 :: c4 :: c5 :: c6 :: c7 :: c8 :: c9 :: c10 :: c11 :: (mo, oModel 0 stt tr (nI R) (nI C) (bI op) mki mel mto mio mwy (bI hwb) mme mhs mso msr mrs mce mcp) :: (mki, aI g 40 kinds) :: (mel, aI g 40 elders) :: (mto, aI g 25 tof) :: (mio, aZ g 40 iof) :: (mwy, aI g 4096 wyf) :: (mme, aZ g 36 mef) :: (mhs, aZ g 3 hsf) :: (mso, aI g 3 sof) :: (msr, aI g 3 srf) :: (mrs, aI g 12 rsf) :: (mce, aI g 480 cef) :: (mcp, aI g 40 cpf) :: rest) [(0, .ref mo), (1, .int way), (2, .int k)] 29 [.int (bI (wiB k 0 (nI (ctF kinds (thM R C op)))))]
      refine X_if_ne K0 34 dX5_walls_29 (by decide) (fun h29 => ?_) (fun h29 => ?_)
      · refine X_iconst (v := 0) K0 dX5_walls_34 (by decide) ?_
        refine X_istore_n (L' := [(3, .int 0), (0, .ref mo), (1, .int way), (2, .int k)]) K0 dX5_walls_35 rfl (by decide) rfl ?_
        refine X_iconst (v := 0) K0 dX5_walls_36 (by decide) ?_
        refine X_istore (L' := [(4, .int 0), (3, .int 0), (0, .ref mo), (1, .int way), (2, .int k)]) K0 dX5_walls_37 (by decide) rfl ?_
        refine X.sub [2, 3, 4, 1, 0] (L' := [(0, .ref mo), (1, .int way), (2, .int k), (3, .int 0), (4, .int 0)]) rfl ?_
        have LOOP : ∀ (dd ii : Nat), ii + dd = (2 ^ (ctF kinds (thM R C op))) → ∀ (tq iq mq : Nat → Int32), X φ 0 0 (c0 :: c1 :: c2 :: c3 :: c4 :: c5 :: c6 :: c7 :: c8 :: c9 :: c10 :: c11 :: (mo, oModel 0 stt tr (nI R) (nI C) (bI op) mki mel mto mio mwy (bI hwb) mme mhs mso msr mrs mce mcp) :: (mki, aI g 40 kinds) :: (mel, aI g 40 elders) :: (mto, aI g 25 tq) :: (mio, aZ g 40 iq) :: (mwy, aI g 4096 wyf) :: (mme, aZ g 36 mq) :: (mhs, aZ g 3 hsf) :: (mso, aI g 3 sof) :: (msr, aI g 3 srf) :: (mrs, aI g 12 rsf) :: (mce, aI g 480 cef) :: (mcp, aI g 40 cpf) :: rest) [(0, .ref mo), (1, .int way), (2, .int k), (3, .int (cnI (wlQ R C kinds elders way k) ii)), (4, .int (nI ii))] 39 [] := by
          intro dd
          induction dd with
          | zero =>
            intro ii hii tq iq mq
            have hii2 : (2 ^ (ctF kinds (thM R C op))) = ii := by omega
            subst hii2
            refine X_iload K0 4 dX5_walls_39 rfl ?_
            refine X_iconst (v := 1) K0 dX5_walls_41 (by decide) ?_
            refine X_aload_n K0 0 dX5_walls_42 rfl rfl ?_
            refine X_callV (As := []) (rest := [.int 1, .int (nI (2 ^ (ctF kinds (thM R C op))))]) K0 12 (m_chances g c0 c1 c2 c3 c4 c5 c6 c7 c8 c9 c10 c11 mo mki mel mto mio mwy mme mhs mso msr mrs mce mcp 0 stt tr R C op hwb kinds elders tq iq wyf mq hsf sof srf rsf cef cpf rest hR hC ) mi_X5_chances rfl rfl rfl ml_RX5_85 rfl (Nat.le_of_ble_eq_true rfl) (by decide) ⟨Nat.le_of_ble_eq_true rfl, Nat.le_of_ble_eq_true rfl⟩ rfl rfl dX5_walls_43 ?_
            intro v w' hr'; obtain ⟨rfl, rfl⟩ := hr'
            show X φ 0 0 (c0 :: c1 :: c2 :: c3 :: c4 :: c5 :: c6 :: c7 :: c8 :: c9 :: c10 :: c11 :: (mo, oModel 0 stt tr (nI R) (nI C) (bI op) mki mel mto mio mwy (bI hwb) mme mhs mso msr mrs mce mcp) :: (mki, aI g 40 kinds) :: (mel, aI g 40 elders) :: (mto, aI g 25 tq) :: (mio, aZ g 40 iq) :: (mwy, aI g 4096 wyf) :: (mme, aZ g 36 mq) :: (mhs, aZ g 3 hsf) :: (mso, aI g 3 sof) :: (msr, aI g 3 srf) :: (mrs, aI g 12 rsf) :: (mce, aI g 480 cef) :: (mcp, aI g 40 cpf) :: rest) [(0, .ref mo), (1, .int way), (2, .int k), (3, .int (cnI (wlQ R C kinds elders way k) (2 ^ (ctF kinds (thM R C op))))), (4, .int (nI (2 ^ (ctF kinds (thM R C op)))))] 46 [.int (nI (ctF kinds (thM R C op))), .int 1, .int (nI (2 ^ (ctF kinds (thM R C op))))]
            refine X_ishl K0 dX5_walls_46 ?_
            refine X_v (z := (nI (2 ^ (ctF kinds (thM R C op))))) (shl_ct hKI.2) ?_
            refine X_icmp_ge K0 96 dX5_walls_47 (by decide) (fun h47 => ?_) (fun h47 => ?_)
            · refine X_iload_n K0 3 dX5_walls_96 rfl rfl ?_
              exact hr _ _ _ _ ⟨by rw [wlsVM, ite_b0 h9, yes_if (p_yy (bI_n0.mp h21) (bI_n0.mp h29))], tq, iq, wyf, mq, hwb, hWY, rfl⟩ dX5_walls_97
            · exact absurd (nI_le (Nat.le_refl _) (by omega)) h47
          | succ dd ih =>
            intro ii hii tq iq mq
            have hlt : ii < (2 ^ (ctF kinds (thM R C op))) := by omega
            refine X_iload K0 4 dX5_walls_39 rfl ?_
            refine X_iconst (v := 1) K0 dX5_walls_41 (by decide) ?_
            refine X_aload_n K0 0 dX5_walls_42 rfl rfl ?_
            refine X_callV (As := []) (rest := [.int 1, .int (nI ii)]) K0 12 (m_chances g c0 c1 c2 c3 c4 c5 c6 c7 c8 c9 c10 c11 mo mki mel mto mio mwy mme mhs mso msr mrs mce mcp 0 stt tr R C op hwb kinds elders tq iq wyf mq hsf sof srf rsf cef cpf rest hR hC ) mi_X5_chances rfl rfl rfl ml_RX5_85 rfl (Nat.le_of_ble_eq_true rfl) (by decide) ⟨Nat.le_of_ble_eq_true rfl, Nat.le_of_ble_eq_true rfl⟩ rfl rfl dX5_walls_43 ?_
            intro v w' hr'; obtain ⟨rfl, rfl⟩ := hr'
            show X φ 0 0 (c0 :: c1 :: c2 :: c3 :: c4 :: c5 :: c6 :: c7 :: c8 :: c9 :: c10 :: c11 :: (mo, oModel 0 stt tr (nI R) (nI C) (bI op) mki mel mto mio mwy (bI hwb) mme mhs mso msr mrs mce mcp) :: (mki, aI g 40 kinds) :: (mel, aI g 40 elders) :: (mto, aI g 25 tq) :: (mio, aZ g 40 iq) :: (mwy, aI g 4096 wyf) :: (mme, aZ g 36 mq) :: (mhs, aZ g 3 hsf) :: (mso, aI g 3 sof) :: (msr, aI g 3 srf) :: (mrs, aI g 12 rsf) :: (mce, aI g 480 cef) :: (mcp, aI g 40 cpf) :: rest) [(0, .ref mo), (1, .int way), (2, .int k), (3, .int (cnI (wlQ R C kinds elders way k) ii)), (4, .int (nI ii))] 46 [.int (nI (ctF kinds (thM R C op))), .int 1, .int (nI ii)]
            refine X_ishl K0 dX5_walls_46 ?_
            refine X_v (z := (nI (2 ^ (ctF kinds (thM R C op))))) (shl_ct hKI.2) ?_
            refine X_icmp_ge K0 96 dX5_walls_47 (by decide) (fun h47 => ?_) (fun h47 => ?_)
            · exact absurd h47 (nI_ge hlt (by omega))
            · refine X_iload K0 4 dX5_walls_50 rfl ?_
              refine X_callS (As := [.int (nI ii)]) (rest := []) K0 (m_bits g (c0 :: c1 :: c2 :: c3 :: c4 :: c5 :: c6 :: c7 :: c8 :: c9 :: c10 :: c11 :: (mo, oModel 0 stt tr (nI R) (nI C) (bI op) mki mel mto mio mwy (bI hwb) mme mhs mso msr mrs mce mcp) :: (mki, aI g 40 kinds) :: (mel, aI g 40 elders) :: (mto, aI g 25 tq) :: (mio, aZ g 40 iq) :: (mwy, aI g 4096 wyf) :: (mme, aZ g 36 mq) :: (mhs, aZ g 3 hsf) :: (mso, aI g 3 sof) :: (msr, aI g 3 srf) :: (mrs, aI g 12 rsf) :: (mce, aI g 480 cef) :: (mcp, aI g 40 cpf) :: rest) (nI ii)) ms_X5_bits rfl ml_RX5_164 rfl (Nat.le_of_ble_eq_true rfl) (by decide) ⟨Nat.le_of_ble_eq_true rfl, Nat.le_of_ble_eq_true rfl⟩ rfl rfl dX5_walls_52 ?_
              intro v w' hr'; obtain ⟨rfl, rfl⟩ := hr'
              show X φ 0 0 (c0 :: c1 :: c2 :: c3 :: c4 :: c5 :: c6 :: c7 :: c8 :: c9 :: c10 :: c11 :: (mo, oModel 0 stt tr (nI R) (nI C) (bI op) mki mel mto mio mwy (bI hwb) mme mhs mso msr mrs mce mcp) :: (mki, aI g 40 kinds) :: (mel, aI g 40 elders) :: (mto, aI g 25 tq) :: (mio, aZ g 40 iq) :: (mwy, aI g 4096 wyf) :: (mme, aZ g 36 mq) :: (mhs, aZ g 3 hsf) :: (mso, aI g 3 sof) :: (msr, aI g 3 srf) :: (mrs, aI g 12 rsf) :: (mce, aI g 480 cef) :: (mcp, aI g 40 cpf) :: rest) [(0, .ref mo), (1, .int way), (2, .int k), (3, .int (cnI (wlQ R C kinds elders way k) ii)), (4, .int (nI ii))] 55 [.int (bsM (nI ii) 12)]
              refine X_iload_n K0 2 dX5_walls_55 rfl rfl ?_
              refine X_icmp_ne K0 90 dX5_walls_56 (by decide) (fun h56 => ?_) (fun h56 => ?_)
              · refine X_iinc (v := ((nI ii) + 1)) (L' := [(4, .int ((nI ii) + 1)), (0, .ref mo), (1, .int way), (2, .int k), (3, .int (cnI (wlQ R C kinds elders way k) ii))]) K0 4 dX5_walls_90 rfl (by first | rfl | decide) (by decide) rfl ?_
                refine X_goto K0 39 dX5_walls_93 (by decide) ?_
                refine X.sub [1, 2, 3, 4, 0] (L' := [(0, .ref mo), (1, .int way), (2, .int k), (3, .int (cnI (wlQ R C kinds elders way k) ii)), (4, .int ((nI ii) + 1))]) rfl ?_
                exact X_eq rfl (by first | (rw [nI_succ, ← cn_n (p := (wlQ R C kinds elders way k)) (i := ii) (and_n1 h56)]) | (rw [nI_succ, cn_y1 (p := (wlQ R C kinds elders way k)) (i := ii) (wq_y h56 (decide_eq_true h69) h80)]) | (rw [nI_succ, cn_y1 (p := (wlQ R C kinds elders way k)) (i := ii) (wq_y h56 (decide_eq_false h69) h80)]) | (rw [nI_succ, cn_n0 (p := (wlQ R C kinds elders way k)) (i := ii) (wq_n (decide_eq_true h69) h80)]) | (rw [nI_succ, cn_n0 (p := (wlQ R C kinds elders way k)) (i := ii) (wq_n (decide_eq_false h69) h80)])) rfl (ih (ii + 1) (by omega) tq iq mq)
              · refine X_aload_n K0 0 dX5_walls_59 rfl rfl ?_
                refine X_iload K0 4 dX5_walls_60 rfl ?_
                refine X_callV (As := [.int (nI ii)]) (rest := []) K0 12 (m_joins g c0 c1 c2 c3 c4 c5 c6 c7 c8 c9 c10 c11 mo mki mel mto mio mwy mme mhs mso msr mrs mce mcp 0 stt tr R C op hwb kinds elders tq iq wyf mq hsf sof srf rsf cef cpf rest hR hC hKI (nI ii)) mi_X5_joins rfl rfl rfl ml_RX5_132 rfl (Nat.le_of_ble_eq_true rfl) (by decide) ⟨Nat.le_of_ble_eq_true rfl, Nat.le_of_ble_eq_true rfl⟩ rfl rfl dX5_walls_62 ?_
                intro v w' hr'; obtain ⟨rfl, rfl⟩ := hr'
                show X φ 0 0 (c0 :: c1 :: c2 :: c3 :: c4 :: c5 :: c6 :: c7 :: c8 :: c9 :: c10 :: c11 :: (mo, oModel 0 stt tr (nI R) (nI C) (bI op) mki mel mto mio mwy (bI hwb) mme mhs mso msr mrs mce mcp) :: (mki, aI g 40 kinds) :: (mel, aI g 40 elders) :: (mto, aI g 25 (ovr (R * C) (jC R C op (ioC kinds elders (nI ii)) (rdM R C)) tq)) :: (mio, aZ g 40 (ovr (thM R C op) (ioC kinds elders (nI ii)) iq)) :: (mwy, aI g 4096 wyf) :: (mme, aZ g 36 mq) :: (mhs, aZ g 3 hsf) :: (mso, aI g 3 sof) :: (msr, aI g 3 srf) :: (mrs, aI g 12 rsf) :: (mce, aI g 480 cef) :: (mcp, aI g 40 cpf) :: rest) [(0, .ref mo), (1, .int way), (2, .int k), (3, .int (cnI (wlQ R C kinds elders way k) ii)), (4, .int (nI ii))] 65 []
                refine X_iload_n K0 3 dX5_walls_65 rfl rfl ?_
                refine X_aload_n K0 0 dX5_walls_66 rfl rfl ?_
                refine X_iload_n K0 1 dX5_walls_67 rfl rfl ?_
                refine X_iconst (v := 1) K0 dX5_walls_68 (by decide) ?_
                refine X_icmp_ne K0 76 dX5_walls_69 (by decide) (fun h69 => ?_) (fun h69 => ?_)
                · refine X_iconst (v := 0) K0 dX5_walls_76 (by decide) ?_
                  refine X_callV (As := [.int 0]) (rest := [.int (cnI (wlQ R C kinds elders way k) ii)]) K0 12 (m_isWall0 g c0 c1 c2 c3 c4 c5 c6 c7 c8 c9 c10 c11 mo mki mel mto mio mwy mme mhs mso msr mrs mce mcp 0 stt tr R C op hwb kinds elders (ovr (R * C) (jC R C op (ioC kinds elders (nI ii)) (rdM R C)) tq) (ovr (thM R C op) (ioC kinds elders (nI ii)) iq) wyf mq hsf sof srf rsf cef cpf rest hR hC (ioC kinds elders (nI ii)) (fun t ht => ovr_lt (by rw [th_f (bI_0.mp h9)]; exact ht))) mi_X5_isWall rfl rfl rfl ml_RX5_151 rfl (Nat.le_of_ble_eq_true rfl) (by decide) ⟨Nat.le_of_ble_eq_true rfl, Nat.le_of_ble_eq_true rfl⟩ rfl rfl dX5_walls_77 ?_
                  intro v w' hr'; obtain ⟨rfl, mq1, rfl⟩ := hr'
                  show X φ 0 0 (c0 :: c1 :: c2 :: c3 :: c4 :: c5 :: c6 :: c7 :: c8 :: c9 :: c10 :: c11 :: (mo, oModel 0 stt tr (nI R) (nI C) (bI op) mki mel mto mio mwy (bI hwb) mme mhs mso msr mrs mce mcp) :: (mki, aI g 40 kinds) :: (mel, aI g 40 elders) :: (mto, aI g 25 (ovr (R * C) (jC R C op (ioC kinds elders (nI ii)) (rdM R C)) tq)) :: (mio, aZ g 40 (ovr (thM R C op) (ioC kinds elders (nI ii)) iq)) :: (mwy, aI g 4096 wyf) :: (mme, aZ g 36 mq1) :: (mhs, aZ g 3 hsf) :: (mso, aI g 3 sof) :: (msr, aI g 3 srf) :: (mrs, aI g 12 rsf) :: (mce, aI g 480 cef) :: (mcp, aI g 40 cpf) :: rest) [(0, .ref mo), (1, .int way), (2, .int k), (3, .int (cnI (wlQ R C kinds elders way k) ii)), (4, .int (nI ii))] 80 [.int (bI (waM R C false (ioC kinds elders (nI ii)))), .int (cnI (wlQ R C kinds elders way k) ii)]
                  refine X_if_eq K0 87 dX5_walls_80 (by decide) (fun h80 => ?_) (fun h80 => ?_)
                  · refine X_iconst (v := 0) K0 dX5_walls_87 (by decide) ?_
                    refine X_iadd K0 dX5_walls_88 ?_
                    refine X_istore_n (L' := [(3, .int ((cnI (wlQ R C kinds elders way k) ii) + 0)), (0, .ref mo), (1, .int way), (2, .int k), (4, .int (nI ii))]) K0 dX5_walls_89 rfl (by decide) rfl ?_
                    refine X_iinc (v := ((nI ii) + 1)) (L' := [(4, .int ((nI ii) + 1)), (3, .int ((cnI (wlQ R C kinds elders way k) ii) + 0)), (0, .ref mo), (1, .int way), (2, .int k)]) K0 4 dX5_walls_90 rfl (by first | rfl | decide) (by decide) rfl ?_
                    refine X_goto K0 39 dX5_walls_93 (by decide) ?_
                    refine X.sub [2, 3, 4, 1, 0] (L' := [(0, .ref mo), (1, .int way), (2, .int k), (3, .int ((cnI (wlQ R C kinds elders way k) ii) + 0)), (4, .int ((nI ii) + 1))]) rfl ?_
                    exact X_eq rfl (by first | (rw [nI_succ, ← cn_n (p := (wlQ R C kinds elders way k)) (i := ii) (and_n1 h56)]) | (rw [nI_succ, cn_y1 (p := (wlQ R C kinds elders way k)) (i := ii) (wq_y h56 (decide_eq_true h69) h80)]) | (rw [nI_succ, cn_y1 (p := (wlQ R C kinds elders way k)) (i := ii) (wq_y h56 (decide_eq_false h69) h80)]) | (rw [nI_succ, cn_n0 (p := (wlQ R C kinds elders way k)) (i := ii) (wq_n (decide_eq_true h69) h80)]) | (rw [nI_succ, cn_n0 (p := (wlQ R C kinds elders way k)) (i := ii) (wq_n (decide_eq_false h69) h80)])) rfl (ih (ii + 1) (by omega) (ovr (R * C) (jC R C op (ioC kinds elders (nI ii)) (rdM R C)) tq) (ovr (thM R C op) (ioC kinds elders (nI ii)) iq) mq1)
                  · refine X_iconst (v := 1) K0 dX5_walls_83 (by decide) ?_
                    refine X_goto K0 88 dX5_walls_84 (by decide) ?_
                    refine X_iadd K0 dX5_walls_88 ?_
                    refine X_istore_n (L' := [(3, .int ((cnI (wlQ R C kinds elders way k) ii) + 1)), (0, .ref mo), (1, .int way), (2, .int k), (4, .int (nI ii))]) K0 dX5_walls_89 rfl (by decide) rfl ?_
                    refine X_iinc (v := ((nI ii) + 1)) (L' := [(4, .int ((nI ii) + 1)), (3, .int ((cnI (wlQ R C kinds elders way k) ii) + 1)), (0, .ref mo), (1, .int way), (2, .int k)]) K0 4 dX5_walls_90 rfl (by first | rfl | decide) (by decide) rfl ?_
                    refine X_goto K0 39 dX5_walls_93 (by decide) ?_
                    refine X.sub [2, 3, 4, 1, 0] (L' := [(0, .ref mo), (1, .int way), (2, .int k), (3, .int ((cnI (wlQ R C kinds elders way k) ii) + 1)), (4, .int ((nI ii) + 1))]) rfl ?_
                    exact X_eq rfl (by first | (rw [nI_succ, ← cn_n (p := (wlQ R C kinds elders way k)) (i := ii) (and_n1 h56)]) | (rw [nI_succ, cn_y1 (p := (wlQ R C kinds elders way k)) (i := ii) (wq_y h56 (decide_eq_true h69) h80)]) | (rw [nI_succ, cn_y1 (p := (wlQ R C kinds elders way k)) (i := ii) (wq_y h56 (decide_eq_false h69) h80)]) | (rw [nI_succ, cn_n0 (p := (wlQ R C kinds elders way k)) (i := ii) (wq_n (decide_eq_true h69) h80)]) | (rw [nI_succ, cn_n0 (p := (wlQ R C kinds elders way k)) (i := ii) (wq_n (decide_eq_false h69) h80)])) rfl (ih (ii + 1) (by omega) (ovr (R * C) (jC R C op (ioC kinds elders (nI ii)) (rdM R C)) tq) (ovr (thM R C op) (ioC kinds elders (nI ii)) iq) mq1)
                · refine X_iconst (v := 1) K0 dX5_walls_72 (by decide) ?_
                  refine X_goto K0 77 dX5_walls_73 (by decide) ?_
                  refine X_callV (As := [.int 1]) (rest := [.int (cnI (wlQ R C kinds elders way k) ii)]) K0 12 (m_isWall1 g c0 c1 c2 c3 c4 c5 c6 c7 c8 c9 c10 c11 mo mki mel mto mio mwy mme mhs mso msr mrs mce mcp 0 stt tr R C op hwb kinds elders (ovr (R * C) (jC R C op (ioC kinds elders (nI ii)) (rdM R C)) tq) (ovr (thM R C op) (ioC kinds elders (nI ii)) iq) wyf mq hsf sof srf rsf cef cpf rest hR hC (ioC kinds elders (nI ii)) (fun t ht => ovr_lt (by rw [th_f (bI_0.mp h9)]; exact ht))) mi_X5_isWall rfl rfl rfl ml_RX5_151 rfl (Nat.le_of_ble_eq_true rfl) (by decide) ⟨Nat.le_of_ble_eq_true rfl, Nat.le_of_ble_eq_true rfl⟩ rfl rfl dX5_walls_77 ?_
                  intro v w' hr'; obtain ⟨rfl, mq1, rfl⟩ := hr'
                  show X φ 0 0 (c0 :: c1 :: c2 :: c3 :: c4 :: c5 :: c6 :: c7 :: c8 :: c9 :: c10 :: c11 :: (mo, oModel 0 stt tr (nI R) (nI C) (bI op) mki mel mto mio mwy (bI hwb) mme mhs mso msr mrs mce mcp) :: (mki, aI g 40 kinds) :: (mel, aI g 40 elders) :: (mto, aI g 25 (ovr (R * C) (jC R C op (ioC kinds elders (nI ii)) (rdM R C)) tq)) :: (mio, aZ g 40 (ovr (thM R C op) (ioC kinds elders (nI ii)) iq)) :: (mwy, aI g 4096 wyf) :: (mme, aZ g 36 mq1) :: (mhs, aZ g 3 hsf) :: (mso, aI g 3 sof) :: (msr, aI g 3 srf) :: (mrs, aI g 12 rsf) :: (mce, aI g 480 cef) :: (mcp, aI g 40 cpf) :: rest) [(0, .ref mo), (1, .int way), (2, .int k), (3, .int (cnI (wlQ R C kinds elders way k) ii)), (4, .int (nI ii))] 80 [.int (bI (waM R C true (ioC kinds elders (nI ii)))), .int (cnI (wlQ R C kinds elders way k) ii)]
                  refine X_if_eq K0 87 dX5_walls_80 (by decide) (fun h80 => ?_) (fun h80 => ?_)
                  · refine X_iconst (v := 0) K0 dX5_walls_87 (by decide) ?_
                    refine X_iadd K0 dX5_walls_88 ?_
                    refine X_istore_n (L' := [(3, .int ((cnI (wlQ R C kinds elders way k) ii) + 0)), (0, .ref mo), (1, .int way), (2, .int k), (4, .int (nI ii))]) K0 dX5_walls_89 rfl (by decide) rfl ?_
                    refine X_iinc (v := ((nI ii) + 1)) (L' := [(4, .int ((nI ii) + 1)), (3, .int ((cnI (wlQ R C kinds elders way k) ii) + 0)), (0, .ref mo), (1, .int way), (2, .int k)]) K0 4 dX5_walls_90 rfl (by first | rfl | decide) (by decide) rfl ?_
                    refine X_goto K0 39 dX5_walls_93 (by decide) ?_
                    refine X.sub [2, 3, 4, 1, 0] (L' := [(0, .ref mo), (1, .int way), (2, .int k), (3, .int ((cnI (wlQ R C kinds elders way k) ii) + 0)), (4, .int ((nI ii) + 1))]) rfl ?_
                    exact X_eq rfl (by first | (rw [nI_succ, ← cn_n (p := (wlQ R C kinds elders way k)) (i := ii) (and_n1 h56)]) | (rw [nI_succ, cn_y1 (p := (wlQ R C kinds elders way k)) (i := ii) (wq_y h56 (decide_eq_true h69) h80)]) | (rw [nI_succ, cn_y1 (p := (wlQ R C kinds elders way k)) (i := ii) (wq_y h56 (decide_eq_false h69) h80)]) | (rw [nI_succ, cn_n0 (p := (wlQ R C kinds elders way k)) (i := ii) (wq_n (decide_eq_true h69) h80)]) | (rw [nI_succ, cn_n0 (p := (wlQ R C kinds elders way k)) (i := ii) (wq_n (decide_eq_false h69) h80)])) rfl (ih (ii + 1) (by omega) (ovr (R * C) (jC R C op (ioC kinds elders (nI ii)) (rdM R C)) tq) (ovr (thM R C op) (ioC kinds elders (nI ii)) iq) mq1)
                  · refine X_iconst (v := 1) K0 dX5_walls_83 (by decide) ?_
                    refine X_goto K0 88 dX5_walls_84 (by decide) ?_
                    refine X_iadd K0 dX5_walls_88 ?_
                    refine X_istore_n (L' := [(3, .int ((cnI (wlQ R C kinds elders way k) ii) + 1)), (0, .ref mo), (1, .int way), (2, .int k), (4, .int (nI ii))]) K0 dX5_walls_89 rfl (by decide) rfl ?_
                    refine X_iinc (v := ((nI ii) + 1)) (L' := [(4, .int ((nI ii) + 1)), (3, .int ((cnI (wlQ R C kinds elders way k) ii) + 1)), (0, .ref mo), (1, .int way), (2, .int k)]) K0 4 dX5_walls_90 rfl (by first | rfl | decide) (by decide) rfl ?_
                    refine X_goto K0 39 dX5_walls_93 (by decide) ?_
                    refine X.sub [2, 3, 4, 1, 0] (L' := [(0, .ref mo), (1, .int way), (2, .int k), (3, .int ((cnI (wlQ R C kinds elders way k) ii) + 1)), (4, .int ((nI ii) + 1))]) rfl ?_
                    exact X_eq rfl (by first | (rw [nI_succ, ← cn_n (p := (wlQ R C kinds elders way k)) (i := ii) (and_n1 h56)]) | (rw [nI_succ, cn_y1 (p := (wlQ R C kinds elders way k)) (i := ii) (wq_y h56 (decide_eq_true h69) h80)]) | (rw [nI_succ, cn_y1 (p := (wlQ R C kinds elders way k)) (i := ii) (wq_y h56 (decide_eq_false h69) h80)]) | (rw [nI_succ, cn_n0 (p := (wlQ R C kinds elders way k)) (i := ii) (wq_n (decide_eq_true h69) h80)]) | (rw [nI_succ, cn_n0 (p := (wlQ R C kinds elders way k)) (i := ii) (wq_n (decide_eq_false h69) h80)])) rfl (ih (ii + 1) (by omega) (ovr (R * C) (jC R C op (ioC kinds elders (nI ii)) (rdM R C)) tq) (ovr (thM R C op) (ioC kinds elders (nI ii)) iq) mq1)
        exact LOOP (2 ^ (ctF kinds (thM R C op))) 0 (by omega) tof iof mef
      · refine X_iconst (v := (-1)) K0 dX5_walls_32 (by decide) ?_
        exact hr _ _ _ _ ⟨by rw [wlsVM, ite_b0 h9, no_if (by first | exact p_n (bI_0.mp h21) | exact p_yn (bI_n0.mp h21) (bI_0.mp h29))], tof, iof, wyf, mef, hwb, hWY, rfl⟩ dX5_walls_33
  · refine X_bipush (v := (-2)) K0 dX5_walls_12 (by decide) ?_
    exact hr _ _ _ _ ⟨by rw [wlsVM, if_pos (bI_n0.mp h9)], tof, iof, wyf, mef, hwb, hWY, rfl⟩ dX5_walls_14
