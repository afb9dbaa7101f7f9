set_option maxRecDepth 20000 in
set_option maxHeartbeats 400000 in
theorem m_ground (g : Gx) (c0 c1 c2 c3 c4 c5 c6 c7 c8 c9 c10 c11 : Nat × va_E) (mo mki mel mto mio mwy mme mhs mso msr mrs mce mcp : Nat) (tn stt : Int32) (tr : Int64) (R C : Nat) (op hwb : Bool) (kinds elders tof iof wyf mef hsf sof srf rsf cef cpf : Nat → Int32) (rest : va_W) (r c : Int32) (op1 : Bool) : Con g yX5_ground cX5_ground 4 (some .int) 3 60 0 0 [.ref mo, .int r, .int c, .int (bI op1)] (c0 :: c1 :: c2 :: c3 :: c4 :: c5 :: c6 :: c7 :: c8 :: c9 :: c10 :: c11 :: (mo, oModel tn stt tr (nI R) (nI C) (bI op) mki mel mto mio mwy (bI hwb) mme mhs mso msr mrs mce mcp) :: (mki, aI g 40 kinds) :: (mel, aI g 40 elders) :: (mto, aI g 25 tof) :: (mio, aZ g 40 iof) :: (mwy, aI g 4096 wyf) :: (mme, aZ g 36 mef) :: (mhs, aZ g 3 hsf) :: (mso, aI g 3 sof) :: (msr, aI g 3 srf) :: (mrs, aI g 12 rsf) :: (mce, aI g 480 cef) :: (mcp, aI g 40 cpf) :: rest) (fun v w' => ((wiB r 1 5 && wiB c 1 5) = false ∧ v = some (.int (-1)) ∧ (c0 :: c1 :: c2 :: c3 :: c4 :: c5 :: c6 :: c7 :: c8 :: c9 :: c10 :: c11 :: (mo, oModel 0 stt tr (nI R) (nI C) (bI op) mki mel mto mio mwy (bI hwb) mme mhs mso msr mrs mce mcp) :: (mki, aI g 40 kinds) :: (mel, aI g 40 elders) :: (mto, aI g 25 tof) :: (mio, aZ g 40 iof) :: (mwy, aI g 4096 wyf) :: (mme, aZ g 36 mef) :: (mhs, aZ g 3 hsf) :: (mso, aI g 3 sof) :: (msr, aI g 3 srf) :: (mrs, aI g 12 rsf) :: (mce, aI g 480 cef) :: (mcp, aI g 40 cpf) :: rest) = w') ∨ (∃ R1 C1, (1 ≤ R1 ∧ R1 ≤ 5) ∧ (1 ≤ C1 ∧ C1 ≤ 5) ∧ r = nI R1 ∧ c = nI C1 ∧ v = some (.int (nI (thM R1 C1 op1))) ∧ (c0 :: c1 :: c2 :: c3 :: c4 :: c5 :: c6 :: c7 :: c8 :: c9 :: c10 :: c11 :: (mo, oModel 0 stt tr (nI R1) (nI C1) (bI op1) mki mel mto mio mwy (bI false) mme mhs mso msr mrs mce mcp) :: (mki, aI g 40 (fiF kinds 1 40)) :: (mel, aI g 40 (fiF elders (-9) 40)) :: (mto, aI g 25 tof) :: (mio, aZ g 40 iof) :: (mwy, aI g 4096 wyf) :: (mme, aZ g 36 mef) :: (mhs, aZ g 3 hsf) :: (mso, aI g 3 sof) :: (msr, aI g 3 srf) :: (mrs, aI g 12 rsf) :: (mce, aI g 480 cef) :: (mcp, aI g 40 cpf) :: rest) = w')) := by
  refine Con.ofI (by decide +kernel) (Nat.le_of_ble_eq_true rfl) (fun φ K0 hr => ?_)
  show X φ 0 0 (c0 :: c1 :: c2 :: c3 :: c4 :: c5 :: c6 :: c7 :: c8 :: c9 :: c10 :: c11 :: (mo, oModel tn stt tr (nI R) (nI C) (bI op) mki mel mto mio mwy (bI hwb) mme mhs mso msr mrs mce mcp) :: (mki, aI g 40 kinds) :: (mel, aI g 40 elders) :: (mto, aI g 25 tof) :: (mio, aZ g 40 iof) :: (mwy, aI g 4096 wyf) :: (mme, aZ g 36 mef) :: (mhs, aZ g 3 hsf) :: (mso, aI g 3 sof) :: (msr, aI g 3 srf) :: (mrs, aI g 12 rsf) :: (mce, aI g 480 cef) :: (mcp, aI g 40 cpf) :: rest) [(0, .ref mo), (1, .int r), (2, .int c), (3, .int (bI op1))] 0 []
  refine X_aload_n K0 0 dX5_ground_0 rfl rfl ?_
  refine X_iconst (v := 0) K0 dX5_ground_1 (by decide) ?_
  refine X_put (w' := (c0 :: c1 :: c2 :: c3 :: c4 :: c5 :: c6 :: c7 :: c8 :: c9 :: c10 :: c11 :: (mo, oModel 0 stt tr (nI R) (nI C) (bI op) mki mel mto mio mwy (bI hwb) mme mhs mso msr mrs mce mcp) :: (mki, aI g 40 kinds) :: (mel, aI g 40 elders) :: (mto, aI g 25 tof) :: (mio, aZ g 40 iof) :: (mwy, aI g 4096 wyf) :: (mme, aZ g 36 mef) :: (mhs, aZ g 3 hsf) :: (mso, aI g 3 sof) :: (msr, aI g 3 srf) :: (mrs, aI g 12 rsf) :: (mce, aI g 480 cef) :: (mcp, aI g 40 cpf) :: rest)) K0 12 rfl rfl hin5 tyX5 tyX5_ok nmX5 0 (by decide) fl_RX5_58 rfl (tyX5_ok 0 (by decide)) rfl rfl (Nat.le_of_ble_eq_true rfl) dX5_ground_2 rfl ?_
  refine X_iload_n K0 1 dX5_ground_5 rfl rfl ?_
  refine X_iconst (v := 1) K0 dX5_ground_6 (by decide) ?_
  refine X_iconst (v := 5) K0 dX5_ground_7 (by decide) ?_
  refine X_callS (As := [.int r, .int 1, .int 5]) (rest := []) K0 (c_in g (c0 :: c1 :: c2 :: c3 :: c4 :: c5 :: c6 :: c7 :: c8 :: c9 :: c10 :: c11 :: (mo, oModel 0 stt tr (nI R) (nI C) (bI op) mki mel mto mio mwy (bI hwb) mme mhs mso msr mrs mce mcp) :: (mki, aI g 40 kinds) :: (mel, aI g 40 elders) :: (mto, aI g 25 tof) :: (mio, aZ g 40 iof) :: (mwy, aI g 4096 wyf) :: (mme, aZ g 36 mef) :: (mhs, aZ g 3 hsf) :: (mso, aI g 3 sof) :: (msr, aI g 3 srf) :: (mrs, aI g 12 rsf) :: (mce, aI g 480 cef) :: (mcp, aI g 40 cpf) :: rest) r 1 5) ms_X5_in rfl ml_RX5_81 rfl (Nat.le_of_ble_eq_true rfl) (by decide) ⟨Nat.le_of_ble_eq_true rfl, Nat.le_of_ble_eq_true rfl⟩ rfl rfl dX5_ground_8 ?_
  intro v w' hr'; obtain ⟨rfl, rfl⟩ := hr'
  show X φ 0 0 (c0 :: c1 :: c2 :: c3 :: c4 :: c5 :: c6 :: c7 :: c8 :: c9 :: c10 :: c11 :: (mo, oModel 0 stt tr (nI R) (nI C) (bI op) mki mel mto mio mwy (bI hwb) mme mhs mso msr mrs mce mcp) :: (mki, aI g 40 kinds) :: (mel, aI g 40 elders) :: (mto, aI g 25 tof) :: (mio, aZ g 40 iof) :: (mwy, aI g 4096 wyf) :: (mme, aZ g 36 mef) :: (mhs, aZ g 3 hsf) :: (mso, aI g 3 sof) :: (msr, aI g 3 srf) :: (mrs, aI g 12 rsf) :: (mce, aI g 480 cef) :: (mcp, aI g 40 cpf) :: rest) [(0, .ref mo), (1, .int r), (2, .int c), (3, .int (bI op1))] 11 [.int (bI (wiB r 1 5))]
  refine X_if_eq K0 23 dX5_ground_11 (by decide) (fun h11 => ?_) (fun h11 => ?_)
  · refine X_iconst (v := (-1)) K0 dX5_ground_23 (by decide) ?_
    exact hr _ _ _ _ (Or.inl ⟨by first | exact p_n (bI_0.mp h11) | exact p_yn (bI_n0.mp h11) (bI_0.mp h20), rfl, rfl⟩) dX5_ground_24
  · refine X_iload_n K0 2 dX5_ground_14 rfl rfl ?_
    refine X_iconst (v := 1) K0 dX5_ground_15 (by decide) ?_
    refine X_iconst (v := 5) K0 dX5_ground_16 (by decide) ?_
    refine X_callS (As := [.int c, .int 1, .int 5]) (rest := []) K0 (c_in g (c0 :: c1 :: c2 :: c3 :: c4 :: c5 :: c6 :: c7 :: c8 :: c9 :: c10 :: c11 :: (mo, oModel 0 stt tr (nI R) (nI C) (bI op) mki mel mto mio mwy (bI hwb) mme mhs mso msr mrs mce mcp) :: (mki, aI g 40 kinds) :: (mel, aI g 40 elders) :: (mto, aI g 25 tof) :: (mio, aZ g 40 iof) :: (mwy, aI g 4096 wyf) :: (mme, aZ g 36 mef) :: (mhs, aZ g 3 hsf) :: (mso, aI g 3 sof) :: (msr, aI g 3 srf) :: (mrs, aI g 12 rsf) :: (mce, aI g 480 cef) :: (mcp, aI g 40 cpf) :: rest) c 1 5) ms_X5_in rfl ml_RX5_81 rfl (Nat.le_of_ble_eq_true rfl) (by decide) ⟨Nat.le_of_ble_eq_true rfl, Nat.le_of_ble_eq_true rfl⟩ rfl rfl dX5_ground_17 ?_
    intro v w' hr'; obtain ⟨rfl, rfl⟩ := hr'
    show X φ 0 0 (c0 :: c1 :: c2 :: c3 :: c4 :: c5 :: c6 :: c7 :: c8 :: c9 :: c10 :: c11 :: (mo, oModel 0 stt tr (nI R) (nI C) (bI op) mki mel mto mio mwy (bI hwb) mme mhs mso msr mrs mce mcp) :: (mki, aI g 40 kinds) :: (mel, aI g 40 elders) :: (mto, aI g 25 tof) :: (mio, aZ g 40 iof) :: (mwy, aI g 4096 wyf) :: (mme, aZ g 36 mef) :: (mhs, aZ g 3 hsf) :: (mso, aI g 3 sof) :: (msr, aI g 3 srf) :: (mrs, aI g 12 rsf) :: (mce, aI g 480 cef) :: (mcp, aI g 40 cpf) :: rest) [(0, .ref mo), (1, .int r), (2, .int c), (3, .int (bI op1))] 20 [.int (bI (wiB c 1 5))]
    refine X_if_ne K0 25 dX5_ground_20 (by decide) (fun h20 => ?_) (fun h20 => ?_)
    · obtain ⟨R1, hR1, rfl⟩ := wi15 (bI_n0.mp h11)
      obtain ⟨C1, hC1, rfl⟩ := wi15 (bI_n0.mp h20)
      refine X_aload_n K0 0 dX5_ground_25 rfl rfl ?_
      refine X_iload_n K0 1 dX5_ground_26 rfl rfl ?_
      refine X_put (w' := (c0 :: c1 :: c2 :: c3 :: c4 :: c5 :: c6 :: c7 :: c8 :: c9 :: c10 :: c11 :: (mo, oModel 0 stt tr (nI R1) (nI C) (bI op) mki mel mto mio mwy (bI hwb) mme mhs mso msr mrs mce mcp) :: (mki, aI g 40 kinds) :: (mel, aI g 40 elders) :: (mto, aI g 25 tof) :: (mio, aZ g 40 iof) :: (mwy, aI g 4096 wyf) :: (mme, aZ g 36 mef) :: (mhs, aZ g 3 hsf) :: (mso, aI g 3 sof) :: (msr, aI g 3 srf) :: (mrs, aI g 12 rsf) :: (mce, aI g 480 cef) :: (mcp, aI g 40 cpf) :: rest)) K0 12 rfl rfl hin5 tyX5 tyX5_ok nmX5 3 (by decide) fl_RX5_7 rfl (tyX5_ok 3 (by decide)) rfl rfl (Nat.le_of_ble_eq_true rfl) dX5_ground_27 rfl ?_
      refine X_aload_n K0 0 dX5_ground_30 rfl rfl ?_
      refine X_iload_n K0 2 dX5_ground_31 rfl rfl ?_
      refine X_put (w' := (c0 :: c1 :: c2 :: c3 :: c4 :: c5 :: c6 :: c7 :: c8 :: c9 :: c10 :: c11 :: (mo, oModel 0 stt tr (nI R1) (nI C1) (bI op) mki mel mto mio mwy (bI hwb) mme mhs mso msr mrs mce mcp) :: (mki, aI g 40 kinds) :: (mel, aI g 40 elders) :: (mto, aI g 25 tof) :: (mio, aZ g 40 iof) :: (mwy, aI g 4096 wyf) :: (mme, aZ g 36 mef) :: (mhs, aZ g 3 hsf) :: (mso, aI g 3 sof) :: (msr, aI g 3 srf) :: (mrs, aI g 12 rsf) :: (mce, aI g 480 cef) :: (mcp, aI g 40 cpf) :: rest)) K0 12 rfl rfl hin5 tyX5 tyX5_ok nmX5 4 (by decide) fl_RX5_13 rfl (tyX5_ok 4 (by decide)) rfl rfl (Nat.le_of_ble_eq_true rfl) dX5_ground_32 rfl ?_
      refine X_aload_n K0 0 dX5_ground_35 rfl rfl ?_
      refine X_iload_n K0 3 dX5_ground_36 rfl rfl ?_
      refine X_put (w' := (c0 :: c1 :: c2 :: c3 :: c4 :: c5 :: c6 :: c7 :: c8 :: c9 :: c10 :: c11 :: (mo, oModel 0 stt tr (nI R1) (nI C1) (bI op1) mki mel mto mio mwy (bI hwb) mme mhs mso msr mrs mce mcp) :: (mki, aI g 40 kinds) :: (mel, aI g 40 elders) :: (mto, aI g 25 tof) :: (mio, aZ g 40 iof) :: (mwy, aI g 4096 wyf) :: (mme, aZ g 36 mef) :: (mhs, aZ g 3 hsf) :: (mso, aI g 3 sof) :: (msr, aI g 3 srf) :: (mrs, aI g 12 rsf) :: (mce, aI g 480 cef) :: (mcp, aI g 40 cpf) :: rest)) K0 12 rfl rfl hin5 tyX5 tyX5_ok nmX5 5 (by decide) fl_RX5_69 rfl (tyX5_ok 5 (by decide)) (by cases op1 <;> rfl) (by cases op1 <;> rfl) (Nat.le_of_ble_eq_true rfl) dX5_ground_37 rfl ?_
      refine X_aload_n K0 0 dX5_ground_40 rfl rfl ?_
      refine X_iconst (v := 1) K0 dX5_ground_41 (by decide) ?_
      refine X_callV (As := [.int 1]) (rest := []) K0 12 (m_all g c0 c1 c2 c3 c4 c5 c6 c7 c8 c9 c10 c11 mo mki mel mto mio mwy mme mhs mso msr mrs mce mcp 0 stt tr R1 C1 op1 hwb kinds elders tof iof wyf mef hsf sof srf rsf cef cpf rest 1) mi_X5_all rfl rfl rfl ml_RX5_54 rfl (Nat.le_of_ble_eq_true rfl) (by decide) ⟨Nat.le_of_ble_eq_true rfl, Nat.le_of_ble_eq_true rfl⟩ rfl rfl dX5_ground_42 ?_
      intro v w' hr'; obtain ⟨rfl, rfl⟩ := hr'
      show X φ 0 0 (c0 :: c1 :: c2 :: c3 :: c4 :: c5 :: c6 :: c7 :: c8 :: c9 :: c10 :: c11 :: (mo, oModel 0 stt tr (nI R1) (nI C1) (bI op1) mki mel mto mio mwy (bI false) mme mhs mso msr mrs mce mcp) :: (mki, aI g 40 (fiF kinds 1 40)) :: (mel, aI g 40 (fiF elders (-9) 40)) :: (mto, aI g 25 tof) :: (mio, aZ g 40 iof) :: (mwy, aI g 4096 wyf) :: (mme, aZ g 36 mef) :: (mhs, aZ g 3 hsf) :: (mso, aI g 3 sof) :: (msr, aI g 3 srf) :: (mrs, aI g 12 rsf) :: (mce, aI g 480 cef) :: (mcp, aI g 40 cpf) :: rest) [(0, .ref mo), (1, .int (nI R1)), (2, .int (nI C1)), (3, .int (bI op1))] 45 []
      refine X_aload_n K0 0 dX5_ground_45 rfl rfl ?_
      refine X_callV (As := []) (rest := []) K0 12 (m_things g c0 c1 c2 c3 c4 c5 c6 c7 c8 c9 c10 c11 mo mki mel mto mio mwy mme mhs mso msr mrs mce mcp 0 stt tr R1 C1 op1 false (fiF kinds 1 40) (fiF elders (-9) 40) tof iof wyf mef hsf sof srf rsf cef cpf rest hR1 hC1 ) mi_X5_things rfl rfl rfl ml_RX5_78 rfl (Nat.le_of_ble_eq_true rfl) (by decide) ⟨Nat.le_of_ble_eq_true rfl, Nat.le_of_ble_eq_true rfl⟩ rfl rfl dX5_ground_46 ?_
      intro v w' hr'; obtain ⟨rfl, rfl⟩ := hr'
      show X φ 0 0 (c0 :: c1 :: c2 :: c3 :: c4 :: c5 :: c6 :: c7 :: c8 :: c9 :: c10 :: c11 :: (mo, oModel 0 stt tr (nI R1) (nI C1) (bI op1) mki mel mto mio mwy (bI false) mme mhs mso msr mrs mce mcp) :: (mki, aI g 40 (fiF kinds 1 40)) :: (mel, aI g 40 (fiF elders (-9) 40)) :: (mto, aI g 25 tof) :: (mio, aZ g 40 iof) :: (mwy, aI g 4096 wyf) :: (mme, aZ g 36 mef) :: (mhs, aZ g 3 hsf) :: (mso, aI g 3 sof) :: (msr, aI g 3 srf) :: (mrs, aI g 12 rsf) :: (mce, aI g 480 cef) :: (mcp, aI g 40 cpf) :: rest) [(0, .ref mo), (1, .int (nI R1)), (2, .int (nI C1)), (3, .int (bI op1))] 49 [.int (nI (thM R1 C1 op1))]
      exact hr _ _ _ _ (Or.inr ⟨R1, C1, hR1, hC1, rfl, rfl, rfl, rfl⟩) dX5_ground_49
    · refine X_iconst (v := (-1)) K0 dX5_ground_23 (by decide) ?_
      exact hr _ _ _ _ (Or.inl ⟨by first | exact p_n (bI_0.mp h11) | exact p_yn (bI_n0.mp h11) (bI_0.mp h20), rfl, rfl⟩) dX5_ground_24

set_option maxRecDepth 20000 in
set_option maxHeartbeats 400000 in
theorem m_becomes (g : Gx) (c0 c1 c2 c3 c4 c5 c6 c7 c8 c9 c10 c11 : Nat × va_E) (mo mki mel mto mio mwy mme mhs mso msr mrs mce mcp : Nat) (tn stt : Int32) (tr : Int64) (R C : Nat) (op hwb : Bool) (kinds elders tof iof wyf mef hsf sof srf rsf cef cpf : Nat → Int32) (rest : va_W) (hR : 1 ≤ R ∧ R ≤ 5) (hC : 1 ≤ C ∧ C ≤ 5) (hKI : KI (thM R C op) kinds elders) (x k : Int32) : Con g yX5_becomes cX5_becomes 4 (some .int) 4 83 0 0 [.ref mo, .int x, .int k] (c0 :: c1 :: c2 :: c3 :: c4 :: c5 :: c6 :: c7 :: c8 :: c9 :: c10 :: c11 :: (mo, oModel tn stt tr (nI R) (nI C) (bI op) mki mel mto mio mwy (bI hwb) mme mhs mso msr mrs mce mcp) :: (mki, aI g 40 kinds) :: (mel, aI g 40 elders) :: (mto, aI g 25 tof) :: (mio, aZ g 40 iof) :: (mwy, aI g 4096 wyf) :: (mme, aZ g 36 mef) :: (mhs, aZ g 3 hsf) :: (mso, aI g 3 sof) :: (msr, aI g 3 srf) :: (mrs, aI g 12 rsf) :: (mce, aI g 480 cef) :: (mcp, aI g 40 cpf) :: rest) (fun v w' => (∃ e, kdD (thM R C op) kinds elders (ctF kinds (thM R C op)) x k = some e ∧ v = some (.int e) ∧ (c0 :: c1 :: c2 :: c3 :: c4 :: c5 :: c6 :: c7 :: c8 :: c9 :: c10 :: c11 :: (mo, oModel tn stt tr (nI R) (nI C) (bI op) mki mel mto mio mwy (bI hwb) mme mhs mso msr mrs mce mcp) :: (mki, aI g 40 kinds) :: (mel, aI g 40 elders) :: (mto, aI g 25 tof) :: (mio, aZ g 40 iof) :: (mwy, aI g 4096 wyf) :: (mme, aZ g 36 mef) :: (mhs, aZ g 3 hsf) :: (mso, aI g 3 sof) :: (msr, aI g 3 srf) :: (mrs, aI g 12 rsf) :: (mce, aI g 480 cef) :: (mcp, aI g 40 cpf) :: rest) = w') ∨ (kdD (thM R C op) kinds elders (ctF kinds (thM R C op)) x k = none ∧ ∃ j, j < (thM R C op) ∧ x = nI j ∧ v = some (.int (kinds j)) ∧ (c0 :: c1 :: c2 :: c3 :: c4 :: c5 :: c6 :: c7 :: c8 :: c9 :: c10 :: c11 :: (mo, oModel tn stt tr (nI R) (nI C) (bI op) mki mel mto mio mwy (bI false) mme mhs mso msr mrs mce mcp) :: (mki, aI g 40 (upd kinds j k)) :: (mel, aI g 40 (upd elders j (-9))) :: (mto, aI g 25 tof) :: (mio, aZ g 40 iof) :: (mwy, aI g 4096 wyf) :: (mme, aZ g 36 mef) :: (mhs, aZ g 3 hsf) :: (mso, aI g 3 sof) :: (msr, aI g 3 srf) :: (mrs, aI g 12 rsf) :: (mce, aI g 480 cef) :: (mcp, aI g 40 cpf) :: rest) = w')) := by
  have hTM := th_M (op := op) hR hC
  have hPM := pl_M hR hC
  have hRM := rd_M hR hC
  refine Con.ofI (by decide +kernel) (Nat.le_of_ble_eq_true rfl) (fun φ K0 hr => ?_)
  show X φ 0 0 (c0 :: c1 :: c2 :: c3 :: c4 :: c5 :: c6 :: c7 :: c8 :: c9 :: c10 :: c11 :: (mo, oModel tn stt tr (nI R) (nI C) (bI op) mki mel mto mio mwy (bI hwb) mme mhs mso msr mrs mce mcp) :: (mki, aI g 40 kinds) :: (mel, aI g 40 elders) :: (mto, aI g 25 tof) :: (mio, aZ g 40 iof) :: (mwy, aI g 4096 wyf) :: (mme, aZ g 36 mef) :: (mhs, aZ g 3 hsf) :: (mso, aI g 3 sof) :: (msr, aI g 3 srf) :: (mrs, aI g 12 rsf) :: (mce, aI g 480 cef) :: (mcp, aI g 40 cpf) :: rest) [(0, .ref mo), (1, .int x), (2, .int k)] 0 []
  refine X_aload_n K0 0 dX5_becomes_0 rfl rfl ?_
  refine X_iload_n K0 1 dX5_becomes_1 rfl rfl ?_
  refine X_callV (As := [.int x]) (rest := []) K0 12 (m_isThing g c0 c1 c2 c3 c4 c5 c6 c7 c8 c9 c10 c11 mo mki mel mto mio mwy mme mhs mso msr mrs mce mcp tn stt tr R C op hwb kinds elders tof iof wyf mef hsf sof srf rsf cef cpf rest hR hC x) mi_X5_isThing rfl rfl rfl ml_RX5_88 rfl (Nat.le_of_ble_eq_true rfl) (by decide) ⟨Nat.le_of_ble_eq_true rfl, Nat.le_of_ble_eq_true rfl⟩ rfl rfl dX5_becomes_2 ?_
  intro v w' hr'; obtain ⟨rfl, rfl⟩ := hr'
  show X φ 0 0 (c0 :: c1 :: c2 :: c3 :: c4 :: c5 :: c6 :: c7 :: c8 :: c9 :: c10 :: c11 :: (mo, oModel tn stt tr (nI R) (nI C) (bI op) mki mel mto mio mwy (bI hwb) mme mhs mso msr mrs mce mcp) :: (mki, aI g 40 kinds) :: (mel, aI g 40 elders) :: (mto, aI g 25 tof) :: (mio, aZ g 40 iof) :: (mwy, aI g 4096 wyf) :: (mme, aZ g 36 mef) :: (mhs, aZ g 3 hsf) :: (mso, aI g 3 sof) :: (msr, aI g 3 srf) :: (mrs, aI g 12 rsf) :: (mce, aI g 480 cef) :: (mcp, aI g 40 cpf) :: rest) [(0, .ref mo), (1, .int x), (2, .int k)] 5 [.int (bI (wiB x 0 ((nI (thM R C op)) - 1)))]
  refine X_if_eq K0 17 dX5_becomes_5 (by decide) (fun h5 => ?_) (fun h5 => ?_)
  · refine X_iconst (v := (-1)) K0 dX5_becomes_17 (by decide) ?_
    exact hr _ _ _ _ (Or.inl ⟨-1, by rw [kdD, if_pos (by first | exact p_n (bI_0.mp h5) | exact p_yn (bI_n0.mp h5) (bI_0.mp h14))], rfl, rfl⟩) dX5_becomes_18
  · refine X_iload_n K0 2 dX5_becomes_8 rfl rfl ?_
    refine X_iconst (v := 0) K0 dX5_becomes_9 (by decide) ?_
    refine X_iconst (v := 2) K0 dX5_becomes_10 (by decide) ?_
    refine X_callS (As := [.int k, .int 0, .int 2]) (rest := []) K0 (c_in g (c0 :: c1 :: c2 :: c3 :: c4 :: c5 :: c6 :: c7 :: c8 :: c9 :: c10 :: c11 :: (mo, oModel tn stt tr (nI R) (nI C) (bI op) mki mel mto mio mwy (bI hwb) mme mhs mso msr mrs mce mcp) :: (mki, aI g 40 kinds) :: (mel, aI g 40 elders) :: (mto, aI g 25 tof) :: (mio, aZ g 40 iof) :: (mwy, aI g 4096 wyf) :: (mme, aZ g 36 mef) :: (mhs, aZ g 3 hsf) :: (mso, aI g 3 sof) :: (msr, aI g 3 srf) :: (mrs, aI g 12 rsf) :: (mce, aI g 480 cef) :: (mcp, aI g 40 cpf) :: rest) k 0 2) ms_X5_in rfl ml_RX5_81 rfl (Nat.le_of_ble_eq_true rfl) (by decide) ⟨Nat.le_of_ble_eq_true rfl, Nat.le_of_ble_eq_true rfl⟩ rfl rfl dX5_becomes_11 ?_
    intro v w' hr'; obtain ⟨rfl, rfl⟩ := hr'
    show X φ 0 0 (c0 :: c1 :: c2 :: c3 :: c4 :: c5 :: c6 :: c7 :: c8 :: c9 :: c10 :: c11 :: (mo, oModel tn stt tr (nI R) (nI C) (bI op) mki mel mto mio mwy (bI hwb) mme mhs mso msr mrs mce mcp) :: (mki, aI g 40 kinds) :: (mel, aI g 40 elders) :: (mto, aI g 25 tof) :: (mio, aZ g 40 iof) :: (mwy, aI g 4096 wyf) :: (mme, aZ g 36 mef) :: (mhs, aZ g 3 hsf) :: (mso, aI g 3 sof) :: (msr, aI g 3 srf) :: (mrs, aI g 12 rsf) :: (mce, aI g 480 cef) :: (mcp, aI g 40 cpf) :: rest) [(0, .ref mo), (1, .int x), (2, .int k)] 14 [.int (bI (wiB k 0 2))]
    refine X_if_ne K0 19 dX5_becomes_14 (by decide) (fun h14 => ?_) (fun h14 => ?_)
    · obtain ⟨j, hj, rfl⟩ := wi_of (bI_n0.mp h5) (by omega)
      have hcl : (nI j).toNatClampNeg = j := nI_clamp (by omega)
      refine X_iload_n K0 2 dX5_becomes_19 rfl rfl ?_
      refine X_iconst (v := 2) K0 dX5_becomes_20 (by decide) ?_
      refine X_icmp_eq K0 35 dX5_becomes_21 (by decide) (fun h21 => ?_) (fun h21 => ?_)
      · refine X_iload_n K0 2 dX5_becomes_35 rfl rfl ?_
        refine X_iconst (v := 2) K0 dX5_becomes_36 (by decide) ?_
        refine X_icmp_ne K0 62 dX5_becomes_37 (by decide) (fun h37 => ?_) (fun h37 => ?_)
        · refine X_aload_n K0 0 dX5_becomes_62 rfl rfl ?_
          refine X_get K0 12 rfl rfl hin5 6 (by decide) fl_RX5_16 rfl dX5_becomes_63 ?_
          refine X_iload_n K0 1 dX5_becomes_66 rfl rfl ?_
          refine X_ialdN K0 13 rfl (by omega) (by first | decide | omega) dX5_becomes_67 ?_
          refine X_istore_n (L' := [(3, .int (kinds j)), (0, .ref mo), (1, .int (nI j)), (2, .int k)]) K0 dX5_becomes_68 rfl (by decide) rfl ?_
          refine X_aload_n K0 1 dX5_becomes_69 rfl rfl ?_
          refine X_get K0 12 rfl rfl hin5 6 (by decide) fl_RX5_16 rfl dX5_becomes_70 ?_
          refine X_iload_n K0 2 dX5_becomes_73 rfl rfl ?_
          refine X_iload_n K0 3 dX5_becomes_74 rfl rfl ?_
          refine X_iastN (w' := (c0 :: c1 :: c2 :: c3 :: c4 :: c5 :: c6 :: c7 :: c8 :: c9 :: c10 :: c11 :: (mo, oModel tn stt tr (nI R) (nI C) (bI op) mki mel mto mio mwy (bI hwb) mme mhs mso msr mrs mce mcp) :: (mki, aI g 40 (upd kinds j k)) :: (mel, aI g 40 elders) :: (mto, aI g 25 tof) :: (mio, aZ g 40 iof) :: (mwy, aI g 4096 wyf) :: (mme, aZ g 36 mef) :: (mhs, aZ g 3 hsf) :: (mso, aI g 3 sof) :: (msr, aI g 3 srf) :: (mrs, aI g 12 rsf) :: (mce, aI g 480 cef) :: (mcp, aI g 40 cpf) :: rest)) K0 13 rfl (by omega) (by first | decide | omega) dX5_becomes_75 rfl ?_
          refine X_aload_n K0 1 dX5_becomes_76 rfl rfl ?_
          refine X_get K0 12 rfl rfl hin5 7 (by decide) fl_RX5_20 rfl dX5_becomes_77 ?_
          refine X_iload_n K0 2 dX5_becomes_80 rfl rfl ?_
          refine X_bipush (v := (-9)) K0 dX5_becomes_81 (by decide) ?_
          refine X_iastN (w' := (c0 :: c1 :: c2 :: c3 :: c4 :: c5 :: c6 :: c7 :: c8 :: c9 :: c10 :: c11 :: (mo, oModel tn stt tr (nI R) (nI C) (bI op) mki mel mto mio mwy (bI hwb) mme mhs mso msr mrs mce mcp) :: (mki, aI g 40 (upd kinds j k)) :: (mel, aI g 40 (upd elders j (-9))) :: (mto, aI g 25 tof) :: (mio, aZ g 40 iof) :: (mwy, aI g 4096 wyf) :: (mme, aZ g 36 mef) :: (mhs, aZ g 3 hsf) :: (mso, aI g 3 sof) :: (msr, aI g 3 srf) :: (mrs, aI g 12 rsf) :: (mce, aI g 480 cef) :: (mcp, aI g 40 cpf) :: rest)) K0 14 rfl (by omega) (by first | decide | omega) dX5_becomes_83 rfl ?_
          refine X_aload_n K0 1 dX5_becomes_84 rfl rfl ?_
          refine X_iconst (v := 0) K0 dX5_becomes_85 (by decide) ?_
          refine X_v (z := (bI false)) rfl ?_
          refine X_put (w' := (c0 :: c1 :: c2 :: c3 :: c4 :: c5 :: c6 :: c7 :: c8 :: c9 :: c10 :: c11 :: (mo, oModel tn stt tr (nI R) (nI C) (bI op) mki mel mto mio mwy (bI false) mme mhs mso msr mrs mce mcp) :: (mki, aI g 40 (upd kinds j k)) :: (mel, aI g 40 (upd elders j (-9))) :: (mto, aI g 25 tof) :: (mio, aZ g 40 iof) :: (mwy, aI g 4096 wyf) :: (mme, aZ g 36 mef) :: (mhs, aZ g 3 hsf) :: (mso, aI g 3 sof) :: (msr, aI g 3 srf) :: (mrs, aI g 12 rsf) :: (mce, aI g 480 cef) :: (mcp, aI g 40 cpf) :: rest)) K0 12 rfl rfl hin5 tyX5 tyX5_ok nmX5 11 (by decide) fl_RX5_61 rfl (tyX5_ok 11 (by decide)) rfl rfl (Nat.le_of_ble_eq_true rfl) dX5_becomes_86 rfl ?_
          refine X_iload_n K0 0 dX5_becomes_89 rfl rfl ?_
          exact hr _ _ _ _ (Or.inr ⟨kd_none (bI_n0.mp h5) (bI_n0.mp h14) (by first | exact Or.inl h21 | exact Or.inr (bI_0.mp h29)) (by first | exact Or.inl h37 | exact Or.inr (Or.inl (hcl.symm ▸ h47)) | exact Or.inr (Or.inr (ne12 hKI.2 h56))), j, hj, rfl, rfl, rfl⟩) dX5_becomes_90
        · refine X_aload_n K0 0 dX5_becomes_40 rfl rfl ?_
          refine X_get K0 12 rfl rfl hin5 6 (by decide) fl_RX5_16 rfl dX5_becomes_41 ?_
          refine X_iload_n K0 1 dX5_becomes_44 rfl rfl ?_
          refine X_ialdN K0 13 rfl (by omega) (by first | decide | omega) dX5_becomes_45 ?_
          refine X_iconst (v := 2) K0 dX5_becomes_46 (by decide) ?_
          refine X_icmp_eq K0 62 dX5_becomes_47 (by decide) (fun h47 => ?_) (fun h47 => ?_)
          · refine X_aload_n K0 0 dX5_becomes_62 rfl rfl ?_
            refine X_get K0 12 rfl rfl hin5 6 (by decide) fl_RX5_16 rfl dX5_becomes_63 ?_
            refine X_iload_n K0 1 dX5_becomes_66 rfl rfl ?_
            refine X_ialdN K0 13 rfl (by omega) (by first | decide | omega) dX5_becomes_67 ?_
            refine X_istore_n (L' := [(3, .int (kinds j)), (0, .ref mo), (1, .int (nI j)), (2, .int k)]) K0 dX5_becomes_68 rfl (by decide) rfl ?_
            refine X_aload_n K0 1 dX5_becomes_69 rfl rfl ?_
            refine X_get K0 12 rfl rfl hin5 6 (by decide) fl_RX5_16 rfl dX5_becomes_70 ?_
            refine X_iload_n K0 2 dX5_becomes_73 rfl rfl ?_
            refine X_iload_n K0 3 dX5_becomes_74 rfl rfl ?_
            refine X_iastN (w' := (c0 :: c1 :: c2 :: c3 :: c4 :: c5 :: c6 :: c7 :: c8 :: c9 :: c10 :: c11 :: (mo, oModel tn stt tr (nI R) (nI C) (bI op) mki mel mto mio mwy (bI hwb) mme mhs mso msr mrs mce mcp) :: (mki, aI g 40 (upd kinds j k)) :: (mel, aI g 40 elders) :: (mto, aI g 25 tof) :: (mio, aZ g 40 iof) :: (mwy, aI g 4096 wyf) :: (mme, aZ g 36 mef) :: (mhs, aZ g 3 hsf) :: (mso, aI g 3 sof) :: (msr, aI g 3 srf) :: (mrs, aI g 12 rsf) :: (mce, aI g 480 cef) :: (mcp, aI g 40 cpf) :: rest)) K0 13 rfl (by omega) (by first | decide | omega) dX5_becomes_75 rfl ?_
            refine X_aload_n K0 1 dX5_becomes_76 rfl rfl ?_
            refine X_get K0 12 rfl rfl hin5 7 (by decide) fl_RX5_20 rfl dX5_becomes_77 ?_
            refine X_iload_n K0 2 dX5_becomes_80 rfl rfl ?_
            refine X_bipush (v := (-9)) K0 dX5_becomes_81 (by decide) ?_
            refine X_iastN (w' := (c0 :: c1 :: c2 :: c3 :: c4 :: c5 :: c6 :: c7 :: c8 :: c9 :: c10 :: c11 :: (mo, oModel tn stt tr (nI R) (nI C) (bI op) mki mel mto mio mwy (bI hwb) mme mhs mso msr mrs mce mcp) :: (mki, aI g 40 (upd kinds j k)) :: (mel, aI g 40 (upd elders j (-9))) :: (mto, aI g 25 tof) :: (mio, aZ g 40 iof) :: (mwy, aI g 4096 wyf) :: (mme, aZ g 36 mef) :: (mhs, aZ g 3 hsf) :: (mso, aI g 3 sof) :: (msr, aI g 3 srf) :: (mrs, aI g 12 rsf) :: (mce, aI g 480 cef) :: (mcp, aI g 40 cpf) :: rest)) K0 14 rfl (by omega) (by first | decide | omega) dX5_becomes_83 rfl ?_
            refine X_aload_n K0 1 dX5_becomes_84 rfl rfl ?_
            refine X_iconst (v := 0) K0 dX5_becomes_85 (by decide) ?_
            refine X_v (z := (bI false)) rfl ?_
            refine X_put (w' := (c0 :: c1 :: c2 :: c3 :: c4 :: c5 :: c6 :: c7 :: c8 :: c9 :: c10 :: c11 :: (mo, oModel tn stt tr (nI R) (nI C) (bI op) mki mel mto mio mwy (bI false) mme mhs mso msr mrs mce mcp) :: (mki, aI g 40 (upd kinds j k)) :: (mel, aI g 40 (upd elders j (-9))) :: (mto, aI g 25 tof) :: (mio, aZ g 40 iof) :: (mwy, aI g 4096 wyf) :: (mme, aZ g 36 mef) :: (mhs, aZ g 3 hsf) :: (mso, aI g 3 sof) :: (msr, aI g 3 srf) :: (mrs, aI g 12 rsf) :: (mce, aI g 480 cef) :: (mcp, aI g 40 cpf) :: rest)) K0 12 rfl rfl hin5 tyX5 tyX5_ok nmX5 11 (by decide) fl_RX5_61 rfl (tyX5_ok 11 (by decide)) rfl rfl (Nat.le_of_ble_eq_true rfl) dX5_becomes_86 rfl ?_
            refine X_iload_n K0 0 dX5_becomes_89 rfl rfl ?_
            exact hr _ _ _ _ (Or.inr ⟨kd_none (bI_n0.mp h5) (bI_n0.mp h14) (by first | exact Or.inl h21 | exact Or.inr (bI_0.mp h29)) (by first | exact Or.inl h37 | exact Or.inr (Or.inl (hcl.symm ▸ h47)) | exact Or.inr (Or.inr (ne12 hKI.2 h56))), j, hj, rfl, rfl, rfl⟩) dX5_becomes_90
          · refine X_aload_n K0 0 dX5_becomes_50 rfl rfl ?_
            refine X_callV (As := []) (rest := []) K0 12 (m_chances g c0 c1 c2 c3 c4 c5 c6 c7 c8 c9 c10 c11 mo mki mel mto mio mwy mme mhs mso msr mrs mce mcp tn stt tr R C op hwb kinds elders tof iof wyf mef hsf sof srf rsf cef cpf rest hR hC ) mi_X5_chances rfl rfl rfl ml_RX5_85 rfl (Nat.le_of_ble_eq_true rfl) (by decide) ⟨Nat.le_of_ble_eq_true rfl, Nat.le_of_ble_eq_true rfl⟩ rfl rfl dX5_becomes_51 ?_
            intro v w' hr'; obtain ⟨rfl, rfl⟩ := hr'
            show X φ 0 0 (c0 :: c1 :: c2 :: c3 :: c4 :: c5 :: c6 :: c7 :: c8 :: c9 :: c10 :: c11 :: (mo, oModel tn stt tr (nI R) (nI C) (bI op) mki mel mto mio mwy (bI hwb) mme mhs mso msr mrs mce mcp) :: (mki, aI g 40 kinds) :: (mel, aI g 40 elders) :: (mto, aI g 25 tof) :: (mio, aZ g 40 iof) :: (mwy, aI g 4096 wyf) :: (mme, aZ g 36 mef) :: (mhs, aZ g 3 hsf) :: (mso, aI g 3 sof) :: (msr, aI g 3 srf) :: (mrs, aI g 12 rsf) :: (mce, aI g 480 cef) :: (mcp, aI g 40 cpf) :: rest) [(0, .ref mo), (1, .int (nI j)), (2, .int k)] 54 [.int (nI (ctF kinds (thM R C op)))]
            refine X_bipush (v := 12) K0 dX5_becomes_54 (by decide) ?_
            refine X_icmp_ne K0 62 dX5_becomes_56 (by decide) (fun h56 => ?_) (fun h56 => ?_)
            · refine X_aload_n K0 0 dX5_becomes_62 rfl rfl ?_
              refine X_get K0 12 rfl rfl hin5 6 (by decide) fl_RX5_16 rfl dX5_becomes_63 ?_
              refine X_iload_n K0 1 dX5_becomes_66 rfl rfl ?_
              refine X_ialdN K0 13 rfl (by omega) (by first | decide | omega) dX5_becomes_67 ?_
              refine X_istore_n (L' := [(3, .int (kinds j)), (0, .ref mo), (1, .int (nI j)), (2, .int k)]) K0 dX5_becomes_68 rfl (by decide) rfl ?_
              refine X_aload_n K0 1 dX5_becomes_69 rfl rfl ?_
              refine X_get K0 12 rfl rfl hin5 6 (by decide) fl_RX5_16 rfl dX5_becomes_70 ?_
              refine X_iload_n K0 2 dX5_becomes_73 rfl rfl ?_
              refine X_iload_n K0 3 dX5_becomes_74 rfl rfl ?_
              refine X_iastN (w' := (c0 :: c1 :: c2 :: c3 :: c4 :: c5 :: c6 :: c7 :: c8 :: c9 :: c10 :: c11 :: (mo, oModel tn stt tr (nI R) (nI C) (bI op) mki mel mto mio mwy (bI hwb) mme mhs mso msr mrs mce mcp) :: (mki, aI g 40 (upd kinds j k)) :: (mel, aI g 40 elders) :: (mto, aI g 25 tof) :: (mio, aZ g 40 iof) :: (mwy, aI g 4096 wyf) :: (mme, aZ g 36 mef) :: (mhs, aZ g 3 hsf) :: (mso, aI g 3 sof) :: (msr, aI g 3 srf) :: (mrs, aI g 12 rsf) :: (mce, aI g 480 cef) :: (mcp, aI g 40 cpf) :: rest)) K0 13 rfl (by omega) (by first | decide | omega) dX5_becomes_75 rfl ?_
              refine X_aload_n K0 1 dX5_becomes_76 rfl rfl ?_
              refine X_get K0 12 rfl rfl hin5 7 (by decide) fl_RX5_20 rfl dX5_becomes_77 ?_
              refine X_iload_n K0 2 dX5_becomes_80 rfl rfl ?_
              refine X_bipush (v := (-9)) K0 dX5_becomes_81 (by decide) ?_
              refine X_iastN (w' := (c0 :: c1 :: c2 :: c3 :: c4 :: c5 :: c6 :: c7 :: c8 :: c9 :: c10 :: c11 :: (mo, oModel tn stt tr (nI R) (nI C) (bI op) mki mel mto mio mwy (bI hwb) mme mhs mso msr mrs mce mcp) :: (mki, aI g 40 (upd kinds j k)) :: (mel, aI g 40 (upd elders j (-9))) :: (mto, aI g 25 tof) :: (mio, aZ g 40 iof) :: (mwy, aI g 4096 wyf) :: (mme, aZ g 36 mef) :: (mhs, aZ g 3 hsf) :: (mso, aI g 3 sof) :: (msr, aI g 3 srf) :: (mrs, aI g 12 rsf) :: (mce, aI g 480 cef) :: (mcp, aI g 40 cpf) :: rest)) K0 14 rfl (by omega) (by first | decide | omega) dX5_becomes_83 rfl ?_
              refine X_aload_n K0 1 dX5_becomes_84 rfl rfl ?_
              refine X_iconst (v := 0) K0 dX5_becomes_85 (by decide) ?_
              refine X_v (z := (bI false)) rfl ?_
              refine X_put (w' := (c0 :: c1 :: c2 :: c3 :: c4 :: c5 :: c6 :: c7 :: c8 :: c9 :: c10 :: c11 :: (mo, oModel tn stt tr (nI R) (nI C) (bI op) mki mel mto mio mwy (bI false) mme mhs mso msr mrs mce mcp) :: (mki, aI g 40 (upd kinds j k)) :: (mel, aI g 40 (upd elders j (-9))) :: (mto, aI g 25 tof) :: (mio, aZ g 40 iof) :: (mwy, aI g 4096 wyf) :: (mme, aZ g 36 mef) :: (mhs, aZ g 3 hsf) :: (mso, aI g 3 sof) :: (msr, aI g 3 srf) :: (mrs, aI g 12 rsf) :: (mce, aI g 480 cef) :: (mcp, aI g 40 cpf) :: rest)) K0 12 rfl rfl hin5 tyX5 tyX5_ok nmX5 11 (by decide) fl_RX5_61 rfl (tyX5_ok 11 (by decide)) rfl rfl (Nat.le_of_ble_eq_true rfl) dX5_becomes_86 rfl ?_
              refine X_iload_n K0 0 dX5_becomes_89 rfl rfl ?_
              exact hr _ _ _ _ (Or.inr ⟨kd_none (bI_n0.mp h5) (bI_n0.mp h14) (by first | exact Or.inl h21 | exact Or.inr (bI_0.mp h29)) (by first | exact Or.inl h37 | exact Or.inr (Or.inl (hcl.symm ▸ h47)) | exact Or.inr (Or.inr (ne12 hKI.2 h56))), j, hj, rfl, rfl, rfl⟩) dX5_becomes_90
            · refine X_bipush (v := (-3)) K0 dX5_becomes_59 (by decide) ?_
              exact hr _ _ _ _ (Or.inl ⟨-3, by rw [kdD, if_neg (by rw [p_yy (bI_n0.mp h5) (bI_n0.mp h14)]; decide), if_neg (fun q => q.1 h37), if_pos ⟨h37, by rw [hcl]; exact h47, eq12 hKI.2 h56⟩], rfl, rfl⟩) dX5_becomes_61
      · refine X_aload_n K0 0 dX5_becomes_24 rfl rfl ?_
        refine X_iload_n K0 1 dX5_becomes_25 rfl rfl ?_
        refine X_callV (As := [.int (nI j)]) (rest := []) K0 12 (m_isElder g c0 c1 c2 c3 c4 c5 c6 c7 c8 c9 c10 c11 mo mki mel mto mio mwy mme mhs mso msr mrs mce mcp tn stt tr R C op hwb kinds elders tof iof wyf mef hsf sof srf rsf cef cpf rest hR hC (nI j)) mi_X5_isElder rfl rfl rfl ml_RX5_92 rfl (Nat.le_of_ble_eq_true rfl) (by decide) ⟨Nat.le_of_ble_eq_true rfl, Nat.le_of_ble_eq_true rfl⟩ rfl rfl dX5_becomes_26 ?_
        intro v w' hr'; obtain ⟨rfl, rfl⟩ := hr'
        show X φ 0 0 (c0 :: c1 :: c2 :: c3 :: c4 :: c5 :: c6 :: c7 :: c8 :: c9 :: c10 :: c11 :: (mo, oModel tn stt tr (nI R) (nI C) (bI op) mki mel mto mio mwy (bI hwb) mme mhs mso msr mrs mce mcp) :: (mki, aI g 40 kinds) :: (mel, aI g 40 elders) :: (mto, aI g 25 tof) :: (mio, aZ g 40 iof) :: (mwy, aI g 4096 wyf) :: (mme, aZ g 36 mef) :: (mhs, aZ g 3 hsf) :: (mso, aI g 3 sof) :: (msr, aI g 3 srf) :: (mrs, aI g 12 rsf) :: (mce, aI g 480 cef) :: (mcp, aI g 40 cpf) :: rest) [(0, .ref mo), (1, .int (nI j)), (2, .int k)] 29 [.int (bI (ieB elders (nI j) (thM R C op)))]
        refine X_if_eq K0 35 dX5_becomes_29 (by decide) (fun h29 => ?_) (fun h29 => ?_)
        · refine X_iload_n K0 2 dX5_becomes_35 rfl rfl ?_
          refine X_iconst (v := 2) K0 dX5_becomes_36 (by decide) ?_
          refine X_icmp_ne K0 62 dX5_becomes_37 (by decide) (fun h37 => ?_) (fun h37 => ?_)
          · refine X_aload_n K0 0 dX5_becomes_62 rfl rfl ?_
            refine X_get K0 12 rfl rfl hin5 6 (by decide) fl_RX5_16 rfl dX5_becomes_63 ?_
            refine X_iload_n K0 1 dX5_becomes_66 rfl rfl ?_
            refine X_ialdN K0 13 rfl (by omega) (by first | decide | omega) dX5_becomes_67 ?_
            refine X_istore_n (L' := [(3, .int (kinds j)), (0, .ref mo), (1, .int (nI j)), (2, .int k)]) K0 dX5_becomes_68 rfl (by decide) rfl ?_
            refine X_aload_n K0 1 dX5_becomes_69 rfl rfl ?_
            refine X_get K0 12 rfl rfl hin5 6 (by decide) fl_RX5_16 rfl dX5_becomes_70 ?_
            refine X_iload_n K0 2 dX5_becomes_73 rfl rfl ?_
            refine X_iload_n K0 3 dX5_becomes_74 rfl rfl ?_
            refine X_iastN (w' := (c0 :: c1 :: c2 :: c3 :: c4 :: c5 :: c6 :: c7 :: c8 :: c9 :: c10 :: c11 :: (mo, oModel tn stt tr (nI R) (nI C) (bI op) mki mel mto mio mwy (bI hwb) mme mhs mso msr mrs mce mcp) :: (mki, aI g 40 (upd kinds j k)) :: (mel, aI g 40 elders) :: (mto, aI g 25 tof) :: (mio, aZ g 40 iof) :: (mwy, aI g 4096 wyf) :: (mme, aZ g 36 mef) :: (mhs, aZ g 3 hsf) :: (mso, aI g 3 sof) :: (msr, aI g 3 srf) :: (mrs, aI g 12 rsf) :: (mce, aI g 480 cef) :: (mcp, aI g 40 cpf) :: rest)) K0 13 rfl (by omega) (by first | decide | omega) dX5_becomes_75 rfl ?_
            refine X_aload_n K0 1 dX5_becomes_76 rfl rfl ?_
            refine X_get K0 12 rfl rfl hin5 7 (by decide) fl_RX5_20 rfl dX5_becomes_77 ?_
            refine X_iload_n K0 2 dX5_becomes_80 rfl rfl ?_
            refine X_bipush (v := (-9)) K0 dX5_becomes_81 (by decide) ?_
            refine X_iastN (w' := (c0 :: c1 :: c2 :: c3 :: c4 :: c5 :: c6 :: c7 :: c8 :: c9 :: c10 :: c11 :: (mo, oModel tn stt tr (nI R) (nI C) (bI op) mki mel mto mio mwy (bI hwb) mme mhs mso msr mrs mce mcp) :: (mki, aI g 40 (upd kinds j k)) :: (mel, aI g 40 (upd elders j (-9))) :: (mto, aI g 25 tof) :: (mio, aZ g 40 iof) :: (mwy, aI g 4096 wyf) :: (mme, aZ g 36 mef) :: (mhs, aZ g 3 hsf) :: (mso, aI g 3 sof) :: (msr, aI g 3 srf) :: (mrs, aI g 12 rsf) :: (mce, aI g 480 cef) :: (mcp, aI g 40 cpf) :: rest)) K0 14 rfl (by omega) (by first | decide | omega) dX5_becomes_83 rfl ?_
            refine X_aload_n K0 1 dX5_becomes_84 rfl rfl ?_
            refine X_iconst (v := 0) K0 dX5_becomes_85 (by decide) ?_
            refine X_v (z := (bI false)) rfl ?_
            refine X_put (w' := (c0 :: c1 :: c2 :: c3 :: c4 :: c5 :: c6 :: c7 :: c8 :: c9 :: c10 :: c11 :: (mo, oModel tn stt tr (nI R) (nI C) (bI op) mki mel mto mio mwy (bI false) mme mhs mso msr mrs mce mcp) :: (mki, aI g 40 (upd kinds j k)) :: (mel, aI g 40 (upd elders j (-9))) :: (mto, aI g 25 tof) :: (mio, aZ g 40 iof) :: (mwy, aI g 4096 wyf) :: (mme, aZ g 36 mef) :: (mhs, aZ g 3 hsf) :: (mso, aI g 3 sof) :: (msr, aI g 3 srf) :: (mrs, aI g 12 rsf) :: (mce, aI g 480 cef) :: (mcp, aI g 40 cpf) :: rest)) K0 12 rfl rfl hin5 tyX5 tyX5_ok nmX5 11 (by decide) fl_RX5_61 rfl (tyX5_ok 11 (by decide)) rfl rfl (Nat.le_of_ble_eq_true rfl) dX5_becomes_86 rfl ?_
            refine X_iload_n K0 0 dX5_becomes_89 rfl rfl ?_
            exact hr _ _ _ _ (Or.inr ⟨kd_none (bI_n0.mp h5) (bI_n0.mp h14) (by first | exact Or.inl h21 | exact Or.inr (bI_0.mp h29)) (by first | exact Or.inl h37 | exact Or.inr (Or.inl (hcl.symm ▸ h47)) | exact Or.inr (Or.inr (ne12 hKI.2 h56))), j, hj, rfl, rfl, rfl⟩) dX5_becomes_90
          · refine X_aload_n K0 0 dX5_becomes_40 rfl rfl ?_
            refine X_get K0 12 rfl rfl hin5 6 (by decide) fl_RX5_16 rfl dX5_becomes_41 ?_
            refine X_iload_n K0 1 dX5_becomes_44 rfl rfl ?_
            refine X_ialdN K0 13 rfl (by omega) (by first | decide | omega) dX5_becomes_45 ?_
            refine X_iconst (v := 2) K0 dX5_becomes_46 (by decide) ?_
            refine X_icmp_eq K0 62 dX5_becomes_47 (by decide) (fun h47 => ?_) (fun h47 => ?_)
            · refine X_aload_n K0 0 dX5_becomes_62 rfl rfl ?_
              refine X_get K0 12 rfl rfl hin5 6 (by decide) fl_RX5_16 rfl dX5_becomes_63 ?_
              refine X_iload_n K0 1 dX5_becomes_66 rfl rfl ?_
              refine X_ialdN K0 13 rfl (by omega) (by first | decide | omega) dX5_becomes_67 ?_
              refine X_istore_n (L' := [(3, .int (kinds j)), (0, .ref mo), (1, .int (nI j)), (2, .int k)]) K0 dX5_becomes_68 rfl (by decide) rfl ?_
              refine X_aload_n K0 1 dX5_becomes_69 rfl rfl ?_
              refine X_get K0 12 rfl rfl hin5 6 (by decide) fl_RX5_16 rfl dX5_becomes_70 ?_
              refine X_iload_n K0 2 dX5_becomes_73 rfl rfl ?_
              refine X_iload_n K0 3 dX5_becomes_74 rfl rfl ?_
              refine X_iastN (w' := (c0 :: c1 :: c2 :: c3 :: c4 :: c5 :: c6 :: c7 :: c8 :: c9 :: c10 :: c11 :: (mo, oModel tn stt tr (nI R) (nI C) (bI op) mki mel mto mio mwy (bI hwb) mme mhs mso msr mrs mce mcp) :: (mki, aI g 40 (upd kinds j k)) :: (mel, aI g 40 elders) :: (mto, aI g 25 tof) :: (mio, aZ g 40 iof) :: (mwy, aI g 4096 wyf) :: (mme, aZ g 36 mef) :: (mhs, aZ g 3 hsf) :: (mso, aI g 3 sof) :: (msr, aI g 3 srf) :: (mrs, aI g 12 rsf) :: (mce, aI g 480 cef) :: (mcp, aI g 40 cpf) :: rest)) K0 13 rfl (by omega) (by first | decide | omega) dX5_becomes_75 rfl ?_
              refine X_aload_n K0 1 dX5_becomes_76 rfl rfl ?_
              refine X_get K0 12 rfl rfl hin5 7 (by decide) fl_RX5_20 rfl dX5_becomes_77 ?_
              refine X_iload_n K0 2 dX5_becomes_80 rfl rfl ?_
              refine X_bipush (v := (-9)) K0 dX5_becomes_81 (by decide) ?_
              refine X_iastN (w' := (c0 :: c1 :: c2 :: c3 :: c4 :: c5 :: c6 :: c7 :: c8 :: c9 :: c10 :: c11 :: (mo, oModel tn stt tr (nI R) (nI C) (bI op) mki mel mto mio mwy (bI hwb) mme mhs mso msr mrs mce mcp) :: (mki, aI g 40 (upd kinds j k)) :: (mel, aI g 40 (upd elders j (-9))) :: (mto, aI g 25 tof) :: (mio, aZ g 40 iof) :: (mwy, aI g 4096 wyf) :: (mme, aZ g 36 mef) :: (mhs, aZ g 3 hsf) :: (mso, aI g 3 sof) :: (msr, aI g 3 srf) :: (mrs, aI g 12 rsf) :: (mce, aI g 480 cef) :: (mcp, aI g 40 cpf) :: rest)) K0 14 rfl (by omega) (by first | decide | omega) dX5_becomes_83 rfl ?_
              refine X_aload_n K0 1 dX5_becomes_84 rfl rfl ?_
              refine X_iconst (v := 0) K0 dX5_becomes_85 (by decide) ?_
              refine X_v (z := (bI false)) rfl ?_
              refine X_put (w' := (c0 :: c1 :: c2 :: c3 :: c4 :: c5 :: c6 :: c7 :: c8 :: c9 :: c10 :: c11 :: (mo, oModel tn stt tr (nI R) (nI C) (bI op) mki mel mto mio mwy (bI false) mme mhs mso msr mrs mce mcp) :: (mki, aI g 40 (upd kinds j k)) :: (mel, aI g 40 (upd elders j (-9))) :: (mto, aI g 25 tof) :: (mio, aZ g 40 iof) :: (mwy, aI g 4096 wyf) :: (mme, aZ g 36 mef) :: (mhs, aZ g 3 hsf) :: (mso, aI g 3 sof) :: (msr, aI g 3 srf) :: (mrs, aI g 12 rsf) :: (mce, aI g 480 cef) :: (mcp, aI g 40 cpf) :: rest)) K0 12 rfl rfl hin5 tyX5 tyX5_ok nmX5 11 (by decide) fl_RX5_61 rfl (tyX5_ok 11 (by decide)) rfl rfl (Nat.le_of_ble_eq_true rfl) dX5_becomes_86 rfl ?_
              refine X_iload_n K0 0 dX5_becomes_89 rfl rfl ?_
              exact hr _ _ _ _ (Or.inr ⟨kd_none (bI_n0.mp h5) (bI_n0.mp h14) (by first | exact Or.inl h21 | exact Or.inr (bI_0.mp h29)) (by first | exact Or.inl h37 | exact Or.inr (Or.inl (hcl.symm ▸ h47)) | exact Or.inr (Or.inr (ne12 hKI.2 h56))), j, hj, rfl, rfl, rfl⟩) dX5_becomes_90
            · refine X_aload_n K0 0 dX5_becomes_50 rfl rfl ?_
              refine X_callV (As := []) (rest := []) K0 12 (m_chances g c0 c1 c2 c3 c4 c5 c6 c7 c8 c9 c10 c11 mo mki mel mto mio mwy mme mhs mso msr mrs mce mcp tn stt tr R C op hwb kinds elders tof iof wyf mef hsf sof srf rsf cef cpf rest hR hC ) mi_X5_chances rfl rfl rfl ml_RX5_85 rfl (Nat.le_of_ble_eq_true rfl) (by decide) ⟨Nat.le_of_ble_eq_true rfl, Nat.le_of_ble_eq_true rfl⟩ rfl rfl dX5_becomes_51 ?_
              intro v w' hr'; obtain ⟨rfl, rfl⟩ := hr'
              show X φ 0 0 (c0 :: c1 :: c2 :: c3 :: c4 :: c5 :: c6 :: c7 :: c8 :: c9 :: c10 :: c11 :: (mo, oModel tn stt tr (nI R) (nI C) (bI op) mki mel mto mio mwy (bI hwb) mme mhs mso msr mrs mce mcp) :: (mki, aI g 40 kinds) :: (mel, aI g 40 elders) :: (mto, aI g 25 tof) :: (mio, aZ g 40 iof) :: (mwy, aI g 4096 wyf) :: (mme, aZ g 36 mef) :: (mhs, aZ g 3 hsf) :: (mso, aI g 3 sof) :: (msr, aI g 3 srf) :: (mrs, aI g 12 rsf) :: (mce, aI g 480 cef) :: (mcp, aI g 40 cpf) :: rest) [(0, .ref mo), (1, .int (nI j)), (2, .int k)] 54 [.int (nI (ctF kinds (thM R C op)))]
              refine X_bipush (v := 12) K0 dX5_becomes_54 (by decide) ?_
              refine X_icmp_ne K0 62 dX5_becomes_56 (by decide) (fun h56 => ?_) (fun h56 => ?_)
              · refine X_aload_n K0 0 dX5_becomes_62 rfl rfl ?_
                refine X_get K0 12 rfl rfl hin5 6 (by decide) fl_RX5_16 rfl dX5_becomes_63 ?_
                refine X_iload_n K0 1 dX5_becomes_66 rfl rfl ?_
                refine X_ialdN K0 13 rfl (by omega) (by first | decide | omega) dX5_becomes_67 ?_
                refine X_istore_n (L' := [(3, .int (kinds j)), (0, .ref mo), (1, .int (nI j)), (2, .int k)]) K0 dX5_becomes_68 rfl (by decide) rfl ?_
                refine X_aload_n K0 1 dX5_becomes_69 rfl rfl ?_
                refine X_get K0 12 rfl rfl hin5 6 (by decide) fl_RX5_16 rfl dX5_becomes_70 ?_
                refine X_iload_n K0 2 dX5_becomes_73 rfl rfl ?_
                refine X_iload_n K0 3 dX5_becomes_74 rfl rfl ?_
                refine X_iastN (w' := (c0 :: c1 :: c2 :: c3 :: c4 :: c5 :: c6 :: c7 :: c8 :: c9 :: c10 :: c11 :: (mo, oModel tn stt tr (nI R) (nI C) (bI op) mki mel mto mio mwy (bI hwb) mme mhs mso msr mrs mce mcp) :: (mki, aI g 40 (upd kinds j k)) :: (mel, aI g 40 elders) :: (mto, aI g 25 tof) :: (mio, aZ g 40 iof) :: (mwy, aI g 4096 wyf) :: (mme, aZ g 36 mef) :: (mhs, aZ g 3 hsf) :: (mso, aI g 3 sof) :: (msr, aI g 3 srf) :: (mrs, aI g 12 rsf) :: (mce, aI g 480 cef) :: (mcp, aI g 40 cpf) :: rest)) K0 13 rfl (by omega) (by first | decide | omega) dX5_becomes_75 rfl ?_
                refine X_aload_n K0 1 dX5_becomes_76 rfl rfl ?_
                refine X_get K0 12 rfl rfl hin5 7 (by decide) fl_RX5_20 rfl dX5_becomes_77 ?_
                refine X_iload_n K0 2 dX5_becomes_80 rfl rfl ?_
                refine X_bipush (v := (-9)) K0 dX5_becomes_81 (by decide) ?_
                refine X_iastN (w' := (c0 :: c1 :: c2 :: c3 :: c4 :: c5 :: c6 :: c7 :: c8 :: c9 :: c10 :: c11 :: (mo, oModel tn stt tr (nI R) (nI C) (bI op) mki mel mto mio mwy (bI hwb) mme mhs mso msr mrs mce mcp) :: (mki, aI g 40 (upd kinds j k)) :: (mel, aI g 40 (upd elders j (-9))) :: (mto, aI g 25 tof) :: (mio, aZ g 40 iof) :: (mwy, aI g 4096 wyf) :: (mme, aZ g 36 mef) :: (mhs, aZ g 3 hsf) :: (mso, aI g 3 sof) :: (msr, aI g 3 srf) :: (mrs, aI g 12 rsf) :: (mce, aI g 480 cef) :: (mcp, aI g 40 cpf) :: rest)) K0 14 rfl (by omega) (by first | decide | omega) dX5_becomes_83 rfl ?_
                refine X_aload_n K0 1 dX5_becomes_84 rfl rfl ?_
                refine X_iconst (v := 0) K0 dX5_becomes_85 (by decide) ?_
                refine X_v (z := (bI false)) rfl ?_
                refine X_put (w' := (c0 :: c1 :: c2 :: c3 :: c4 :: c5 :: c6 :: c7 :: c8 :: c9 :: c10 :: c11 :: (mo, oModel tn stt tr (nI R) (nI C) (bI op) mki mel mto mio mwy (bI false) mme mhs mso msr mrs mce mcp) :: (mki, aI g 40 (upd kinds j k)) :: (mel, aI g 40 (upd elders j (-9))) :: (mto, aI g 25 tof) :: (mio, aZ g 40 iof) :: (mwy, aI g 4096 wyf) :: (mme, aZ g 36 mef) :: (mhs, aZ g 3 hsf) :: (mso, aI g 3 sof) :: (msr, aI g 3 srf) :: (mrs, aI g 12 rsf) :: (mce, aI g 480 cef) :: (mcp, aI g 40 cpf) :: rest)) K0 12 rfl rfl hin5 tyX5 tyX5_ok nmX5 11 (by decide) fl_RX5_61 rfl (tyX5_ok 11 (by decide)) rfl rfl (Nat.le_of_ble_eq_true rfl) dX5_becomes_86 rfl ?_
                refine X_iload_n K0 0 dX5_becomes_89 rfl rfl ?_
                exact hr _ _ _ _ (Or.inr ⟨kd_none (bI_n0.mp h5) (bI_n0.mp h14) (by first | exact Or.inl h21 | exact Or.inr (bI_0.mp h29)) (by first | exact Or.inl h37 | exact Or.inr (Or.inl (hcl.symm ▸ h47)) | exact Or.inr (Or.inr (ne12 hKI.2 h56))), j, hj, rfl, rfl, rfl⟩) dX5_becomes_90
              · refine X_bipush (v := (-3)) K0 dX5_becomes_59 (by decide) ?_
                exact hr _ _ _ _ (Or.inl ⟨-3, by rw [kdD, if_neg (by rw [p_yy (bI_n0.mp h5) (bI_n0.mp h14)]; decide), if_neg (fun q => q.1 h37), if_pos ⟨h37, by rw [hcl]; exact h47, eq12 hKI.2 h56⟩], rfl, rfl⟩) dX5_becomes_61
        · refine X_bipush (v := (-2)) K0 dX5_becomes_32 (by decide) ?_
          exact hr _ _ _ _ (Or.inl ⟨-2, by rw [kdD, if_neg (by rw [p_yy (bI_n0.mp h5) (bI_n0.mp h14)]; decide), if_pos ⟨h21, bI_n0.mp h29⟩], rfl, rfl⟩) dX5_becomes_34
    · refine X_iconst (v := (-1)) K0 dX5_becomes_17 (by decide) ?_
      exact hr _ _ _ _ (Or.inl ⟨-1, by rw [kdD, if_pos (by first | exact p_n (bI_0.mp h5) | exact p_yn (bI_n0.mp h5) (bI_0.mp h14))], rfl, rfl⟩) dX5_becomes_18

set_option maxRecDepth 20000 in
set_option maxHeartbeats 400000 in
theorem m_kind (g : Gx) (c0 c1 c2 c3 c4 c5 c6 c7 c8 c9 c10 c11 : Nat × va_E) (mo mki mel mto mio mwy mme mhs mso msr mrs mce mcp : Nat) (tn stt : Int32) (tr : Int64) (R C : Nat) (op hwb : Bool) (kinds elders tof iof wyf mef hsf sof srf rsf cef cpf : Nat → Int32) (rest : va_W) (hR : 1 ≤ R ∧ R ≤ 5) (hC : 1 ≤ C ∧ C ≤ 5) (hKI : KI (thM R C op) kinds elders) (x k : Int32) : Con g yX5_kind cX5_kind 3 (some .int) 5 106 0 0 [.ref mo, .int x, .int k] (c0 :: c1 :: c2 :: c3 :: c4 :: c5 :: c6 :: c7 :: c8 :: c9 :: c10 :: c11 :: (mo, oModel tn stt tr (nI R) (nI C) (bI op) mki mel mto mio mwy (bI hwb) mme mhs mso msr mrs mce mcp) :: (mki, aI g 40 kinds) :: (mel, aI g 40 elders) :: (mto, aI g 25 tof) :: (mio, aZ g 40 iof) :: (mwy, aI g 4096 wyf) :: (mme, aZ g 36 mef) :: (mhs, aZ g 3 hsf) :: (mso, aI g 3 sof) :: (msr, aI g 3 srf) :: (mrs, aI g 12 rsf) :: (mce, aI g 480 cef) :: (mcp, aI g 40 cpf) :: rest) (fun v w' => (∃ e, kdD (thM R C op) kinds elders (ctF kinds (thM R C op)) x k = some e ∧ v = some (.int e) ∧ (c0 :: c1 :: c2 :: c3 :: c4 :: c5 :: c6 :: c7 :: c8 :: c9 :: c10 :: c11 :: (mo, oModel 0 stt tr (nI R) (nI C) (bI op) mki mel mto mio mwy (bI hwb) mme mhs mso msr mrs mce mcp) :: (mki, aI g 40 kinds) :: (mel, aI g 40 elders) :: (mto, aI g 25 tof) :: (mio, aZ g 40 iof) :: (mwy, aI g 4096 wyf) :: (mme, aZ g 36 mef) :: (mhs, aZ g 3 hsf) :: (mso, aI g 3 sof) :: (msr, aI g 3 srf) :: (mrs, aI g 12 rsf) :: (mce, aI g 480 cef) :: (mcp, aI g 40 cpf) :: rest) = w') ∨ (kdD (thM R C op) kinds elders (ctF kinds (thM R C op)) x k = none ∧ ∃ j, j < (thM R C op) ∧ x = nI j ∧ v = some (.int (kinds j)) ∧ (c0 :: c1 :: c2 :: c3 :: c4 :: c5 :: c6 :: c7 :: c8 :: c9 :: c10 :: c11 :: (mo, oModel 0 stt tr (nI R) (nI C) (bI op) mki mel mto mio mwy (bI false) mme mhs mso msr mrs mce mcp) :: (mki, aI g 40 (upd kinds j k)) :: (mel, aI g 40 (upd elders j (-9))) :: (mto, aI g 25 tof) :: (mio, aZ g 40 iof) :: (mwy, aI g 4096 wyf) :: (mme, aZ g 36 mef) :: (mhs, aZ g 3 hsf) :: (mso, aI g 3 sof) :: (msr, aI g 3 srf) :: (mrs, aI g 12 rsf) :: (mce, aI g 480 cef) :: (mcp, aI g 40 cpf) :: rest) = w')) := by
  have hTM := th_M (op := op) hR hC
  have hPM := pl_M hR hC
  have hRM := rd_M hR hC
  refine Con.ofI (by decide +kernel) (Nat.le_of_ble_eq_true rfl) (fun φ K0 hr => ?_)
  show X φ 0 0 (c0 :: c1 :: c2 :: c3 :: c4 :: c5 :: c6 :: c7 :: c8 :: c9 :: c10 :: c11 :: (mo, oModel tn stt tr (nI R) (nI C) (bI op) mki mel mto mio mwy (bI hwb) mme mhs mso msr mrs mce mcp) :: (mki, aI g 40 kinds) :: (mel, aI g 40 elders) :: (mto, aI g 25 tof) :: (mio, aZ g 40 iof) :: (mwy, aI g 4096 wyf) :: (mme, aZ g 36 mef) :: (mhs, aZ g 3 hsf) :: (mso, aI g 3 sof) :: (msr, aI g 3 srf) :: (mrs, aI g 12 rsf) :: (mce, aI g 480 cef) :: (mcp, aI g 40 cpf) :: rest) [(0, .ref mo), (1, .int x), (2, .int k)] 0 []
  refine X_aload_n K0 0 dX5_kind_0 rfl rfl ?_
  refine X_iconst (v := 0) K0 dX5_kind_1 (by decide) ?_
  refine X_put (w' := (c0 :: c1 :: c2 :: c3 :: c4 :: c5 :: c6 :: c7 :: c8 :: c9 :: c10 :: c11 :: (mo, oModel 0 stt tr (nI R) (nI C) (bI op) mki mel mto mio mwy (bI hwb) mme mhs mso msr mrs mce mcp) :: (mki, aI g 40 kinds) :: (mel, aI g 40 elders) :: (mto, aI g 25 tof) :: (mio, aZ g 40 iof) :: (mwy, aI g 4096 wyf) :: (mme, aZ g 36 mef) :: (mhs, aZ g 3 hsf) :: (mso, aI g 3 sof) :: (msr, aI g 3 srf) :: (mrs, aI g 12 rsf) :: (mce, aI g 480 cef) :: (mcp, aI g 40 cpf) :: rest)) K0 12 rfl rfl hin5 tyX5 tyX5_ok nmX5 0 (by decide) fl_RX5_58 rfl (tyX5_ok 0 (by decide)) rfl rfl (Nat.le_of_ble_eq_true rfl) dX5_kind_2 rfl ?_
  refine X_aload_n K0 0 dX5_kind_5 rfl rfl ?_
  refine X_iload_n K0 1 dX5_kind_6 rfl rfl ?_
  refine X_iload_n K0 2 dX5_kind_7 rfl rfl ?_
  refine X_callV (As := [.int x, .int k]) (rest := []) K0 12 (m_becomes g c0 c1 c2 c3 c4 c5 c6 c7 c8 c9 c10 c11 mo mki mel mto mio mwy mme mhs mso msr mrs mce mcp 0 stt tr R C op hwb kinds elders tof iof wyf mef hsf sof srf rsf cef cpf rest hR hC hKI x k) mi_X5_becomes rfl rfl rfl ml_RX5_95 rfl (Nat.le_of_ble_eq_true rfl) (by decide) ⟨Nat.le_of_ble_eq_true rfl, Nat.le_of_ble_eq_true rfl⟩ rfl rfl dX5_kind_8 ?_
  intro v w' hr'
  obtain ⟨rv, rfl⟩ : ∃ rv, v = some (.int rv) := by rcases hr' with ⟨e, -, q, -⟩ | ⟨-, j, -, -, q, -⟩; exact ⟨_, q⟩; exact ⟨_, q⟩
  show X φ 0 0 w' [(0, .ref mo), (1, .int x), (2, .int k)] 11 [.int rv]
  exact hr _ _ _ _ hr' dX5_kind_11

set_option maxRecDepth 20000 in
set_option maxHeartbeats 400000 in
theorem m_twin (g : Gx) (c0 c1 c2 c3 c4 c5 c6 c7 c8 c9 c10 c11 : Nat × va_E) (mo mki mel mto mio mwy mme mhs mso msr mrs mce mcp : Nat) (tn stt : Int32) (tr : Int64) (R C : Nat) (op hwb : Bool) (kinds elders tof iof wyf mef hsf sof srf rsf cef cpf : Nat → Int32) (rest : va_W) (hR : 1 ≤ R ∧ R ≤ 5) (hC : 1 ≤ C ∧ C ≤ 5) (x e : Int32) (ag : Bool) : Con g yX5_twin cX5_twin 5 (some .int) 4 83 0 0 [.ref mo, .int x, .int e, .int (bI ag)] (c0 :: c1 :: c2 :: c3 :: c4 :: c5 :: c6 :: c7 :: c8 :: c9 :: c10 :: c11 :: (mo, oModel tn stt tr (nI R) (nI C) (bI op) mki mel mto mio mwy (bI hwb) mme mhs mso msr mrs mce mcp) :: (mki, aI g 40 kinds) :: (mel, aI g 40 elders) :: (mto, aI g 25 tof) :: (mio, aZ g 40 iof) :: (mwy, aI g 4096 wyf) :: (mme, aZ g 36 mef) :: (mhs, aZ g 3 hsf) :: (mso, aI g 3 sof) :: (msr, aI g 3 srf) :: (mrs, aI g 12 rsf) :: (mce, aI g 480 cef) :: (mcp, aI g 40 cpf) :: rest) (fun v w' => (∃ r, twD (thM R C op) kinds elders x e = some r ∧ v = some (.int r) ∧ (c0 :: c1 :: c2 :: c3 :: c4 :: c5 :: c6 :: c7 :: c8 :: c9 :: c10 :: c11 :: (mo, oModel 0 stt tr (nI R) (nI C) (bI op) mki mel mto mio mwy (bI hwb) mme mhs mso msr mrs mce mcp) :: (mki, aI g 40 kinds) :: (mel, aI g 40 elders) :: (mto, aI g 25 tof) :: (mio, aZ g 40 iof) :: (mwy, aI g 4096 wyf) :: (mme, aZ g 36 mef) :: (mhs, aZ g 3 hsf) :: (mso, aI g 3 sof) :: (msr, aI g 3 srf) :: (mrs, aI g 12 rsf) :: (mce, aI g 480 cef) :: (mcp, aI g 40 cpf) :: rest) = w') ∨ (twD (thM R C op) kinds elders x e = none ∧ ∃ j ee, j < (thM R C op) ∧ ee < (thM R C op) ∧ x = nI j ∧ e = nI ee ∧ v = some (.int (kinds j)) ∧ (c0 :: c1 :: c2 :: c3 :: c4 :: c5 :: c6 :: c7 :: c8 :: c9 :: c10 :: c11 :: (mo, oModel 0 stt tr (nI R) (nI C) (bI op) mki mel mto mio mwy (bI false) mme mhs mso msr mrs mce mcp) :: (mki, aI g 40 (upd kinds j (if ag = true then 4 else 3))) :: (mel, aI g 40 (upd elders j (nI ee))) :: (mto, aI g 25 tof) :: (mio, aZ g 40 iof) :: (mwy, aI g 4096 wyf) :: (mme, aZ g 36 mef) :: (mhs, aZ g 3 hsf) :: (mso, aI g 3 sof) :: (msr, aI g 3 srf) :: (mrs, aI g 12 rsf) :: (mce, aI g 480 cef) :: (mcp, aI g 40 cpf) :: rest) = w')) := by
  have hTM := th_M (op := op) hR hC
  have hPM := pl_M hR hC
  have hRM := rd_M hR hC
  refine Con.ofI (by decide +kernel) (Nat.le_of_ble_eq_true rfl) (fun φ K0 hr => ?_)
  show X φ 0 0 (c0 :: c1 :: c2 :: c3 :: c4 :: c5 :: c6 :: c7 :: c8 :: c9 :: c10 :: c11 :: (mo, oModel tn stt tr (nI R) (nI C) (bI op) mki mel mto mio mwy (bI hwb) mme mhs mso msr mrs mce mcp) :: (mki, aI g 40 kinds) :: (mel, aI g 40 elders) :: (mto, aI g 25 tof) :: (mio, aZ g 40 iof) :: (mwy, aI g 4096 wyf) :: (mme, aZ g 36 mef) :: (mhs, aZ g 3 hsf) :: (mso, aI g 3 sof) :: (msr, aI g 3 srf) :: (mrs, aI g 12 rsf) :: (mce, aI g 480 cef) :: (mcp, aI g 40 cpf) :: rest) [(0, .ref mo), (1, .int x), (2, .int e), (3, .int (bI ag))] 0 []
  refine X_aload_n K0 0 dX5_twin_0 rfl rfl ?_
  refine X_iconst (v := 0) K0 dX5_twin_1 (by decide) ?_
  refine X_put (w' := (c0 :: c1 :: c2 :: c3 :: c4 :: c5 :: c6 :: c7 :: c8 :: c9 :: c10 :: c11 :: (mo, oModel 0 stt tr (nI R) (nI C) (bI op) mki mel mto mio mwy (bI hwb) mme mhs mso msr mrs mce mcp) :: (mki, aI g 40 kinds) :: (mel, aI g 40 elders) :: (mto, aI g 25 tof) :: (mio, aZ g 40 iof) :: (mwy, aI g 4096 wyf) :: (mme, aZ g 36 mef) :: (mhs, aZ g 3 hsf) :: (mso, aI g 3 sof) :: (msr, aI g 3 srf) :: (mrs, aI g 12 rsf) :: (mce, aI g 480 cef) :: (mcp, aI g 40 cpf) :: rest)) K0 12 rfl rfl hin5 tyX5 tyX5_ok nmX5 0 (by decide) fl_RX5_58 rfl (tyX5_ok 0 (by decide)) rfl rfl (Nat.le_of_ble_eq_true rfl) dX5_twin_2 rfl ?_
  refine X_aload_n K0 0 dX5_twin_5 rfl rfl ?_
  refine X_iload_n K0 1 dX5_twin_6 rfl rfl ?_
  refine X_callV (As := [.int x]) (rest := []) K0 12 (m_isThing g c0 c1 c2 c3 c4 c5 c6 c7 c8 c9 c10 c11 mo mki mel mto mio mwy mme mhs mso msr mrs mce mcp 0 stt tr R C op hwb kinds elders tof iof wyf mef hsf sof srf rsf cef cpf rest hR hC x) mi_X5_isThing rfl rfl rfl ml_RX5_88 rfl (Nat.le_of_ble_eq_true rfl) (by decide) ⟨Nat.le_of_ble_eq_true rfl, Nat.le_of_ble_eq_true rfl⟩ rfl rfl dX5_twin_7 ?_
  intro v w' hr'; obtain ⟨rfl, rfl⟩ := hr'
  show X φ 0 0 (c0 :: c1 :: c2 :: c3 :: c4 :: c5 :: c6 :: c7 :: c8 :: c9 :: c10 :: c11 :: (mo, oModel 0 stt tr (nI R) (nI C) (bI op) mki mel mto mio mwy (bI hwb) mme mhs mso msr mrs mce mcp) :: (mki, aI g 40 kinds) :: (mel, aI g 40 elders) :: (mto, aI g 25 tof) :: (mio, aZ g 40 iof) :: (mwy, aI g 4096 wyf) :: (mme, aZ g 36 mef) :: (mhs, aZ g 3 hsf) :: (mso, aI g 3 sof) :: (msr, aI g 3 srf) :: (mrs, aI g 12 rsf) :: (mce, aI g 480 cef) :: (mcp, aI g 40 cpf) :: rest) [(0, .ref mo), (1, .int x), (2, .int e), (3, .int (bI ag))] 10 [.int (bI (wiB x 0 ((nI (thM R C op)) - 1)))]
  refine X_if_eq K0 36 dX5_twin_10 (by decide) (fun h10 => ?_) (fun h10 => ?_)
  · refine X_iconst (v := (-1)) K0 dX5_twin_36 (by decide) ?_
    exact hr _ _ _ _ (Or.inl ⟨-1, by rw [twD, if_pos (Or.inl (by first | exact p_n (bI_0.mp h10) | exact p_yn (bI_n0.mp h10) (bI_0.mp h18)))], rfl, rfl⟩) dX5_twin_37
  · refine X_aload_n K0 0 dX5_twin_13 rfl rfl ?_
    refine X_iload_n K0 2 dX5_twin_14 rfl rfl ?_
    refine X_callV (As := [.int e]) (rest := []) K0 12 (m_isThing g c0 c1 c2 c3 c4 c5 c6 c7 c8 c9 c10 c11 mo mki mel mto mio mwy mme mhs mso msr mrs mce mcp 0 stt tr R C op hwb kinds elders tof iof wyf mef hsf sof srf rsf cef cpf rest hR hC e) mi_X5_isThing rfl rfl rfl ml_RX5_88 rfl (Nat.le_of_ble_eq_true rfl) (by decide) ⟨Nat.le_of_ble_eq_true rfl, Nat.le_of_ble_eq_true rfl⟩ rfl rfl dX5_twin_15 ?_
    intro v w' hr'; obtain ⟨rfl, rfl⟩ := hr'
    show X φ 0 0 (c0 :: c1 :: c2 :: c3 :: c4 :: c5 :: c6 :: c7 :: c8 :: c9 :: c10 :: c11 :: (mo, oModel 0 stt tr (nI R) (nI C) (bI op) mki mel mto mio mwy (bI hwb) mme mhs mso msr mrs mce mcp) :: (mki, aI g 40 kinds) :: (mel, aI g 40 elders) :: (mto, aI g 25 tof) :: (mio, aZ g 40 iof) :: (mwy, aI g 4096 wyf) :: (mme, aZ g 36 mef) :: (mhs, aZ g 3 hsf) :: (mso, aI g 3 sof) :: (msr, aI g 3 srf) :: (mrs, aI g 12 rsf) :: (mce, aI g 480 cef) :: (mcp, aI g 40 cpf) :: rest) [(0, .ref mo), (1, .int x), (2, .int e), (3, .int (bI ag))] 18 [.int (bI (wiB e 0 ((nI (thM R C op)) - 1)))]
    refine X_if_eq K0 36 dX5_twin_18 (by decide) (fun h18 => ?_) (fun h18 => ?_)
    · refine X_iconst (v := (-1)) K0 dX5_twin_36 (by decide) ?_
      exact hr _ _ _ _ (Or.inl ⟨-1, by rw [twD, if_pos (Or.inl (by first | exact p_n (bI_0.mp h10) | exact p_yn (bI_n0.mp h10) (bI_0.mp h18)))], rfl, rfl⟩) dX5_twin_37
    · obtain ⟨j, hj, rfl⟩ := wi_of (bI_n0.mp h10) (by omega)
      obtain ⟨ee, hee, rfl⟩ := wi_of (bI_n0.mp h18) (by omega)
      have hcl : (nI ee).toNatClampNeg = ee := nI_clamp (by omega)
      refine X_iload_n K0 1 dX5_twin_21 rfl rfl ?_
      refine X_iload_n K0 2 dX5_twin_22 rfl rfl ?_
      refine X_icmp_eq K0 36 dX5_twin_23 (by decide) (fun h23 => ?_) (fun h23 => ?_)
      · refine X_iconst (v := (-1)) K0 dX5_twin_36 (by decide) ?_
        exact hr _ _ _ _ (Or.inl ⟨-1, by rw [twD, if_pos (by first | exact Or.inr (Or.inl h23) | exact Or.inr (Or.inr (by rw [hcl]; exact h33)))], rfl, rfl⟩) dX5_twin_37
      · refine X_aload_n K0 0 dX5_twin_26 rfl rfl ?_
        refine X_get K0 12 rfl rfl hin5 6 (by decide) fl_RX5_16 rfl dX5_twin_27 ?_
        refine X_iload_n K0 2 dX5_twin_30 rfl rfl ?_
        refine X_ialdN K0 13 rfl (by omega) (by first | decide | omega) dX5_twin_31 ?_
        refine X_iconst (v := 2) K0 dX5_twin_32 (by decide) ?_
        refine X_icmp_eq K0 38 dX5_twin_33 (by decide) (fun h33 => ?_) (fun h33 => ?_)
        · refine X_aload_n K0 0 dX5_twin_38 rfl rfl ?_
          refine X_iload_n K0 1 dX5_twin_39 rfl rfl ?_
          refine X_callV (As := [.int (nI j)]) (rest := []) K0 12 (m_isElder g c0 c1 c2 c3 c4 c5 c6 c7 c8 c9 c10 c11 mo mki mel mto mio mwy mme mhs mso msr mrs mce mcp 0 stt tr R C op hwb kinds elders tof iof wyf mef hsf sof srf rsf cef cpf rest hR hC (nI j)) mi_X5_isElder rfl rfl rfl ml_RX5_92 rfl (Nat.le_of_ble_eq_true rfl) (by decide) ⟨Nat.le_of_ble_eq_true rfl, Nat.le_of_ble_eq_true rfl⟩ rfl rfl dX5_twin_40 ?_
          intro v w' hr'; obtain ⟨rfl, rfl⟩ := hr'
          show X φ 0 0 (c0 :: c1 :: c2 :: c3 :: c4 :: c5 :: c6 :: c7 :: c8 :: c9 :: c10 :: c11 :: (mo, oModel 0 stt tr (nI R) (nI C) (bI op) mki mel mto mio mwy (bI hwb) mme mhs mso msr mrs mce mcp) :: (mki, aI g 40 kinds) :: (mel, aI g 40 elders) :: (mto, aI g 25 tof) :: (mio, aZ g 40 iof) :: (mwy, aI g 4096 wyf) :: (mme, aZ g 36 mef) :: (mhs, aZ g 3 hsf) :: (mso, aI g 3 sof) :: (msr, aI g 3 srf) :: (mrs, aI g 12 rsf) :: (mce, aI g 480 cef) :: (mcp, aI g 40 cpf) :: rest) [(0, .ref mo), (1, .int (nI j)), (2, .int (nI ee)), (3, .int (bI ag))] 43 [.int (bI (ieB elders (nI j) (thM R C op)))]
          refine X_if_eq K0 49 dX5_twin_43 (by decide) (fun h43 => ?_) (fun h43 => ?_)
          · refine X_aload_n K0 0 dX5_twin_49 rfl rfl ?_
            refine X_get K0 12 rfl rfl hin5 6 (by decide) fl_RX5_16 rfl dX5_twin_50 ?_
            refine X_iload_n K0 1 dX5_twin_53 rfl rfl ?_
            refine X_ialdN K0 13 rfl (by omega) (by first | decide | omega) dX5_twin_54 ?_
            refine X_istore (L' := [(4, .int (kinds j)), (0, .ref mo), (1, .int (nI j)), (2, .int (nI ee)), (3, .int (bI ag))]) K0 dX5_twin_55 (by decide) rfl ?_
            refine X_aload_n K0 1 dX5_twin_57 rfl rfl ?_
            refine X_get K0 12 rfl rfl hin5 6 (by decide) fl_RX5_16 rfl dX5_twin_58 ?_
            refine X_iload_n K0 2 dX5_twin_61 rfl rfl ?_
            refine X_iload_n K0 4 dX5_twin_62 rfl rfl ?_
            refine X_if_eq K0 70 dX5_twin_63 (by decide) (fun h63 => ?_) (fun h63 => ?_)
            · obtain rfl : ag = false := bI_0.mp h63
              refine X_iconst (v := 3) K0 dX5_twin_70 (by decide) ?_
              refine X_iastN (w' := (c0 :: c1 :: c2 :: c3 :: c4 :: c5 :: c6 :: c7 :: c8 :: c9 :: c10 :: c11 :: (mo, oModel 0 stt tr (nI R) (nI C) (bI op) mki mel mto mio mwy (bI hwb) mme mhs mso msr mrs mce mcp) :: (mki, aI g 40 (upd kinds j 3)) :: (mel, aI g 40 elders) :: (mto, aI g 25 tof) :: (mio, aZ g 40 iof) :: (mwy, aI g 4096 wyf) :: (mme, aZ g 36 mef) :: (mhs, aZ g 3 hsf) :: (mso, aI g 3 sof) :: (msr, aI g 3 srf) :: (mrs, aI g 12 rsf) :: (mce, aI g 480 cef) :: (mcp, aI g 40 cpf) :: rest)) K0 13 rfl (by omega) (by first | decide | omega) dX5_twin_71 rfl ?_
              refine X_aload_n K0 1 dX5_twin_72 rfl rfl ?_
              refine X_get K0 12 rfl rfl hin5 7 (by decide) fl_RX5_20 rfl dX5_twin_73 ?_
              refine X_iload_n K0 2 dX5_twin_76 rfl rfl ?_
              refine X_iload_n K0 3 dX5_twin_77 rfl rfl ?_
              refine X_iastN (w' := (c0 :: c1 :: c2 :: c3 :: c4 :: c5 :: c6 :: c7 :: c8 :: c9 :: c10 :: c11 :: (mo, oModel 0 stt tr (nI R) (nI C) (bI op) mki mel mto mio mwy (bI hwb) mme mhs mso msr mrs mce mcp) :: (mki, aI g 40 (upd kinds j 3)) :: (mel, aI g 40 (upd elders j (nI ee))) :: (mto, aI g 25 tof) :: (mio, aZ g 40 iof) :: (mwy, aI g 4096 wyf) :: (mme, aZ g 36 mef) :: (mhs, aZ g 3 hsf) :: (mso, aI g 3 sof) :: (msr, aI g 3 srf) :: (mrs, aI g 12 rsf) :: (mce, aI g 480 cef) :: (mcp, aI g 40 cpf) :: rest)) K0 14 rfl (by omega) (by first | decide | omega) dX5_twin_78 rfl ?_
              refine X_aload_n K0 1 dX5_twin_79 rfl rfl ?_
              refine X_iconst (v := 0) K0 dX5_twin_80 (by decide) ?_
              refine X_v (z := (bI false)) rfl ?_
              refine X_put (w' := (c0 :: c1 :: c2 :: c3 :: c4 :: c5 :: c6 :: c7 :: c8 :: c9 :: c10 :: c11 :: (mo, oModel 0 stt tr (nI R) (nI C) (bI op) mki mel mto mio mwy (bI false) mme mhs mso msr mrs mce mcp) :: (mki, aI g 40 (upd kinds j 3)) :: (mel, aI g 40 (upd elders j (nI ee))) :: (mto, aI g 25 tof) :: (mio, aZ g 40 iof) :: (mwy, aI g 4096 wyf) :: (mme, aZ g 36 mef) :: (mhs, aZ g 3 hsf) :: (mso, aI g 3 sof) :: (msr, aI g 3 srf) :: (mrs, aI g 12 rsf) :: (mce, aI g 480 cef) :: (mcp, aI g 40 cpf) :: rest)) K0 12 rfl rfl hin5 tyX5 tyX5_ok nmX5 11 (by decide) fl_RX5_61 rfl (tyX5_ok 11 (by decide)) rfl rfl (Nat.le_of_ble_eq_true rfl) dX5_twin_81 rfl ?_
              refine X_iload K0 0 dX5_twin_84 rfl ?_
              exact hr _ _ _ _ (Or.inr ⟨by rw [twD, if_neg (fun q => by rcases q with q | q | q; (rw [p_yy (bI_n0.mp h10) (bI_n0.mp h18)] at q; exact absurd q (by decide)); exact h23 q; exact q (by rw [hcl]; exact h33)), if_neg (by rw [bI_0.mp h43]; decide)], j, ee, hj, hee, rfl, rfl, rfl, by first | rfl | (cases ag; rfl; exact absurd h63 (by decide)) | (cases ag; exact absurd rfl h63; rfl)⟩) dX5_twin_86
            · obtain rfl : ag = true := bI_n0.mp h63
              refine X_iconst (v := 4) K0 dX5_twin_66 (by decide) ?_
              refine X_goto K0 71 dX5_twin_67 (by decide) ?_
              refine X_iastN (w' := (c0 :: c1 :: c2 :: c3 :: c4 :: c5 :: c6 :: c7 :: c8 :: c9 :: c10 :: c11 :: (mo, oModel 0 stt tr (nI R) (nI C) (bI op) mki mel mto mio mwy (bI hwb) mme mhs mso msr mrs mce mcp) :: (mki, aI g 40 (upd kinds j 4)) :: (mel, aI g 40 elders) :: (mto, aI g 25 tof) :: (mio, aZ g 40 iof) :: (mwy, aI g 4096 wyf) :: (mme, aZ g 36 mef) :: (mhs, aZ g 3 hsf) :: (mso, aI g 3 sof) :: (msr, aI g 3 srf) :: (mrs, aI g 12 rsf) :: (mce, aI g 480 cef) :: (mcp, aI g 40 cpf) :: rest)) K0 13 rfl (by omega) (by first | decide | omega) dX5_twin_71 rfl ?_
              refine X_aload_n K0 1 dX5_twin_72 rfl rfl ?_
              refine X_get K0 12 rfl rfl hin5 7 (by decide) fl_RX5_20 rfl dX5_twin_73 ?_
              refine X_iload_n K0 2 dX5_twin_76 rfl rfl ?_
              refine X_iload_n K0 3 dX5_twin_77 rfl rfl ?_
              refine X_iastN (w' := (c0 :: c1 :: c2 :: c3 :: c4 :: c5 :: c6 :: c7 :: c8 :: c9 :: c10 :: c11 :: (mo, oModel 0 stt tr (nI R) (nI C) (bI op) mki mel mto mio mwy (bI hwb) mme mhs mso msr mrs mce mcp) :: (mki, aI g 40 (upd kinds j 4)) :: (mel, aI g 40 (upd elders j (nI ee))) :: (mto, aI g 25 tof) :: (mio, aZ g 40 iof) :: (mwy, aI g 4096 wyf) :: (mme, aZ g 36 mef) :: (mhs, aZ g 3 hsf) :: (mso, aI g 3 sof) :: (msr, aI g 3 srf) :: (mrs, aI g 12 rsf) :: (mce, aI g 480 cef) :: (mcp, aI g 40 cpf) :: rest)) K0 14 rfl (by omega) (by first | decide | omega) dX5_twin_78 rfl ?_
              refine X_aload_n K0 1 dX5_twin_79 rfl rfl ?_
              refine X_iconst (v := 0) K0 dX5_twin_80 (by decide) ?_
              refine X_v (z := (bI false)) rfl ?_
              refine X_put (w' := (c0 :: c1 :: c2 :: c3 :: c4 :: c5 :: c6 :: c7 :: c8 :: c9 :: c10 :: c11 :: (mo, oModel 0 stt tr (nI R) (nI C) (bI op) mki mel mto mio mwy (bI false) mme mhs mso msr mrs mce mcp) :: (mki, aI g 40 (upd kinds j 4)) :: (mel, aI g 40 (upd elders j (nI ee))) :: (mto, aI g 25 tof) :: (mio, aZ g 40 iof) :: (mwy, aI g 4096 wyf) :: (mme, aZ g 36 mef) :: (mhs, aZ g 3 hsf) :: (mso, aI g 3 sof) :: (msr, aI g 3 srf) :: (mrs, aI g 12 rsf) :: (mce, aI g 480 cef) :: (mcp, aI g 40 cpf) :: rest)) K0 12 rfl rfl hin5 tyX5 tyX5_ok nmX5 11 (by decide) fl_RX5_61 rfl (tyX5_ok 11 (by decide)) rfl rfl (Nat.le_of_ble_eq_true rfl) dX5_twin_81 rfl ?_
              refine X_iload K0 0 dX5_twin_84 rfl ?_
              exact hr _ _ _ _ (Or.inr ⟨by rw [twD, if_neg (fun q => by rcases q with q | q | q; (rw [p_yy (bI_n0.mp h10) (bI_n0.mp h18)] at q; exact absurd q (by decide)); exact h23 q; exact q (by rw [hcl]; exact h33)), if_neg (by rw [bI_0.mp h43]; decide)], j, ee, hj, hee, rfl, rfl, rfl, by first | rfl | (cases ag; rfl; exact absurd h63 (by decide)) | (cases ag; exact absurd rfl h63; rfl)⟩) dX5_twin_86
          · refine X_bipush (v := (-2)) K0 dX5_twin_46 (by decide) ?_
            exact hr _ _ _ _ (Or.inl ⟨-2, by rw [twD, if_neg (fun q => by rcases q with q | q | q; (rw [p_yy (bI_n0.mp h10) (bI_n0.mp h18)] at q; exact absurd q (by decide)); exact h23 q; exact q (by rw [hcl]; exact h33)), if_pos (bI_n0.mp h43)], rfl, rfl⟩) dX5_twin_48
        · refine X_iconst (v := (-1)) K0 dX5_twin_36 (by decide) ?_
          exact hr _ _ _ _ (Or.inl ⟨-1, by rw [twD, if_pos (by first | exact Or.inr (Or.inl h23) | exact Or.inr (Or.inr (by rw [hcl]; exact h33)))], rfl, rfl⟩) dX5_twin_37

set_option maxRecDepth 20000 in
set_option maxHeartbeats 400000 in
theorem m_about (g : Gx) (c0 c1 c2 c3 c4 c5 c6 c7 c8 c9 c10 c11 : Nat × va_E) (mo mki mel mto mio mwy mme mhs mso msr mrs mce mcp : Nat) (tn stt : Int32) (tr : Int64) (R C : Nat) (op hwb : Bool) (kinds elders tof iof wyf mef hsf sof srf rsf cef cpf : Nat → Int32) (rest : va_W) (hR : 1 ≤ R ∧ R ≤ 5) (hC : 1 ≤ C ∧ C ≤ 5) (x what : Int32) : Con g yX5_about cX5_about 3 (some .int) 4 81 0 0 [.ref mo, .int x, .int what] (c0 :: c1 :: c2 :: c3 :: c4 :: c5 :: c6 :: c7 :: c8 :: c9 :: c10 :: c11 :: (mo, oModel tn stt tr (nI R) (nI C) (bI op) mki mel mto mio mwy (bI hwb) mme mhs mso msr mrs mce mcp) :: (mki, aI g 40 kinds) :: (mel, aI g 40 elders) :: (mto, aI g 25 tof) :: (mio, aZ g 40 iof) :: (mwy, aI g 4096 wyf) :: (mme, aZ g 36 mef) :: (mhs, aZ g 3 hsf) :: (mso, aI g 3 sof) :: (msr, aI g 3 srf) :: (mrs, aI g 12 rsf) :: (mce, aI g 480 cef) :: (mcp, aI g 40 cpf) :: rest) (Rs (some (.int (abM R C op kinds elders x what))) (c0 :: c1 :: c2 :: c3 :: c4 :: c5 :: c6 :: c7 :: c8 :: c9 :: c10 :: c11 :: (mo, oModel 0 stt tr (nI R) (nI C) (bI op) mki mel mto mio mwy (bI hwb) mme mhs mso msr mrs mce mcp) :: (mki, aI g 40 kinds) :: (mel, aI g 40 elders) :: (mto, aI g 25 tof) :: (mio, aZ g 40 iof) :: (mwy, aI g 4096 wyf) :: (mme, aZ g 36 mef) :: (mhs, aZ g 3 hsf) :: (mso, aI g 3 sof) :: (msr, aI g 3 srf) :: (mrs, aI g 12 rsf) :: (mce, aI g 480 cef) :: (mcp, aI g 40 cpf) :: rest)) := by
  have hTM := th_M (op := op) hR hC
  have hPM := pl_M hR hC
  have hRM := rd_M hR hC
  refine Con.ofI (by decide +kernel) (Nat.le_of_ble_eq_true rfl) (fun φ K0 hr => ?_)
  show X φ 0 0 (c0 :: c1 :: c2 :: c3 :: c4 :: c5 :: c6 :: c7 :: c8 :: c9 :: c10 :: c11 :: (mo, oModel tn stt tr (nI R) (nI C) (bI op) mki mel mto mio mwy (bI hwb) mme mhs mso msr mrs mce mcp) :: (mki, aI g 40 kinds) :: (mel, aI g 40 elders) :: (mto, aI g 25 tof) :: (mio, aZ g 40 iof) :: (mwy, aI g 4096 wyf) :: (mme, aZ g 36 mef) :: (mhs, aZ g 3 hsf) :: (mso, aI g 3 sof) :: (msr, aI g 3 srf) :: (mrs, aI g 12 rsf) :: (mce, aI g 480 cef) :: (mcp, aI g 40 cpf) :: rest) [(0, .ref mo), (1, .int x), (2, .int what)] 0 []
  refine X_aload_n K0 0 dX5_about_0 rfl rfl ?_
  refine X_iconst (v := 0) K0 dX5_about_1 (by decide) ?_
  refine X_put (w' := (c0 :: c1 :: c2 :: c3 :: c4 :: c5 :: c6 :: c7 :: c8 :: c9 :: c10 :: c11 :: (mo, oModel 0 stt tr (nI R) (nI C) (bI op) mki mel mto mio mwy (bI hwb) mme mhs mso msr mrs mce mcp) :: (mki, aI g 40 kinds) :: (mel, aI g 40 elders) :: (mto, aI g 25 tof) :: (mio, aZ g 40 iof) :: (mwy, aI g 4096 wyf) :: (mme, aZ g 36 mef) :: (mhs, aZ g 3 hsf) :: (mso, aI g 3 sof) :: (msr, aI g 3 srf) :: (mrs, aI g 12 rsf) :: (mce, aI g 480 cef) :: (mcp, aI g 40 cpf) :: rest)) K0 12 rfl rfl hin5 tyX5 tyX5_ok nmX5 0 (by decide) fl_RX5_58 rfl (tyX5_ok 0 (by decide)) rfl rfl (Nat.le_of_ble_eq_true rfl) dX5_about_2 rfl ?_
  refine X_aload_n K0 0 dX5_about_5 rfl rfl ?_
  refine X_iload_n K0 1 dX5_about_6 rfl rfl ?_
  refine X_callV (As := [.int x]) (rest := []) K0 12 (m_isThing g c0 c1 c2 c3 c4 c5 c6 c7 c8 c9 c10 c11 mo mki mel mto mio mwy mme mhs mso msr mrs mce mcp 0 stt tr R C op hwb kinds elders tof iof wyf mef hsf sof srf rsf cef cpf rest hR hC x) mi_X5_isThing rfl rfl rfl ml_RX5_88 rfl (Nat.le_of_ble_eq_true rfl) (by decide) ⟨Nat.le_of_ble_eq_true rfl, Nat.le_of_ble_eq_true rfl⟩ rfl rfl dX5_about_7 ?_
  intro v w' hr'; obtain ⟨rfl, rfl⟩ := hr'
  show X φ 0 0 (c0 :: c1 :: c2 :: c3 :: c4 :: c5 :: c6 :: c7 :: c8 :: c9 :: c10 :: c11 :: (mo, oModel 0 stt tr (nI R) (nI C) (bI op) mki mel mto mio mwy (bI hwb) mme mhs mso msr mrs mce mcp) :: (mki, aI g 40 kinds) :: (mel, aI g 40 elders) :: (mto, aI g 25 tof) :: (mio, aZ g 40 iof) :: (mwy, aI g 4096 wyf) :: (mme, aZ g 36 mef) :: (mhs, aZ g 3 hsf) :: (mso, aI g 3 sof) :: (msr, aI g 3 srf) :: (mrs, aI g 12 rsf) :: (mce, aI g 480 cef) :: (mcp, aI g 40 cpf) :: rest) [(0, .ref mo), (1, .int x), (2, .int what)] 10 [.int (bI (wiB x 0 ((nI (thM R C op)) - 1)))]
  refine X_if_eq K0 22 dX5_about_10 (by decide) (fun h10 => ?_) (fun h10 => ?_)
  · refine X_iconst (v := (-1)) K0 dX5_about_22 (by decide) ?_
    exact hr _ _ _ _ ⟨by rw [abM, if_pos (by first | exact p_n (bI_0.mp h10) | exact p_yn (bI_n0.mp h10) (bI_0.mp h19))], rfl⟩ dX5_about_23
  · refine X_iload_n K0 2 dX5_about_13 rfl rfl ?_
    refine X_iconst (v := 0) K0 dX5_about_14 (by decide) ?_
    refine X_iconst (v := 4) K0 dX5_about_15 (by decide) ?_
    refine X_callS (As := [.int what, .int 0, .int 4]) (rest := []) K0 (c_in g (c0 :: c1 :: c2 :: c3 :: c4 :: c5 :: c6 :: c7 :: c8 :: c9 :: c10 :: c11 :: (mo, oModel 0 stt tr (nI R) (nI C) (bI op) mki mel mto mio mwy (bI hwb) mme mhs mso msr mrs mce mcp) :: (mki, aI g 40 kinds) :: (mel, aI g 40 elders) :: (mto, aI g 25 tof) :: (mio, aZ g 40 iof) :: (mwy, aI g 4096 wyf) :: (mme, aZ g 36 mef) :: (mhs, aZ g 3 hsf) :: (mso, aI g 3 sof) :: (msr, aI g 3 srf) :: (mrs, aI g 12 rsf) :: (mce, aI g 480 cef) :: (mcp, aI g 40 cpf) :: rest) what 0 4) ms_X5_in rfl ml_RX5_81 rfl (Nat.le_of_ble_eq_true rfl) (by decide) ⟨Nat.le_of_ble_eq_true rfl, Nat.le_of_ble_eq_true rfl⟩ rfl rfl dX5_about_16 ?_
    intro v w' hr'; obtain ⟨rfl, rfl⟩ := hr'
    show X φ 0 0 (c0 :: c1 :: c2 :: c3 :: c4 :: c5 :: c6 :: c7 :: c8 :: c9 :: c10 :: c11 :: (mo, oModel 0 stt tr (nI R) (nI C) (bI op) mki mel mto mio mwy (bI hwb) mme mhs mso msr mrs mce mcp) :: (mki, aI g 40 kinds) :: (mel, aI g 40 elders) :: (mto, aI g 25 tof) :: (mio, aZ g 40 iof) :: (mwy, aI g 4096 wyf) :: (mme, aZ g 36 mef) :: (mhs, aZ g 3 hsf) :: (mso, aI g 3 sof) :: (msr, aI g 3 srf) :: (mrs, aI g 12 rsf) :: (mce, aI g 480 cef) :: (mcp, aI g 40 cpf) :: rest) [(0, .ref mo), (1, .int x), (2, .int what)] 19 [.int (bI (wiB what 0 4))]
    refine X_if_ne K0 24 dX5_about_19 (by decide) (fun h19 => ?_) (fun h19 => ?_)
    · obtain ⟨j, hj, rfl⟩ := wi_of (bI_n0.mp h10) (by omega)
      refine X_iload_n K0 2 dX5_about_24 rfl rfl ?_
      by_cases hs0 : what = 0
      · subst hs0
        refine X_tableIn K0 56 dX5_about_25 (by decide) (by decide) (by rfl) (by decide) ?_
        refine X_aload_n K0 0 dX5_about_56 rfl rfl ?_
        refine X_get K0 12 rfl rfl hin5 6 (by decide) fl_RX5_16 rfl dX5_about_57 ?_
        refine X_iload_n K0 1 dX5_about_60 rfl rfl ?_
        refine X_ialdN K0 13 rfl (by omega) (by first | decide | omega) dX5_about_61 ?_
        exact hr _ _ _ _ ⟨by rw [abM_ok (bI_n0.mp h10) (bI_n0.mp h19) (by omega)]; rfl, rfl⟩ dX5_about_62
      by_cases hs1 : what = 1
      · subst hs1
        refine X_tableIn K0 63 dX5_about_25 (by decide) (by decide) (by rfl) (by decide) ?_
        refine X_aload_n K0 0 dX5_about_63 rfl rfl ?_
        refine X_get K0 12 rfl rfl hin5 7 (by decide) fl_RX5_20 rfl dX5_about_64 ?_
        refine X_iload_n K0 1 dX5_about_67 rfl rfl ?_
        refine X_ialdN K0 14 rfl (by omega) (by first | decide | omega) dX5_about_68 ?_
        exact hr _ _ _ _ ⟨by rw [abM_ok (bI_n0.mp h10) (bI_n0.mp h19) (by omega)]; rfl, rfl⟩ dX5_about_69
      by_cases hs2 : what = 2
      · subst hs2
        refine X_tableIn K0 70 dX5_about_25 (by decide) (by decide) (by rfl) (by decide) ?_
        refine X_aload_n K0 0 dX5_about_70 rfl rfl ?_
        refine X_get K0 12 rfl rfl hin5 6 (by decide) fl_RX5_16 rfl dX5_about_71 ?_
        refine X_iload_n K0 1 dX5_about_74 rfl rfl ?_
        refine X_ialdN K0 13 rfl (by omega) (by first | decide | omega) dX5_about_75 ?_
        refine X_iconst (v := 2) K0 dX5_about_76 (by decide) ?_
        refine X_icmp_ne K0 88 dX5_about_77 (by decide) (fun h77 => ?_) (fun h77 => ?_)
        · refine X_bipush (v := (-9)) K0 dX5_about_88 (by decide) ?_
          exact hr _ _ _ _ ⟨by first | (rw [abM_ok (bI_n0.mp h10) (bI_n0.mp h19) (by omega), if_neg (by decide), if_neg (by decide), if_pos rfl, if_pos h77]) | (rw [abM_ok (bI_n0.mp h10) (bI_n0.mp h19) (by omega), if_neg (by decide), if_neg (by decide), if_pos rfl, if_neg h77]), rfl⟩ dX5_about_90
        · refine X_aload_n K0 0 dX5_about_80 rfl rfl ?_
          refine X_iload_n K0 1 dX5_about_81 rfl rfl ?_
          refine X_callV (As := [.int (nI j)]) (rest := []) K0 12 (m_numberOf g c0 c1 c2 c3 c4 c5 c6 c7 c8 c9 c10 c11 mo mki mel mto mio mwy mme mhs mso msr mrs mce mcp 0 stt tr R C op hwb kinds elders tof iof wyf mef hsf sof srf rsf cef cpf rest j (by omega)) mi_X5_numberOf rfl rfl rfl ml_RX5_99 rfl (Nat.le_of_ble_eq_true rfl) (by decide) ⟨Nat.le_of_ble_eq_true rfl, Nat.le_of_ble_eq_true rfl⟩ rfl rfl dX5_about_82 ?_
          intro v w' hr'; obtain ⟨rfl, rfl⟩ := hr'
          show X φ 0 0 (c0 :: c1 :: c2 :: c3 :: c4 :: c5 :: c6 :: c7 :: c8 :: c9 :: c10 :: c11 :: (mo, oModel 0 stt tr (nI R) (nI C) (bI op) mki mel mto mio mwy (bI hwb) mme mhs mso msr mrs mce mcp) :: (mki, aI g 40 kinds) :: (mel, aI g 40 elders) :: (mto, aI g 25 tof) :: (mio, aZ g 40 iof) :: (mwy, aI g 4096 wyf) :: (mme, aZ g 36 mef) :: (mhs, aZ g 3 hsf) :: (mso, aI g 3 sof) :: (msr, aI g 3 srf) :: (mrs, aI g 12 rsf) :: (mce, aI g 480 cef) :: (mcp, aI g 40 cpf) :: rest) [(0, .ref mo), (1, .int (nI j)), (2, .int 2)] 85 [.int (nI (ctF kinds j))]
          refine X_goto K0 90 dX5_about_85 (by decide) ?_
          exact hr _ _ _ _ ⟨by first | (rw [abM_ok (bI_n0.mp h10) (bI_n0.mp h19) (by omega), if_neg (by decide), if_neg (by decide), if_pos rfl, if_pos h77]) | (rw [abM_ok (bI_n0.mp h10) (bI_n0.mp h19) (by omega), if_neg (by decide), if_neg (by decide), if_pos rfl, if_neg h77]), rfl⟩ dX5_about_90
      by_cases hs3 : what = 3
      · subst hs3
        refine X_tableIn K0 91 dX5_about_25 (by decide) (by decide) (by rfl) (by decide) ?_
        refine X_aload_n K0 0 dX5_about_91 rfl rfl ?_
        refine X_get K0 12 rfl rfl hin5 5 (by decide) fl_RX5_69 rfl dX5_about_92 ?_
        refine X_if_eq K0 102 dX5_about_95 (by decide) (fun h95 => ?_) (fun h95 => ?_)
        · refine X_aload_n K0 0 dX5_about_102 rfl rfl ?_
          refine X_iload_n K0 1 dX5_about_103 rfl rfl ?_
          refine X_iconst (v := 0) K0 dX5_about_104 (by decide) ?_
          refine X_callV (As := [.int (nI j), .int 0]) (rest := []) K0 12 (m_end g c0 c1 c2 c3 c4 c5 c6 c7 c8 c9 c10 c11 mo mki mel mto mio mwy mme mhs mso msr mrs mce mcp 0 stt tr R C op hwb kinds elders tof iof wyf mef hsf sof srf rsf cef cpf rest hR hC j (by omega) false) mi_X5_end rfl rfl rfl ml_RX5_103 rfl (Nat.le_of_ble_eq_true rfl) (by decide) ⟨Nat.le_of_ble_eq_true rfl, Nat.le_of_ble_eq_true rfl⟩ rfl rfl dX5_about_105 ?_
          intro v w' hr'; obtain ⟨rfl, rfl⟩ := hr'
          show X φ 0 0 (c0 :: c1 :: c2 :: c3 :: c4 :: c5 :: c6 :: c7 :: c8 :: c9 :: c10 :: c11 :: (mo, oModel 0 stt tr (nI R) (nI C) (bI op) mki mel mto mio mwy (bI hwb) mme mhs mso msr mrs mce mcp) :: (mki, aI g 40 kinds) :: (mel, aI g 40 elders) :: (mto, aI g 25 tof) :: (mio, aZ g 40 iof) :: (mwy, aI g 4096 wyf) :: (mme, aZ g 36 mef) :: (mhs, aZ g 3 hsf) :: (mso, aI g 3 sof) :: (msr, aI g 3 srf) :: (mrs, aI g 12 rsf) :: (mce, aI g 480 cef) :: (mcp, aI g 40 cpf) :: rest) [(0, .ref mo), (1, .int (nI j)), (2, .int 3)] 108 [.int (nI (enM R C j false))]
          exact hr _ _ _ _ ⟨by first | (rw [abM_ok (bI_n0.mp h10) (bI_n0.mp h19) (by omega), if_neg (by decide), if_neg (by decide), if_neg (by decide), if_pos rfl, if_pos (bI_n0.mp h95)]) | (rw [abM_ok (bI_n0.mp h10) (bI_n0.mp h19) (by omega), if_neg (by decide), if_neg (by decide), if_neg (by decide), if_pos rfl, ite_b0 h95]), rfl⟩ dX5_about_108
        · refine X_iload_n K0 1 dX5_about_98 rfl rfl ?_
          refine X_goto K0 108 dX5_about_99 (by decide) ?_
          exact hr _ _ _ _ ⟨by first | (rw [abM_ok (bI_n0.mp h10) (bI_n0.mp h19) (by omega), if_neg (by decide), if_neg (by decide), if_neg (by decide), if_pos rfl, if_pos (bI_n0.mp h95)]) | (rw [abM_ok (bI_n0.mp h10) (bI_n0.mp h19) (by omega), if_neg (by decide), if_neg (by decide), if_neg (by decide), if_pos rfl, ite_b0 h95]), rfl⟩ dX5_about_108
      refine X_tableOut K0 109 dX5_about_25 (out4 hs0 hs1 hs2 hs3) (by decide) ?_
      refine X_aload_n K0 0 dX5_about_109 rfl rfl ?_
      refine X_get K0 12 rfl rfl hin5 5 (by decide) fl_RX5_69 rfl dX5_about_110 ?_
      refine X_if_eq K0 120 dX5_about_113 (by decide) (fun h113 => ?_) (fun h113 => ?_)
      · refine X_aload_n K0 0 dX5_about_120 rfl rfl ?_
        refine X_iload_n K0 1 dX5_about_121 rfl rfl ?_
        refine X_iconst (v := 1) K0 dX5_about_122 (by decide) ?_
        refine X_callV (As := [.int (nI j), .int 1]) (rest := []) K0 12 (m_end g c0 c1 c2 c3 c4 c5 c6 c7 c8 c9 c10 c11 mo mki mel mto mio mwy mme mhs mso msr mrs mce mcp 0 stt tr R C op hwb kinds elders tof iof wyf mef hsf sof srf rsf cef cpf rest hR hC j (by omega) true) mi_X5_end rfl rfl rfl ml_RX5_103 rfl (Nat.le_of_ble_eq_true rfl) (by decide) ⟨Nat.le_of_ble_eq_true rfl, Nat.le_of_ble_eq_true rfl⟩ rfl rfl dX5_about_123 ?_
        intro v w' hr'; obtain ⟨rfl, rfl⟩ := hr'
        show X φ 0 0 (c0 :: c1 :: c2 :: c3 :: c4 :: c5 :: c6 :: c7 :: c8 :: c9 :: c10 :: c11 :: (mo, oModel 0 stt tr (nI R) (nI C) (bI op) mki mel mto mio mwy (bI hwb) mme mhs mso msr mrs mce mcp) :: (mki, aI g 40 kinds) :: (mel, aI g 40 elders) :: (mto, aI g 25 tof) :: (mio, aZ g 40 iof) :: (mwy, aI g 4096 wyf) :: (mme, aZ g 36 mef) :: (mhs, aZ g 3 hsf) :: (mso, aI g 3 sof) :: (msr, aI g 3 srf) :: (mrs, aI g 12 rsf) :: (mce, aI g 480 cef) :: (mcp, aI g 40 cpf) :: rest) [(0, .ref mo), (1, .int (nI j)), (2, .int what)] 126 [.int (nI (enM R C j true))]
        exact hr _ _ _ _ ⟨by first | (rw [abM_ok (bI_n0.mp h10) (bI_n0.mp h19) (by omega), if_neg hs0, if_neg hs1, if_neg hs2, if_neg hs3, if_pos (bI_n0.mp h113)]) | (rw [abM_ok (bI_n0.mp h10) (bI_n0.mp h19) (by omega), if_neg hs0, if_neg hs1, if_neg hs2, if_neg hs3, ite_b0 h113]), rfl⟩ dX5_about_126
      · refine X_iload_n K0 1 dX5_about_116 rfl rfl ?_
        refine X_goto K0 126 dX5_about_117 (by decide) ?_
        exact hr _ _ _ _ ⟨by first | (rw [abM_ok (bI_n0.mp h10) (bI_n0.mp h19) (by omega), if_neg hs0, if_neg hs1, if_neg hs2, if_neg hs3, if_pos (bI_n0.mp h113)]) | (rw [abM_ok (bI_n0.mp h10) (bI_n0.mp h19) (by omega), if_neg hs0, if_neg hs1, if_neg hs2, if_neg hs3, ite_b0 h113]), rfl⟩ dX5_about_126
    · refine X_iconst (v := (-1)) K0 dX5_about_22 (by decide) ?_
      exact hr _ _ _ _ ⟨by rw [abM, if_pos (by first | exact p_n (bI_0.mp h10) | exact p_yn (bI_n0.mp h10) (bI_0.mp h19))], rfl⟩ dX5_about_23

set_option maxRecDepth 20000 in
set_option maxHeartbeats 400000 in
theorem m_told (g : Gx) (c0 c1 c2 c3 c4 c5 c6 c7 c8 c9 c10 c11 : Nat × va_E) (mo mki mel mto mio mwy mme mhs mso msr mrs mce mcp : Nat) (tn stt : Int32) (tr : Int64) (R C : Nat) (op hwb : Bool) (kinds elders tof iof wyf mef hsf sof srf rsf cef cpf : Nat → Int32) (rest : va_W) (hR : 1 ≤ R ∧ R ≤ 5) (hC : 1 ≤ C ∧ C ≤ 5) (what : Int32) : Con g yX5_told cX5_told 4 (some .int) 4 82 0 0 [.ref mo, .int what] (c0 :: c1 :: c2 :: c3 :: c4 :: c5 :: c6 :: c7 :: c8 :: c9 :: c10 :: c11 :: (mo, oModel tn stt tr (nI R) (nI C) (bI op) mki mel mto mio mwy (bI hwb) mme mhs mso msr mrs mce mcp) :: (mki, aI g 40 kinds) :: (mel, aI g 40 elders) :: (mto, aI g 25 tof) :: (mio, aZ g 40 iof) :: (mwy, aI g 4096 wyf) :: (mme, aZ g 36 mef) :: (mhs, aZ g 3 hsf) :: (mso, aI g 3 sof) :: (msr, aI g 3 srf) :: (mrs, aI g 12 rsf) :: (mce, aI g 480 cef) :: (mcp, aI g 40 cpf) :: rest) (Rs (some (.int (toM R C op kinds what))) (c0 :: c1 :: c2 :: c3 :: c4 :: c5 :: c6 :: c7 :: c8 :: c9 :: c10 :: c11 :: (mo, oModel 0 stt tr (nI R) (nI C) (bI op) mki mel mto mio mwy (bI hwb) mme mhs mso msr mrs mce mcp) :: (mki, aI g 40 kinds) :: (mel, aI g 40 elders) :: (mto, aI g 25 tof) :: (mio, aZ g 40 iof) :: (mwy, aI g 4096 wyf) :: (mme, aZ g 36 mef) :: (mhs, aZ g 3 hsf) :: (mso, aI g 3 sof) :: (msr, aI g 3 srf) :: (mrs, aI g 12 rsf) :: (mce, aI g 480 cef) :: (mcp, aI g 40 cpf) :: rest)) := by
  have hTM := th_M (op := op) hR hC
  have hPM := pl_M hR hC
  have hRM := rd_M hR hC
  refine Con.ofI (by decide +kernel) (Nat.le_of_ble_eq_true rfl) (fun φ K0 hr => ?_)
  show X φ 0 0 (c0 :: c1 :: c2 :: c3 :: c4 :: c5 :: c6 :: c7 :: c8 :: c9 :: c10 :: c11 :: (mo, oModel tn stt tr (nI R) (nI C) (bI op) mki mel mto mio mwy (bI hwb) mme mhs mso msr mrs mce mcp) :: (mki, aI g 40 kinds) :: (mel, aI g 40 elders) :: (mto, aI g 25 tof) :: (mio, aZ g 40 iof) :: (mwy, aI g 4096 wyf) :: (mme, aZ g 36 mef) :: (mhs, aZ g 3 hsf) :: (mso, aI g 3 sof) :: (msr, aI g 3 srf) :: (mrs, aI g 12 rsf) :: (mce, aI g 480 cef) :: (mcp, aI g 40 cpf) :: rest) [(0, .ref mo), (1, .int what)] 0 []
  refine X_aload_n K0 0 dX5_told_0 rfl rfl ?_
  refine X_iconst (v := 0) K0 dX5_told_1 (by decide) ?_
  refine X_put (w' := (c0 :: c1 :: c2 :: c3 :: c4 :: c5 :: c6 :: c7 :: c8 :: c9 :: c10 :: c11 :: (mo, oModel 0 stt tr (nI R) (nI C) (bI op) mki mel mto mio mwy (bI hwb) mme mhs mso msr mrs mce mcp) :: (mki, aI g 40 kinds) :: (mel, aI g 40 elders) :: (mto, aI g 25 tof) :: (mio, aZ g 40 iof) :: (mwy, aI g 4096 wyf) :: (mme, aZ g 36 mef) :: (mhs, aZ g 3 hsf) :: (mso, aI g 3 sof) :: (msr, aI g 3 srf) :: (mrs, aI g 12 rsf) :: (mce, aI g 480 cef) :: (mcp, aI g 40 cpf) :: rest)) K0 12 rfl rfl hin5 tyX5 tyX5_ok nmX5 0 (by decide) fl_RX5_58 rfl (tyX5_ok 0 (by decide)) rfl rfl (Nat.le_of_ble_eq_true rfl) dX5_told_2 rfl ?_
  refine X_iconst (v := 0) K0 dX5_told_5 (by decide) ?_
  refine X_istore_n (L' := [(2, .int 0), (0, .ref mo), (1, .int what)]) K0 dX5_told_6 rfl (by decide) rfl ?_
  refine X_iconst (v := 0) K0 dX5_told_7 (by decide) ?_
  refine X_istore_n (L' := [(3, .int 0), (2, .int 0), (0, .ref mo), (1, .int what)]) K0 dX5_told_8 rfl (by decide) rfl ?_
  refine X.sub [2, 3, 1, 0] (L' := [(0, .ref mo), (1, .int what), (2, .int 0), (3, .int 0)]) rfl ?_
  have LOOP : ∀ (dd ii : Nat), ii + dd = (thM R C op) → X φ 0 0 (c0 :: c1 :: c2 :: c3 :: c4 :: c5 :: c6 :: c7 :: c8 :: c9 :: c10 :: c11 :: (mo, oModel 0 stt tr (nI R) (nI C) (bI op) mki mel mto mio mwy (bI hwb) mme mhs mso msr mrs mce mcp) :: (mki, aI g 40 kinds) :: (mel, aI g 40 elders) :: (mto, aI g 25 tof) :: (mio, aZ g 40 iof) :: (mwy, aI g 4096 wyf) :: (mme, aZ g 36 mef) :: (mhs, aZ g 3 hsf) :: (mso, aI g 3 sof) :: (msr, aI g 3 srf) :: (mrs, aI g 12 rsf) :: (mce, aI g 480 cef) :: (mcp, aI g 40 cpf) :: rest) [(0, .ref mo), (1, .int what), (2, .int (twM kinds ii)), (3, .int (nI ii))] 9 [] := by
    intro dd
    induction dd with
    | zero =>
      intro ii hii 
      have hii2 : (thM R C op) = ii := by omega
      subst hii2
      refine X_iload_n K0 3 dX5_told_9 rfl rfl ?_
      refine X_aload_n K0 0 dX5_told_10 rfl rfl ?_
      refine X_callV (As := []) (rest := [.int (nI (thM R C op))]) K0 12 (m_things g c0 c1 c2 c3 c4 c5 c6 c7 c8 c9 c10 c11 mo mki mel mto mio mwy mme mhs mso msr mrs mce mcp 0 stt tr R C op hwb kinds elders tof iof wyf mef hsf sof srf rsf cef cpf rest hR hC ) mi_X5_things rfl rfl rfl ml_RX5_78 rfl (Nat.le_of_ble_eq_true rfl) (by decide) ⟨Nat.le_of_ble_eq_true rfl, Nat.le_of_ble_eq_true rfl⟩ rfl rfl dX5_told_11 ?_
      intro v w' hr'; obtain ⟨rfl, rfl⟩ := hr'
      show X φ 0 0 (c0 :: c1 :: c2 :: c3 :: c4 :: c5 :: c6 :: c7 :: c8 :: c9 :: c10 :: c11 :: (mo, oModel 0 stt tr (nI R) (nI C) (bI op) mki mel mto mio mwy (bI hwb) mme mhs mso msr mrs mce mcp) :: (mki, aI g 40 kinds) :: (mel, aI g 40 elders) :: (mto, aI g 25 tof) :: (mio, aZ g 40 iof) :: (mwy, aI g 4096 wyf) :: (mme, aZ g 36 mef) :: (mhs, aZ g 3 hsf) :: (mso, aI g 3 sof) :: (msr, aI g 3 srf) :: (mrs, aI g 12 rsf) :: (mce, aI g 480 cef) :: (mcp, aI g 40 cpf) :: rest) [(0, .ref mo), (1, .int what), (2, .int (twM kinds (thM R C op))), (3, .int (nI (thM R C op)))] 14 [.int (nI (thM R C op)), .int (nI (thM R C op))]
      refine X_icmp_ge K0 41 dX5_told_14 (by decide) (fun h14 => ?_) (fun h14 => ?_)
      · refine X_iload_n K0 1 dX5_told_41 rfl rfl ?_
        by_cases hs0 : what = 0
        · subst hs0
          refine X_tableIn K0 80 dX5_told_42 (by decide) (by decide) (by rfl) (by decide) ?_
          refine X_aload_n K0 0 dX5_told_80 rfl rfl ?_
          refine X_get K0 12 rfl rfl hin5 3 (by decide) fl_RX5_7 rfl dX5_told_81 ?_
          exact hr _ _ _ _ ⟨rfl, rfl⟩ dX5_told_84
        by_cases hs1 : what = 1
        · subst hs1
          refine X_tableIn K0 85 dX5_told_42 (by decide) (by decide) (by rfl) (by decide) ?_
          refine X_aload_n K0 0 dX5_told_85 rfl rfl ?_
          refine X_get K0 12 rfl rfl hin5 4 (by decide) fl_RX5_13 rfl dX5_told_86 ?_
          exact hr _ _ _ _ ⟨rfl, rfl⟩ dX5_told_89
        by_cases hs2 : what = 2
        · subst hs2
          refine X_tableIn K0 90 dX5_told_42 (by decide) (by decide) (by rfl) (by decide) ?_
          refine X_aload_n K0 0 dX5_told_90 rfl rfl ?_
          refine X_get K0 12 rfl rfl hin5 5 (by decide) fl_RX5_69 rfl dX5_told_91 ?_
          refine X_if_eq K0 101 dX5_told_94 (by decide) (fun h94 => ?_) (fun h94 => ?_)
          · refine X_iconst (v := 0) K0 dX5_told_101 (by decide) ?_
            exact hr _ _ _ _ ⟨by first | (rw [bI_n0.mp h94]; rfl) | (rw [bI_0.mp h94]; rfl), rfl⟩ dX5_told_102
          · refine X_iconst (v := 1) K0 dX5_told_97 (by decide) ?_
            refine X_goto K0 102 dX5_told_98 (by decide) ?_
            exact hr _ _ _ _ ⟨by first | (rw [bI_n0.mp h94]; rfl) | (rw [bI_0.mp h94]; rfl), rfl⟩ dX5_told_102
        by_cases hs3 : what = 3
        · subst hs3
          refine X_tableIn K0 103 dX5_told_42 (by decide) (by decide) (by rfl) (by decide) ?_
          refine X_aload_n K0 0 dX5_told_103 rfl rfl ?_
          refine X_callV (As := []) (rest := []) K0 12 (m_things g c0 c1 c2 c3 c4 c5 c6 c7 c8 c9 c10 c11 mo mki mel mto mio mwy mme mhs mso msr mrs mce mcp 0 stt tr R C op hwb kinds elders tof iof wyf mef hsf sof srf rsf cef cpf rest hR hC ) mi_X5_things rfl rfl rfl ml_RX5_78 rfl (Nat.le_of_ble_eq_true rfl) (by decide) ⟨Nat.le_of_ble_eq_true rfl, Nat.le_of_ble_eq_true rfl⟩ rfl rfl dX5_told_104 ?_
          intro v w' hr'; obtain ⟨rfl, rfl⟩ := hr'
          show X φ 0 0 (c0 :: c1 :: c2 :: c3 :: c4 :: c5 :: c6 :: c7 :: c8 :: c9 :: c10 :: c11 :: (mo, oModel 0 stt tr (nI R) (nI C) (bI op) mki mel mto mio mwy (bI hwb) mme mhs mso msr mrs mce mcp) :: (mki, aI g 40 kinds) :: (mel, aI g 40 elders) :: (mto, aI g 25 tof) :: (mio, aZ g 40 iof) :: (mwy, aI g 4096 wyf) :: (mme, aZ g 36 mef) :: (mhs, aZ g 3 hsf) :: (mso, aI g 3 sof) :: (msr, aI g 3 srf) :: (mrs, aI g 12 rsf) :: (mce, aI g 480 cef) :: (mcp, aI g 40 cpf) :: rest) [(0, .ref mo), (1, .int 3), (2, .int (twM kinds (thM R C op))), (3, .int (nI (thM R C op)))] 107 [.int (nI (thM R C op))]
          exact hr _ _ _ _ ⟨rfl, rfl⟩ dX5_told_107
        by_cases hs4 : what = 4
        · subst hs4
          refine X_tableIn K0 108 dX5_told_42 (by decide) (by decide) (by rfl) (by decide) ?_
          refine X_aload_n K0 0 dX5_told_108 rfl rfl ?_
          refine X_callV (As := []) (rest := []) K0 12 (m_chances g c0 c1 c2 c3 c4 c5 c6 c7 c8 c9 c10 c11 mo mki mel mto mio mwy mme mhs mso msr mrs mce mcp 0 stt tr R C op hwb kinds elders tof iof wyf mef hsf sof srf rsf cef cpf rest hR hC ) mi_X5_chances rfl rfl rfl ml_RX5_85 rfl (Nat.le_of_ble_eq_true rfl) (by decide) ⟨Nat.le_of_ble_eq_true rfl, Nat.le_of_ble_eq_true rfl⟩ rfl rfl dX5_told_109 ?_
          intro v w' hr'; obtain ⟨rfl, rfl⟩ := hr'
          show X φ 0 0 (c0 :: c1 :: c2 :: c3 :: c4 :: c5 :: c6 :: c7 :: c8 :: c9 :: c10 :: c11 :: (mo, oModel 0 stt tr (nI R) (nI C) (bI op) mki mel mto mio mwy (bI hwb) mme mhs mso msr mrs mce mcp) :: (mki, aI g 40 kinds) :: (mel, aI g 40 elders) :: (mto, aI g 25 tof) :: (mio, aZ g 40 iof) :: (mwy, aI g 4096 wyf) :: (mme, aZ g 36 mef) :: (mhs, aZ g 3 hsf) :: (mso, aI g 3 sof) :: (msr, aI g 3 srf) :: (mrs, aI g 12 rsf) :: (mce, aI g 480 cef) :: (mcp, aI g 40 cpf) :: rest) [(0, .ref mo), (1, .int 4), (2, .int (twM kinds (thM R C op))), (3, .int (nI (thM R C op)))] 112 [.int (nI (ctF kinds (thM R C op)))]
          exact hr _ _ _ _ ⟨rfl, rfl⟩ dX5_told_112
        by_cases hs5 : what = 5
        · subst hs5
          refine X_tableIn K0 113 dX5_told_42 (by decide) (by decide) (by rfl) (by decide) ?_
          refine X_iload_n K0 2 dX5_told_113 rfl rfl ?_
          exact hr _ _ _ _ ⟨rfl, rfl⟩ dX5_told_114
        refine X_tableOut K0 115 dX5_told_42 (out6 hs0 hs1 hs2 hs3 hs4 hs5) (by decide) ?_
        refine X_iconst (v := (-1)) K0 dX5_told_115 (by decide) ?_
        exact hr _ _ _ _ ⟨by rw [toM, if_neg hs0, if_neg hs1, if_neg hs2, if_neg hs3, if_neg hs4, if_neg hs5], rfl⟩ dX5_told_116
      · exact absurd (nI_le (Nat.le_refl _) (by omega)) h14
    | succ dd ih =>
      intro ii hii 
      have hlt : ii < (thM R C op) := by omega
      refine X_iload_n K0 3 dX5_told_9 rfl rfl ?_
      refine X_aload_n K0 0 dX5_told_10 rfl rfl ?_
      refine X_callV (As := []) (rest := [.int (nI ii)]) K0 12 (m_things g c0 c1 c2 c3 c4 c5 c6 c7 c8 c9 c10 c11 mo mki mel mto mio mwy mme mhs mso msr mrs mce mcp 0 stt tr R C op hwb kinds elders tof iof wyf mef hsf sof srf rsf cef cpf rest hR hC ) mi_X5_things rfl rfl rfl ml_RX5_78 rfl (Nat.le_of_ble_eq_true rfl) (by decide) ⟨Nat.le_of_ble_eq_true rfl, Nat.le_of_ble_eq_true rfl⟩ rfl rfl dX5_told_11 ?_
      intro v w' hr'; obtain ⟨rfl, rfl⟩ := hr'
      show X φ 0 0 (c0 :: c1 :: c2 :: c3 :: c4 :: c5 :: c6 :: c7 :: c8 :: c9 :: c10 :: c11 :: (mo, oModel 0 stt tr (nI R) (nI C) (bI op) mki mel mto mio mwy (bI hwb) mme mhs mso msr mrs mce mcp) :: (mki, aI g 40 kinds) :: (mel, aI g 40 elders) :: (mto, aI g 25 tof) :: (mio, aZ g 40 iof) :: (mwy, aI g 4096 wyf) :: (mme, aZ g 36 mef) :: (mhs, aZ g 3 hsf) :: (mso, aI g 3 sof) :: (msr, aI g 3 srf) :: (mrs, aI g 12 rsf) :: (mce, aI g 480 cef) :: (mcp, aI g 40 cpf) :: rest) [(0, .ref mo), (1, .int what), (2, .int (twM kinds ii)), (3, .int (nI ii))] 14 [.int (nI (thM R C op)), .int (nI ii)]
      refine X_icmp_ge K0 41 dX5_told_14 (by decide) (fun h14 => ?_) (fun h14 => ?_)
      · exact absurd h14 (nI_ge hlt (by omega))
      · refine X_iload_n K0 2 dX5_told_17 rfl rfl ?_
        refine X_aload_n K0 0 dX5_told_18 rfl rfl ?_
        refine X_get K0 12 rfl rfl hin5 6 (by decide) fl_RX5_16 rfl dX5_told_19 ?_
        refine X_iload_n K0 3 dX5_told_22 rfl rfl ?_
        refine X_ialdN K0 13 rfl (by omega) (by first | decide | omega) dX5_told_23 ?_
        refine X_iconst (v := 3) K0 dX5_told_24 (by decide) ?_
        refine X_icmp_lt K0 32 dX5_told_25 (by decide) (fun h25 => ?_) (fun h25 => ?_)
        · refine X_iconst (v := 0) K0 dX5_told_32 (by decide) ?_
          refine X_iadd K0 dX5_told_33 ?_
          refine X_istore_n (L' := [(2, .int ((twM kinds ii) + 0)), (0, .ref mo), (1, .int what), (3, .int (nI ii))]) K0 dX5_told_34 rfl (by decide) rfl ?_
          refine X_iinc (v := ((nI ii) + 1)) (L' := [(3, .int ((nI ii) + 1)), (2, .int ((twM kinds ii) + 0)), (0, .ref mo), (1, .int what)]) K0 3 dX5_told_35 rfl (by first | rfl | decide) (by decide) rfl ?_
          refine X_goto K0 9 dX5_told_38 (by decide) ?_
          refine X.sub [2, 3, 1, 0] (L' := [(0, .ref mo), (1, .int what), (2, .int ((twM kinds ii) + 0)), (3, .int ((nI ii) + 1))]) rfl ?_
          exact X_eq rfl (by first | (rw [nI_succ, tw_y h25]) | (rw [nI_succ, tw_n h25])) rfl (ih (ii + 1) (by omega))
        · refine X_iconst (v := 1) K0 dX5_told_28 (by decide) ?_
          refine X_goto K0 33 dX5_told_29 (by decide) ?_
          refine X_iadd K0 dX5_told_33 ?_
          refine X_istore_n (L' := [(2, .int ((twM kinds ii) + 1)), (0, .ref mo), (1, .int what), (3, .int (nI ii))]) K0 dX5_told_34 rfl (by decide) rfl ?_
          refine X_iinc (v := ((nI ii) + 1)) (L' := [(3, .int ((nI ii) + 1)), (2, .int ((twM kinds ii) + 1)), (0, .ref mo), (1, .int what)]) K0 3 dX5_told_35 rfl (by first | rfl | decide) (by decide) rfl ?_
          refine X_goto K0 9 dX5_told_38 (by decide) ?_
          refine X.sub [2, 3, 1, 0] (L' := [(0, .ref mo), (1, .int what), (2, .int ((twM kinds ii) + 1)), (3, .int ((nI ii) + 1))]) rfl ?_
          exact X_eq rfl (by first | (rw [nI_succ, tw_y h25]) | (rw [nI_succ, tw_n h25])) rfl (ih (ii + 1) (by omega))
  exact LOOP (thM R C op) 0 (by omega)

set_option maxRecDepth 20000 in
set_option maxHeartbeats 400000 in
theorem m_opensBy (g : Gx) (c0 c1 c2 c3 c4 c5 c6 c7 c8 c9 c10 c11 : Nat × va_E) (mo mki mel mto mio mwy mme mhs mso msr mrs mce mcp : Nat) (tn stt : Int32) (tr : Int64) (R C : Nat) (op hwb : Bool) (kinds elders tof iof wyf mef hsf sof srf rsf cef cpf : Nat → Int32) (rest : va_W) (t : Nat) (ht : t < 40) (hok : oOK kinds elders t) (se : Int32) : Con g yX5_opensBy cX5_opensBy 3 (some .boolean) 1 23 0 0 [.ref mo, .int (nI t), .int se] (c0 :: c1 :: c2 :: c3 :: c4 :: c5 :: c6 :: c7 :: c8 :: c9 :: c10 :: c11 :: (mo, oModel tn stt tr (nI R) (nI C) (bI op) mki mel mto mio mwy (bI hwb) mme mhs mso msr mrs mce mcp) :: (mki, aI g 40 kinds) :: (mel, aI g 40 elders) :: (mto, aI g 25 tof) :: (mio, aZ g 40 iof) :: (mwy, aI g 4096 wyf) :: (mme, aZ g 36 mef) :: (mhs, aZ g 3 hsf) :: (mso, aI g 3 sof) :: (msr, aI g 3 srf) :: (mrs, aI g 12 rsf) :: (mce, aI g 480 cef) :: (mcp, aI g 40 cpf) :: rest) (Rs (some (.int (bI (obM kinds elders t se)))) (c0 :: c1 :: c2 :: c3 :: c4 :: c5 :: c6 :: c7 :: c8 :: c9 :: c10 :: c11 :: (mo, oModel tn stt tr (nI R) (nI C) (bI op) mki mel mto mio mwy (bI hwb) mme mhs mso msr mrs mce mcp) :: (mki, aI g 40 kinds) :: (mel, aI g 40 elders) :: (mto, aI g 25 tof) :: (mio, aZ g 40 iof) :: (mwy, aI g 4096 wyf) :: (mme, aZ g 36 mef) :: (mhs, aZ g 3 hsf) :: (mso, aI g 3 sof) :: (msr, aI g 3 srf) :: (mrs, aI g 12 rsf) :: (mce, aI g 480 cef) :: (mcp, aI g 40 cpf) :: rest)) := by
  refine Con.ofZ (by decide +kernel) (Nat.le_of_ble_eq_true rfl) (fun φ K0 hr => ?_)
  show X φ 0 0 (c0 :: c1 :: c2 :: c3 :: c4 :: c5 :: c6 :: c7 :: c8 :: c9 :: c10 :: c11 :: (mo, oModel tn stt tr (nI R) (nI C) (bI op) mki mel mto mio mwy (bI hwb) mme mhs mso msr mrs mce mcp) :: (mki, aI g 40 kinds) :: (mel, aI g 40 elders) :: (mto, aI g 25 tof) :: (mio, aZ g 40 iof) :: (mwy, aI g 4096 wyf) :: (mme, aZ g 36 mef) :: (mhs, aZ g 3 hsf) :: (mso, aI g 3 sof) :: (msr, aI g 3 srf) :: (mrs, aI g 12 rsf) :: (mce, aI g 480 cef) :: (mcp, aI g 40 cpf) :: rest) [(0, .ref mo), (1, .int (nI t)), (2, .int se)] 0 []
  refine X_aload_n K0 0 dX5_opensBy_0 rfl rfl ?_
  refine X_get K0 12 rfl rfl hin5 6 (by decide) fl_RX5_16 rfl dX5_opensBy_1 ?_
  refine X_iload_n K0 1 dX5_opensBy_4 rfl rfl ?_
  refine X_ialdN K0 13 rfl (by omega) (by first | decide | omega) dX5_opensBy_5 ?_
  rcases hok with hk | hk | hk | ⟨hk | hk, e, he, hel⟩
  · refine X_v (z := 0) hk ?_
    refine X_tableIn K0 36 dX5_opensBy_6 (by decide) (by decide) (by rfl) (by decide) ?_
    refine X_iconst (v := 0) K0 dX5_opensBy_36 (by decide) ?_
    exact hr _ _ _ _ ⟨by rw [ob_0 hk]; rfl, rfl⟩ (by first | exact Or.inl rfl | exact Or.inr rfl) dX5_opensBy_37
  · refine X_v (z := 1) hk ?_
    refine X_tableIn K0 38 dX5_opensBy_6 (by decide) (by decide) (by rfl) (by decide) ?_
    refine X_iconst (v := 1) K0 dX5_opensBy_38 (by decide) ?_
    exact hr _ _ _ _ ⟨by rw [ob_1 hk]; rfl, rfl⟩ (by first | exact Or.inl rfl | exact Or.inr rfl) dX5_opensBy_39
  · refine X_v (z := 2) hk ?_
    refine X_tableIn K0 40 dX5_opensBy_6 (by decide) (by decide) (by rfl) (by decide) ?_
    refine X_iload_n K0 2 dX5_opensBy_40 rfl rfl ?_
    refine X_aload_n K0 0 dX5_opensBy_41 rfl rfl ?_
    refine X_iload_n K0 1 dX5_opensBy_42 rfl rfl ?_
    refine X_callV (As := [.int (nI t)]) (rest := [.int se]) K0 12 (m_numberOf g c0 c1 c2 c3 c4 c5 c6 c7 c8 c9 c10 c11 mo mki mel mto mio mwy mme mhs mso msr mrs mce mcp tn stt tr R C op hwb kinds elders tof iof wyf mef hsf sof srf rsf cef cpf rest t (by omega)) mi_X5_numberOf rfl rfl rfl ml_RX5_99 rfl (Nat.le_of_ble_eq_true rfl) (by decide) ⟨Nat.le_of_ble_eq_true rfl, Nat.le_of_ble_eq_true rfl⟩ rfl rfl dX5_opensBy_43 ?_
    intro v w' hr'; obtain ⟨rfl, rfl⟩ := hr'
    show X φ 0 0 (c0 :: c1 :: c2 :: c3 :: c4 :: c5 :: c6 :: c7 :: c8 :: c9 :: c10 :: c11 :: (mo, oModel tn stt tr (nI R) (nI C) (bI op) mki mel mto mio mwy (bI hwb) mme mhs mso msr mrs mce mcp) :: (mki, aI g 40 kinds) :: (mel, aI g 40 elders) :: (mto, aI g 25 tof) :: (mio, aZ g 40 iof) :: (mwy, aI g 4096 wyf) :: (mme, aZ g 36 mef) :: (mhs, aZ g 3 hsf) :: (mso, aI g 3 sof) :: (msr, aI g 3 srf) :: (mrs, aI g 12 rsf) :: (mce, aI g 480 cef) :: (mcp, aI g 40 cpf) :: rest) [(0, .ref mo), (1, .int (nI t)), (2, .int se)] 46 [.int (nI (ctF kinds t)), .int se]
    refine X_ishr K0 dX5_opensBy_46 ?_
    refine X_iconst (v := 1) K0 dX5_opensBy_47 (by decide) ?_
    refine X_iand K0 dX5_opensBy_48 ?_
    refine X_iconst (v := 1) K0 dX5_opensBy_49 (by decide) ?_
    refine X_icmp_ne K0 57 dX5_opensBy_50 (by decide) (fun h50 => ?_) (fun h50 => ?_)
    · refine X_iconst (v := 0) K0 dX5_opensBy_57 (by decide) ?_
      exact hr _ _ _ _ ⟨by first | (rw [ob_2 hk, bitM, decide_eq_true h50]; rfl) | (rw [ob_2 hk, bitM, decide_eq_false h50]; rfl), rfl⟩ (by first | exact Or.inl rfl | exact Or.inr rfl) dX5_opensBy_58
    · refine X_iconst (v := 1) K0 dX5_opensBy_53 (by decide) ?_
      refine X_goto K0 58 dX5_opensBy_54 (by decide) ?_
      exact hr _ _ _ _ ⟨by first | (rw [ob_2 hk, bitM, decide_eq_true h50]; rfl) | (rw [ob_2 hk, bitM, decide_eq_false h50]; rfl), rfl⟩ (by first | exact Or.inl rfl | exact Or.inr rfl) dX5_opensBy_58
  · refine X_v (z := 3) hk ?_
    refine X_tableIn K0 59 dX5_opensBy_6 (by decide) (by decide) (by rfl) (by decide) ?_
    refine X_iload_n K0 2 dX5_opensBy_59 rfl rfl ?_
    refine X_aload_n K0 0 dX5_opensBy_60 rfl rfl ?_
    refine X_aload_n K0 0 dX5_opensBy_61 rfl rfl ?_
    refine X_get K0 12 rfl rfl hin5 7 (by decide) fl_RX5_20 rfl dX5_opensBy_62 ?_
    refine X_iload_n K0 1 dX5_opensBy_65 rfl rfl ?_
    refine X_ialdN K0 14 rfl (by omega) (by first | decide | omega) dX5_opensBy_66 ?_
    refine X_v hel ?_
    refine X_callV (As := [.int (nI e)]) (rest := [.int se]) K0 12 (m_numberOf g c0 c1 c2 c3 c4 c5 c6 c7 c8 c9 c10 c11 mo mki mel mto mio mwy mme mhs mso msr mrs mce mcp tn stt tr R C op hwb kinds elders tof iof wyf mef hsf sof srf rsf cef cpf rest e (by omega)) mi_X5_numberOf rfl rfl rfl ml_RX5_99 rfl (Nat.le_of_ble_eq_true rfl) (by decide) ⟨Nat.le_of_ble_eq_true rfl, Nat.le_of_ble_eq_true rfl⟩ rfl rfl dX5_opensBy_67 ?_
    intro v w' hr'; obtain ⟨rfl, rfl⟩ := hr'
    show X φ 0 0 (c0 :: c1 :: c2 :: c3 :: c4 :: c5 :: c6 :: c7 :: c8 :: c9 :: c10 :: c11 :: (mo, oModel tn stt tr (nI R) (nI C) (bI op) mki mel mto mio mwy (bI hwb) mme mhs mso msr mrs mce mcp) :: (mki, aI g 40 kinds) :: (mel, aI g 40 elders) :: (mto, aI g 25 tof) :: (mio, aZ g 40 iof) :: (mwy, aI g 4096 wyf) :: (mme, aZ g 36 mef) :: (mhs, aZ g 3 hsf) :: (mso, aI g 3 sof) :: (msr, aI g 3 srf) :: (mrs, aI g 12 rsf) :: (mce, aI g 480 cef) :: (mcp, aI g 40 cpf) :: rest) [(0, .ref mo), (1, .int (nI t)), (2, .int se)] 70 [.int (nI (ctF kinds e)), .int se]
    refine X_ishr K0 dX5_opensBy_70 ?_
    refine X_iconst (v := 1) K0 dX5_opensBy_71 (by decide) ?_
    refine X_iand K0 dX5_opensBy_72 ?_
    refine X_iconst (v := 1) K0 dX5_opensBy_73 (by decide) ?_
    refine X_icmp_ne K0 81 dX5_opensBy_74 (by decide) (fun h74 => ?_) (fun h74 => ?_)
    · refine X_iconst (v := 0) K0 dX5_opensBy_81 (by decide) ?_
      exact hr _ _ _ _ ⟨by first | (rw [ob_3 hk hel (by omega), bitM, decide_eq_true h74]; rfl) | (rw [ob_3 hk hel (by omega), bitM, decide_eq_false h74]; rfl), rfl⟩ (by first | exact Or.inl rfl | exact Or.inr rfl) dX5_opensBy_82
    · refine X_iconst (v := 1) K0 dX5_opensBy_77 (by decide) ?_
      refine X_goto K0 82 dX5_opensBy_78 (by decide) ?_
      exact hr _ _ _ _ ⟨by first | (rw [ob_3 hk hel (by omega), bitM, decide_eq_true h74]; rfl) | (rw [ob_3 hk hel (by omega), bitM, decide_eq_false h74]; rfl), rfl⟩ (by first | exact Or.inl rfl | exact Or.inr rfl) dX5_opensBy_82
  · refine X_v (z := 4) hk ?_
    refine X_tableOut K0 83 dX5_opensBy_6 (by decide) (by decide) ?_
    refine X_iload_n K0 2 dX5_opensBy_83 rfl rfl ?_
    refine X_aload_n K0 0 dX5_opensBy_84 rfl rfl ?_
    refine X_aload_n K0 0 dX5_opensBy_85 rfl rfl ?_
    refine X_get K0 12 rfl rfl hin5 7 (by decide) fl_RX5_20 rfl dX5_opensBy_86 ?_
    refine X_iload_n K0 1 dX5_opensBy_89 rfl rfl ?_
    refine X_ialdN K0 14 rfl (by omega) (by first | decide | omega) dX5_opensBy_90 ?_
    refine X_v hel ?_
    refine X_callV (As := [.int (nI e)]) (rest := [.int se]) K0 12 (m_numberOf g c0 c1 c2 c3 c4 c5 c6 c7 c8 c9 c10 c11 mo mki mel mto mio mwy mme mhs mso msr mrs mce mcp tn stt tr R C op hwb kinds elders tof iof wyf mef hsf sof srf rsf cef cpf rest e (by omega)) mi_X5_numberOf rfl rfl rfl ml_RX5_99 rfl (Nat.le_of_ble_eq_true rfl) (by decide) ⟨Nat.le_of_ble_eq_true rfl, Nat.le_of_ble_eq_true rfl⟩ rfl rfl dX5_opensBy_91 ?_
    intro v w' hr'; obtain ⟨rfl, rfl⟩ := hr'
    show X φ 0 0 (c0 :: c1 :: c2 :: c3 :: c4 :: c5 :: c6 :: c7 :: c8 :: c9 :: c10 :: c11 :: (mo, oModel tn stt tr (nI R) (nI C) (bI op) mki mel mto mio mwy (bI hwb) mme mhs mso msr mrs mce mcp) :: (mki, aI g 40 kinds) :: (mel, aI g 40 elders) :: (mto, aI g 25 tof) :: (mio, aZ g 40 iof) :: (mwy, aI g 4096 wyf) :: (mme, aZ g 36 mef) :: (mhs, aZ g 3 hsf) :: (mso, aI g 3 sof) :: (msr, aI g 3 srf) :: (mrs, aI g 12 rsf) :: (mce, aI g 480 cef) :: (mcp, aI g 40 cpf) :: rest) [(0, .ref mo), (1, .int (nI t)), (2, .int se)] 94 [.int (nI (ctF kinds e)), .int se]
    refine X_ishr K0 dX5_opensBy_94 ?_
    refine X_iconst (v := 1) K0 dX5_opensBy_95 (by decide) ?_
    refine X_iand K0 dX5_opensBy_96 ?_
    refine X_if_ne K0 104 dX5_opensBy_97 (by decide) (fun h97 => ?_) (fun h97 => ?_)
    · refine X_iconst (v := 0) K0 dX5_opensBy_104 (by decide) ?_
      exact hr _ _ _ _ ⟨by first | (rw [ob_4 hk hel (by omega), bitM, decide_eq_true h97]; rfl) | (rw [ob_4 hk hel (by omega), bitM, decide_eq_false h97]; rfl), rfl⟩ (by first | exact Or.inl rfl | exact Or.inr rfl) dX5_opensBy_105
    · refine X_iconst (v := 1) K0 dX5_opensBy_100 (by decide) ?_
      refine X_goto K0 105 dX5_opensBy_101 (by decide) ?_
      exact hr _ _ _ _ ⟨by first | (rw [ob_4 hk hel (by omega), bitM, decide_eq_true h97]; rfl) | (rw [ob_4 hk hel (by omega), bitM, decide_eq_false h97]; rfl), rfl⟩ (by first | exact Or.inl rfl | exact Or.inr rfl) dX5_opensBy_105

set_option maxRecDepth 20000 in
set_option maxHeartbeats 400000 in
theorem m_opens (g : Gx) (c0 c1 c2 c3 c4 c5 c6 c7 c8 c9 c10 c11 : Nat × va_E) (mo mki mel mto mio mwy mme mhs mso msr mrs mce mcp : Nat) (tn stt : Int32) (tr : Int64) (R C : Nat) (op hwb : Bool) (kinds elders tof iof wyf mef hsf sof srf rsf cef cpf : Nat → Int32) (rest : va_W) (hR : 1 ≤ R ∧ R ≤ 5) (hC : 1 ≤ C ∧ C ≤ 5) (hKI : KI (thM R C op) kinds elders) (x se : Int32) : Con g yX5_opens cX5_opens 4 (some .int) 5 103 0 0 [.ref mo, .int x, .int se] (c0 :: c1 :: c2 :: c3 :: c4 :: c5 :: c6 :: c7 :: c8 :: c9 :: c10 :: c11 :: (mo, oModel tn stt tr (nI R) (nI C) (bI op) mki mel mto mio mwy (bI hwb) mme mhs mso msr mrs mce mcp) :: (mki, aI g 40 kinds) :: (mel, aI g 40 elders) :: (mto, aI g 25 tof) :: (mio, aZ g 40 iof) :: (mwy, aI g 4096 wyf) :: (mme, aZ g 36 mef) :: (mhs, aZ g 3 hsf) :: (mso, aI g 3 sof) :: (msr, aI g 3 srf) :: (mrs, aI g 12 rsf) :: (mce, aI g 480 cef) :: (mcp, aI g 40 cpf) :: rest) (fun v w' => ((wiB x 0 (nI (thM R C op) - 1) && wiB se 0 (nI (2 ^ (ctF kinds (thM R C op))) - 1)) = false ∧ v = some (.int (-1)) ∧ (c0 :: c1 :: c2 :: c3 :: c4 :: c5 :: c6 :: c7 :: c8 :: c9 :: c10 :: c11 :: (mo, oModel 0 stt tr (nI R) (nI C) (bI op) mki mel mto mio mwy (bI hwb) mme mhs mso msr mrs mce mcp) :: (mki, aI g 40 kinds) :: (mel, aI g 40 elders) :: (mto, aI g 25 tof) :: (mio, aZ g 40 iof) :: (mwy, aI g 4096 wyf) :: (mme, aZ g 36 mef) :: (mhs, aZ g 3 hsf) :: (mso, aI g 3 sof) :: (msr, aI g 3 srf) :: (mrs, aI g 12 rsf) :: (mce, aI g 480 cef) :: (mcp, aI g 40 cpf) :: rest) = w') ∨ (∃ j, j < (thM R C op) ∧ x = nI j ∧ wiB se 0 (nI (2 ^ (ctF kinds (thM R C op))) - 1) = true ∧ v = some (.int (bI (obM kinds elders j se))) ∧ (c0 :: c1 :: c2 :: c3 :: c4 :: c5 :: c6 :: c7 :: c8 :: c9 :: c10 :: c11 :: (mo, oModel 0 stt (tr + trM (kinds j)) (nI R) (nI C) (bI op) mki mel mto mio mwy (bI hwb) mme mhs mso msr mrs mce mcp) :: (mki, aI g 40 kinds) :: (mel, aI g 40 elders) :: (mto, aI g 25 tof) :: (mio, aZ g 40 iof) :: (mwy, aI g 4096 wyf) :: (mme, aZ g 36 mef) :: (mhs, aZ g 3 hsf) :: (mso, aI g 3 sof) :: (msr, aI g 3 srf) :: (mrs, aI g 12 rsf) :: (mce, aI g 480 cef) :: (mcp, aI g 40 cpf) :: rest) = w')) := by
  have hTM := th_M (op := op) hR hC
  have hPM := pl_M hR hC
  have hRM := rd_M hR hC
  refine Con.ofI (by decide +kernel) (Nat.le_of_ble_eq_true rfl) (fun φ K0 hr => ?_)
  show X φ 0 0 (c0 :: c1 :: c2 :: c3 :: c4 :: c5 :: c6 :: c7 :: c8 :: c9 :: c10 :: c11 :: (mo, oModel tn stt tr (nI R) (nI C) (bI op) mki mel mto mio mwy (bI hwb) mme mhs mso msr mrs mce mcp) :: (mki, aI g 40 kinds) :: (mel, aI g 40 elders) :: (mto, aI g 25 tof) :: (mio, aZ g 40 iof) :: (mwy, aI g 4096 wyf) :: (mme, aZ g 36 mef) :: (mhs, aZ g 3 hsf) :: (mso, aI g 3 sof) :: (msr, aI g 3 srf) :: (mrs, aI g 12 rsf) :: (mce, aI g 480 cef) :: (mcp, aI g 40 cpf) :: rest) [(0, .ref mo), (1, .int x), (2, .int se)] 0 []
  refine X_aload_n K0 0 dX5_opens_0 rfl rfl ?_
  refine X_iconst (v := 0) K0 dX5_opens_1 (by decide) ?_
  refine X_put (w' := (c0 :: c1 :: c2 :: c3 :: c4 :: c5 :: c6 :: c7 :: c8 :: c9 :: c10 :: c11 :: (mo, oModel 0 stt tr (nI R) (nI C) (bI op) mki mel mto mio mwy (bI hwb) mme mhs mso msr mrs mce mcp) :: (mki, aI g 40 kinds) :: (mel, aI g 40 elders) :: (mto, aI g 25 tof) :: (mio, aZ g 40 iof) :: (mwy, aI g 4096 wyf) :: (mme, aZ g 36 mef) :: (mhs, aZ g 3 hsf) :: (mso, aI g 3 sof) :: (msr, aI g 3 srf) :: (mrs, aI g 12 rsf) :: (mce, aI g 480 cef) :: (mcp, aI g 40 cpf) :: rest)) K0 12 rfl rfl hin5 tyX5 tyX5_ok nmX5 0 (by decide) fl_RX5_58 rfl (tyX5_ok 0 (by decide)) rfl rfl (Nat.le_of_ble_eq_true rfl) dX5_opens_2 rfl ?_
  refine X_aload_n K0 0 dX5_opens_5 rfl rfl ?_
  refine X_iload_n K0 1 dX5_opens_6 rfl rfl ?_
  refine X_callV (As := [.int x]) (rest := []) K0 12 (m_isThing g c0 c1 c2 c3 c4 c5 c6 c7 c8 c9 c10 c11 mo mki mel mto mio mwy mme mhs mso msr mrs mce mcp 0 stt tr R C op hwb kinds elders tof iof wyf mef hsf sof srf rsf cef cpf rest hR hC x) mi_X5_isThing rfl rfl rfl ml_RX5_88 rfl (Nat.le_of_ble_eq_true rfl) (by decide) ⟨Nat.le_of_ble_eq_true rfl, Nat.le_of_ble_eq_true rfl⟩ rfl rfl dX5_opens_7 ?_
  intro v w' hr'; obtain ⟨rfl, rfl⟩ := hr'
  show X φ 0 0 (c0 :: c1 :: c2 :: c3 :: c4 :: c5 :: c6 :: c7 :: c8 :: c9 :: c10 :: c11 :: (mo, oModel 0 stt tr (nI R) (nI C) (bI op) mki mel mto mio mwy (bI hwb) mme mhs mso msr mrs mce mcp) :: (mki, aI g 40 kinds) :: (mel, aI g 40 elders) :: (mto, aI g 25 tof) :: (mio, aZ g 40 iof) :: (mwy, aI g 4096 wyf) :: (mme, aZ g 36 mef) :: (mhs, aZ g 3 hsf) :: (mso, aI g 3 sof) :: (msr, aI g 3 srf) :: (mrs, aI g 12 rsf) :: (mce, aI g 480 cef) :: (mcp, aI g 40 cpf) :: rest) [(0, .ref mo), (1, .int x), (2, .int se)] 10 [.int (bI (wiB x 0 ((nI (thM R C op)) - 1)))]
  refine X_if_eq K0 21 dX5_opens_10 (by decide) (fun h10 => ?_) (fun h10 => ?_)
  · refine X_iconst (v := (-1)) K0 dX5_opens_21 (by decide) ?_
    exact hr _ _ _ _ (Or.inl ⟨by first | exact p_n (bI_0.mp h10) | exact p_yn (bI_n0.mp h10) (bI_0.mp h18), rfl, rfl⟩) dX5_opens_22
  · refine X_aload_n K0 0 dX5_opens_13 rfl rfl ?_
    refine X_iload_n K0 2 dX5_opens_14 rfl rfl ?_
    refine X_callV (As := [.int se]) (rest := []) K0 12 (m_isSetting g c0 c1 c2 c3 c4 c5 c6 c7 c8 c9 c10 c11 mo mki mel mto mio mwy mme mhs mso msr mrs mce mcp 0 stt tr R C op hwb kinds elders tof iof wyf mef hsf sof srf rsf cef cpf rest hR hC hKI se) mi_X5_isSetting rfl rfl rfl ml_RX5_107 rfl (Nat.le_of_ble_eq_true rfl) (by decide) ⟨Nat.le_of_ble_eq_true rfl, Nat.le_of_ble_eq_true rfl⟩ rfl rfl dX5_opens_15 ?_
    intro v w' hr'; obtain ⟨rfl, rfl⟩ := hr'
    show X φ 0 0 (c0 :: c1 :: c2 :: c3 :: c4 :: c5 :: c6 :: c7 :: c8 :: c9 :: c10 :: c11 :: (mo, oModel 0 stt tr (nI R) (nI C) (bI op) mki mel mto mio mwy (bI hwb) mme mhs mso msr mrs mce mcp) :: (mki, aI g 40 kinds) :: (mel, aI g 40 elders) :: (mto, aI g 25 tof) :: (mio, aZ g 40 iof) :: (mwy, aI g 4096 wyf) :: (mme, aZ g 36 mef) :: (mhs, aZ g 3 hsf) :: (mso, aI g 3 sof) :: (msr, aI g 3 srf) :: (mrs, aI g 12 rsf) :: (mce, aI g 480 cef) :: (mcp, aI g 40 cpf) :: rest) [(0, .ref mo), (1, .int x), (2, .int se)] 18 [.int (bI (wiB se 0 ((nI (2 ^ ctF kinds (thM R C op))) - 1)))]
    refine X_if_ne K0 23 dX5_opens_18 (by decide) (fun h18 => ?_) (fun h18 => ?_)
    · obtain ⟨j, hj, rfl⟩ := wi_of (bI_n0.mp h10) (by omega)
      refine X_aload_n K0 0 dX5_opens_23 rfl rfl ?_
      refine X_get K0 12 rfl rfl hin5 6 (by decide) fl_RX5_16 rfl dX5_opens_24 ?_
      refine X_iload_n K0 1 dX5_opens_27 rfl rfl ?_
      refine X_ialdN K0 13 rfl (by omega) (by first | decide | omega) dX5_opens_28 ?_
      refine X_istore_n (L' := [(3, .int (kinds j)), (0, .ref mo), (1, .int (nI j)), (2, .int se)]) K0 dX5_opens_29 rfl (by decide) rfl ?_
      refine X_aload_n K0 1 dX5_opens_30 rfl rfl ?_
      refine X_dup K0 dX5_opens_31 rfl ?_
      refine X_get K0 12 rfl rfl hin5 2 (by decide) fl_RX5_110 rfl dX5_opens_32 ?_
      refine X_iload_n K0 0 dX5_opens_35 rfl rfl ?_
      refine X_if_ne K0 43 dX5_opens_36 (by decide) (fun h36 => ?_) (fun h36 => ?_)
      · refine X_iload_n K0 0 dX5_opens_43 rfl rfl ?_
        refine X_iconst (v := 1) K0 dX5_opens_44 (by decide) ?_
        refine X_icmp_ne K0 54 dX5_opens_45 (by decide) (fun h45 => ?_) (fun h45 => ?_)
        · refine X_iload_n K0 0 dX5_opens_54 rfl rfl ?_
          refine X_iconst (v := 2) K0 dX5_opens_55 (by decide) ?_
          refine X_icmp_ne K0 65 dX5_opens_56 (by decide) (fun h56 => ?_) (fun h56 => ?_)
          · refine X_iload_n K0 0 dX5_opens_65 rfl rfl ?_
            refine X_iconst (v := 3) K0 dX5_opens_66 (by decide) ?_
            refine X_icmp_ne K0 76 dX5_opens_67 (by decide) (fun h67 => ?_) (fun h67 => ?_)
            · refine X_ldc2 K0 co_RX5_120 dX5_opens_76 ?_
              have hq : 11111 = trM (kinds j) := by first | (rw [trM, if_pos h36]) | (rw [trM, if_neg h36, if_pos h45]) | (rw [trM, if_neg h36, if_neg h45, if_pos h56]) | (rw [trM, if_neg h36, if_neg h45, if_neg h56, if_pos h67]) | (rw [trM, if_neg h36, if_neg h45, if_neg h56, if_neg h67])
              rw [hq]
              show X φ 0 0 (c0 :: c1 :: c2 :: c3 :: c4 :: c5 :: c6 :: c7 :: c8 :: c9 :: c10 :: c11 :: (mo, oModel 0 stt tr (nI R) (nI C) (bI op) mki mel mto mio mwy (bI hwb) mme mhs mso msr mrs mce mcp) :: (mki, aI g 40 kinds) :: (mel, aI g 40 elders) :: (mto, aI g 25 tof) :: (mio, aZ g 40 iof) :: (mwy, aI g 4096 wyf) :: (mme, aZ g 36 mef) :: (mhs, aZ g 3 hsf) :: (mso, aI g 3 sof) :: (msr, aI g 3 srf) :: (mrs, aI g 12 rsf) :: (mce, aI g 480 cef) :: (mcp, aI g 40 cpf) :: rest) [(3, .int (kinds j)), (0, .ref mo), (1, .int (nI j)), (2, .int se)] 79 [.long (trM (kinds j)), .long tr, .ref mo]
              refine X_ladd K0 dX5_opens_79 ?_
              refine X_put (w' := (c0 :: c1 :: c2 :: c3 :: c4 :: c5 :: c6 :: c7 :: c8 :: c9 :: c10 :: c11 :: (mo, oModel 0 stt (tr + (trM (kinds j))) (nI R) (nI C) (bI op) mki mel mto mio mwy (bI hwb) mme mhs mso msr mrs mce mcp) :: (mki, aI g 40 kinds) :: (mel, aI g 40 elders) :: (mto, aI g 25 tof) :: (mio, aZ g 40 iof) :: (mwy, aI g 4096 wyf) :: (mme, aZ g 36 mef) :: (mhs, aZ g 3 hsf) :: (mso, aI g 3 sof) :: (msr, aI g 3 srf) :: (mrs, aI g 12 rsf) :: (mce, aI g 480 cef) :: (mcp, aI g 40 cpf) :: rest)) K0 12 rfl rfl hin5 tyX5 tyX5_ok nmX5 2 (by decide) fl_RX5_110 rfl (tyX5_ok 2 (by decide)) rfl rfl (Nat.le_of_ble_eq_true rfl) dX5_opens_80 rfl ?_
              refine X_aload_n K0 1 dX5_opens_83 rfl rfl ?_
              refine X_iload_n K0 2 dX5_opens_84 rfl rfl ?_
              refine X_iload_n K0 3 dX5_opens_85 rfl rfl ?_
              refine X_callV (As := [.int (nI j), .int se]) (rest := []) K0 12 (m_opensBy g c0 c1 c2 c3 c4 c5 c6 c7 c8 c9 c10 c11 mo mki mel mto mio mwy mme mhs mso msr mrs mce mcp 0 stt (tr + (trM (kinds j))) R C op hwb kinds elders tof iof wyf mef hsf sof srf rsf cef cpf rest j (by omega) (hKI.ook (th_M hR hC) (by omega)) se) mi_X5_opensBy rfl rfl rfl ml_RX5_122 rfl (Nat.le_of_ble_eq_true rfl) (by decide) ⟨Nat.le_of_ble_eq_true rfl, Nat.le_of_ble_eq_true rfl⟩ rfl rfl dX5_opens_86 ?_
              intro v w' hr'; obtain ⟨rfl, rfl⟩ := hr'
              show X φ 0 0 (c0 :: c1 :: c2 :: c3 :: c4 :: c5 :: c6 :: c7 :: c8 :: c9 :: c10 :: c11 :: (mo, oModel 0 stt (tr + (trM (kinds j))) (nI R) (nI C) (bI op) mki mel mto mio mwy (bI hwb) mme mhs mso msr mrs mce mcp) :: (mki, aI g 40 kinds) :: (mel, aI g 40 elders) :: (mto, aI g 25 tof) :: (mio, aZ g 40 iof) :: (mwy, aI g 4096 wyf) :: (mme, aZ g 36 mef) :: (mhs, aZ g 3 hsf) :: (mso, aI g 3 sof) :: (msr, aI g 3 srf) :: (mrs, aI g 12 rsf) :: (mce, aI g 480 cef) :: (mcp, aI g 40 cpf) :: rest) [(3, .int (kinds j)), (0, .ref mo), (1, .int (nI j)), (2, .int se)] 89 [.int (bI (obM kinds elders j se))]
              refine X_if_eq K0 96 dX5_opens_89 (by decide) (fun h89 => ?_) (fun h89 => ?_)
              · refine X_iconst (v := 0) K0 dX5_opens_96 (by decide) ?_
                exact hr _ _ _ _ (Or.inr ⟨j, hj, rfl, bI_n0.mp h18, by first | (rw [bI_n0.mp h89]; rfl) | (rw [bI_0.mp h89]; rfl), rfl⟩) dX5_opens_97
              · refine X_iconst (v := 1) K0 dX5_opens_92 (by decide) ?_
                refine X_goto K0 97 dX5_opens_93 (by decide) ?_
                exact hr _ _ _ _ (Or.inr ⟨j, hj, rfl, bI_n0.mp h18, by first | (rw [bI_n0.mp h89]; rfl) | (rw [bI_0.mp h89]; rfl), rfl⟩) dX5_opens_97
            · refine X_ldc2 K0 co_RX5_118 dX5_opens_70 ?_
              refine X_goto K0 79 dX5_opens_73 (by decide) ?_
              have hq : 1111 = trM (kinds j) := by first | (rw [trM, if_pos h36]) | (rw [trM, if_neg h36, if_pos h45]) | (rw [trM, if_neg h36, if_neg h45, if_pos h56]) | (rw [trM, if_neg h36, if_neg h45, if_neg h56, if_pos h67]) | (rw [trM, if_neg h36, if_neg h45, if_neg h56, if_neg h67])
              rw [hq]
              show X φ 0 0 (c0 :: c1 :: c2 :: c3 :: c4 :: c5 :: c6 :: c7 :: c8 :: c9 :: c10 :: c11 :: (mo, oModel 0 stt tr (nI R) (nI C) (bI op) mki mel mto mio mwy (bI hwb) mme mhs mso msr mrs mce mcp) :: (mki, aI g 40 kinds) :: (mel, aI g 40 elders) :: (mto, aI g 25 tof) :: (mio, aZ g 40 iof) :: (mwy, aI g 4096 wyf) :: (mme, aZ g 36 mef) :: (mhs, aZ g 3 hsf) :: (mso, aI g 3 sof) :: (msr, aI g 3 srf) :: (mrs, aI g 12 rsf) :: (mce, aI g 480 cef) :: (mcp, aI g 40 cpf) :: rest) [(3, .int (kinds j)), (0, .ref mo), (1, .int (nI j)), (2, .int se)] 79 [.long (trM (kinds j)), .long tr, .ref mo]
              refine X_ladd K0 dX5_opens_79 ?_
              refine X_put (w' := (c0 :: c1 :: c2 :: c3 :: c4 :: c5 :: c6 :: c7 :: c8 :: c9 :: c10 :: c11 :: (mo, oModel 0 stt (tr + (trM (kinds j))) (nI R) (nI C) (bI op) mki mel mto mio mwy (bI hwb) mme mhs mso msr mrs mce mcp) :: (mki, aI g 40 kinds) :: (mel, aI g 40 elders) :: (mto, aI g 25 tof) :: (mio, aZ g 40 iof) :: (mwy, aI g 4096 wyf) :: (mme, aZ g 36 mef) :: (mhs, aZ g 3 hsf) :: (mso, aI g 3 sof) :: (msr, aI g 3 srf) :: (mrs, aI g 12 rsf) :: (mce, aI g 480 cef) :: (mcp, aI g 40 cpf) :: rest)) K0 12 rfl rfl hin5 tyX5 tyX5_ok nmX5 2 (by decide) fl_RX5_110 rfl (tyX5_ok 2 (by decide)) rfl rfl (Nat.le_of_ble_eq_true rfl) dX5_opens_80 rfl ?_
              refine X_aload_n K0 1 dX5_opens_83 rfl rfl ?_
              refine X_iload_n K0 2 dX5_opens_84 rfl rfl ?_
              refine X_iload_n K0 3 dX5_opens_85 rfl rfl ?_
              refine X_callV (As := [.int (nI j), .int se]) (rest := []) K0 12 (m_opensBy g c0 c1 c2 c3 c4 c5 c6 c7 c8 c9 c10 c11 mo mki mel mto mio mwy mme mhs mso msr mrs mce mcp 0 stt (tr + (trM (kinds j))) R C op hwb kinds elders tof iof wyf mef hsf sof srf rsf cef cpf rest j (by omega) (hKI.ook (th_M hR hC) (by omega)) se) mi_X5_opensBy rfl rfl rfl ml_RX5_122 rfl (Nat.le_of_ble_eq_true rfl) (by decide) ⟨Nat.le_of_ble_eq_true rfl, Nat.le_of_ble_eq_true rfl⟩ rfl rfl dX5_opens_86 ?_
              intro v w' hr'; obtain ⟨rfl, rfl⟩ := hr'
              show X φ 0 0 (c0 :: c1 :: c2 :: c3 :: c4 :: c5 :: c6 :: c7 :: c8 :: c9 :: c10 :: c11 :: (mo, oModel 0 stt (tr + (trM (kinds j))) (nI R) (nI C) (bI op) mki mel mto mio mwy (bI hwb) mme mhs mso msr mrs mce mcp) :: (mki, aI g 40 kinds) :: (mel, aI g 40 elders) :: (mto, aI g 25 tof) :: (mio, aZ g 40 iof) :: (mwy, aI g 4096 wyf) :: (mme, aZ g 36 mef) :: (mhs, aZ g 3 hsf) :: (mso, aI g 3 sof) :: (msr, aI g 3 srf) :: (mrs, aI g 12 rsf) :: (mce, aI g 480 cef) :: (mcp, aI g 40 cpf) :: rest) [(3, .int (kinds j)), (0, .ref mo), (1, .int (nI j)), (2, .int se)] 89 [.int (bI (obM kinds elders j se))]
              refine X_if_eq K0 96 dX5_opens_89 (by decide) (fun h89 => ?_) (fun h89 => ?_)
              · refine X_iconst (v := 0) K0 dX5_opens_96 (by decide) ?_
                exact hr _ _ _ _ (Or.inr ⟨j, hj, rfl, bI_n0.mp h18, by first | (rw [bI_n0.mp h89]; rfl) | (rw [bI_0.mp h89]; rfl), rfl⟩) dX5_opens_97
              · refine X_iconst (v := 1) K0 dX5_opens_92 (by decide) ?_
                refine X_goto K0 97 dX5_opens_93 (by decide) ?_
                exact hr _ _ _ _ (Or.inr ⟨j, hj, rfl, bI_n0.mp h18, by first | (rw [bI_n0.mp h89]; rfl) | (rw [bI_0.mp h89]; rfl), rfl⟩) dX5_opens_97
          · refine X_ldc2 K0 co_RX5_116 dX5_opens_59 ?_
            refine X_goto K0 79 dX5_opens_62 (by decide) ?_
            have hq : 111 = trM (kinds j) := by first | (rw [trM, if_pos h36]) | (rw [trM, if_neg h36, if_pos h45]) | (rw [trM, if_neg h36, if_neg h45, if_pos h56]) | (rw [trM, if_neg h36, if_neg h45, if_neg h56, if_pos h67]) | (rw [trM, if_neg h36, if_neg h45, if_neg h56, if_neg h67])
            rw [hq]
            show X φ 0 0 (c0 :: c1 :: c2 :: c3 :: c4 :: c5 :: c6 :: c7 :: c8 :: c9 :: c10 :: c11 :: (mo, oModel 0 stt tr (nI R) (nI C) (bI op) mki mel mto mio mwy (bI hwb) mme mhs mso msr mrs mce mcp) :: (mki, aI g 40 kinds) :: (mel, aI g 40 elders) :: (mto, aI g 25 tof) :: (mio, aZ g 40 iof) :: (mwy, aI g 4096 wyf) :: (mme, aZ g 36 mef) :: (mhs, aZ g 3 hsf) :: (mso, aI g 3 sof) :: (msr, aI g 3 srf) :: (mrs, aI g 12 rsf) :: (mce, aI g 480 cef) :: (mcp, aI g 40 cpf) :: rest) [(3, .int (kinds j)), (0, .ref mo), (1, .int (nI j)), (2, .int se)] 79 [.long (trM (kinds j)), .long tr, .ref mo]
            refine X_ladd K0 dX5_opens_79 ?_
            refine X_put (w' := (c0 :: c1 :: c2 :: c3 :: c4 :: c5 :: c6 :: c7 :: c8 :: c9 :: c10 :: c11 :: (mo, oModel 0 stt (tr + (trM (kinds j))) (nI R) (nI C) (bI op) mki mel mto mio mwy (bI hwb) mme mhs mso msr mrs mce mcp) :: (mki, aI g 40 kinds) :: (mel, aI g 40 elders) :: (mto, aI g 25 tof) :: (mio, aZ g 40 iof) :: (mwy, aI g 4096 wyf) :: (mme, aZ g 36 mef) :: (mhs, aZ g 3 hsf) :: (mso, aI g 3 sof) :: (msr, aI g 3 srf) :: (mrs, aI g 12 rsf) :: (mce, aI g 480 cef) :: (mcp, aI g 40 cpf) :: rest)) K0 12 rfl rfl hin5 tyX5 tyX5_ok nmX5 2 (by decide) fl_RX5_110 rfl (tyX5_ok 2 (by decide)) rfl rfl (Nat.le_of_ble_eq_true rfl) dX5_opens_80 rfl ?_
            refine X_aload_n K0 1 dX5_opens_83 rfl rfl ?_
            refine X_iload_n K0 2 dX5_opens_84 rfl rfl ?_
            refine X_iload_n K0 3 dX5_opens_85 rfl rfl ?_
            refine X_callV (As := [.int (nI j), .int se]) (rest := []) K0 12 (m_opensBy g c0 c1 c2 c3 c4 c5 c6 c7 c8 c9 c10 c11 mo mki mel mto mio mwy mme mhs mso msr mrs mce mcp 0 stt (tr + (trM (kinds j))) R C op hwb kinds elders tof iof wyf mef hsf sof srf rsf cef cpf rest j (by omega) (hKI.ook (th_M hR hC) (by omega)) se) mi_X5_opensBy rfl rfl rfl ml_RX5_122 rfl (Nat.le_of_ble_eq_true rfl) (by decide) ⟨Nat.le_of_ble_eq_true rfl, Nat.le_of_ble_eq_true rfl⟩ rfl rfl dX5_opens_86 ?_
            intro v w' hr'; obtain ⟨rfl, rfl⟩ := hr'
            show X φ 0 0 (c0 :: c1 :: c2 :: c3 :: c4 :: c5 :: c6 :: c7 :: c8 :: c9 :: c10 :: c11 :: (mo, oModel 0 stt (tr + (trM (kinds j))) (nI R) (nI C) (bI op) mki mel mto mio mwy (bI hwb) mme mhs mso msr mrs mce mcp) :: (mki, aI g 40 kinds) :: (mel, aI g 40 elders) :: (mto, aI g 25 tof) :: (mio, aZ g 40 iof) :: (mwy, aI g 4096 wyf) :: (mme, aZ g 36 mef) :: (mhs, aZ g 3 hsf) :: (mso, aI g 3 sof) :: (msr, aI g 3 srf) :: (mrs, aI g 12 rsf) :: (mce, aI g 480 cef) :: (mcp, aI g 40 cpf) :: rest) [(3, .int (kinds j)), (0, .ref mo), (1, .int (nI j)), (2, .int se)] 89 [.int (bI (obM kinds elders j se))]
            refine X_if_eq K0 96 dX5_opens_89 (by decide) (fun h89 => ?_) (fun h89 => ?_)
            · refine X_iconst (v := 0) K0 dX5_opens_96 (by decide) ?_
              exact hr _ _ _ _ (Or.inr ⟨j, hj, rfl, bI_n0.mp h18, by first | (rw [bI_n0.mp h89]; rfl) | (rw [bI_0.mp h89]; rfl), rfl⟩) dX5_opens_97
            · refine X_iconst (v := 1) K0 dX5_opens_92 (by decide) ?_
              refine X_goto K0 97 dX5_opens_93 (by decide) ?_
              exact hr _ _ _ _ (Or.inr ⟨j, hj, rfl, bI_n0.mp h18, by first | (rw [bI_n0.mp h89]; rfl) | (rw [bI_0.mp h89]; rfl), rfl⟩) dX5_opens_97
        · refine X_ldc2 K0 co_RX5_114 dX5_opens_48 ?_
          refine X_goto K0 79 dX5_opens_51 (by decide) ?_
          have hq : 11 = trM (kinds j) := by first | (rw [trM, if_pos h36]) | (rw [trM, if_neg h36, if_pos h45]) | (rw [trM, if_neg h36, if_neg h45, if_pos h56]) | (rw [trM, if_neg h36, if_neg h45, if_neg h56, if_pos h67]) | (rw [trM, if_neg h36, if_neg h45, if_neg h56, if_neg h67])
          rw [hq]
          show X φ 0 0 (c0 :: c1 :: c2 :: c3 :: c4 :: c5 :: c6 :: c7 :: c8 :: c9 :: c10 :: c11 :: (mo, oModel 0 stt tr (nI R) (nI C) (bI op) mki mel mto mio mwy (bI hwb) mme mhs mso msr mrs mce mcp) :: (mki, aI g 40 kinds) :: (mel, aI g 40 elders) :: (mto, aI g 25 tof) :: (mio, aZ g 40 iof) :: (mwy, aI g 4096 wyf) :: (mme, aZ g 36 mef) :: (mhs, aZ g 3 hsf) :: (mso, aI g 3 sof) :: (msr, aI g 3 srf) :: (mrs, aI g 12 rsf) :: (mce, aI g 480 cef) :: (mcp, aI g 40 cpf) :: rest) [(3, .int (kinds j)), (0, .ref mo), (1, .int (nI j)), (2, .int se)] 79 [.long (trM (kinds j)), .long tr, .ref mo]
          refine X_ladd K0 dX5_opens_79 ?_
          refine X_put (w' := (c0 :: c1 :: c2 :: c3 :: c4 :: c5 :: c6 :: c7 :: c8 :: c9 :: c10 :: c11 :: (mo, oModel 0 stt (tr + (trM (kinds j))) (nI R) (nI C) (bI op) mki mel mto mio mwy (bI hwb) mme mhs mso msr mrs mce mcp) :: (mki, aI g 40 kinds) :: (mel, aI g 40 elders) :: (mto, aI g 25 tof) :: (mio, aZ g 40 iof) :: (mwy, aI g 4096 wyf) :: (mme, aZ g 36 mef) :: (mhs, aZ g 3 hsf) :: (mso, aI g 3 sof) :: (msr, aI g 3 srf) :: (mrs, aI g 12 rsf) :: (mce, aI g 480 cef) :: (mcp, aI g 40 cpf) :: rest)) K0 12 rfl rfl hin5 tyX5 tyX5_ok nmX5 2 (by decide) fl_RX5_110 rfl (tyX5_ok 2 (by decide)) rfl rfl (Nat.le_of_ble_eq_true rfl) dX5_opens_80 rfl ?_
          refine X_aload_n K0 1 dX5_opens_83 rfl rfl ?_
          refine X_iload_n K0 2 dX5_opens_84 rfl rfl ?_
          refine X_iload_n K0 3 dX5_opens_85 rfl rfl ?_
          refine X_callV (As := [.int (nI j), .int se]) (rest := []) K0 12 (m_opensBy g c0 c1 c2 c3 c4 c5 c6 c7 c8 c9 c10 c11 mo mki mel mto mio mwy mme mhs mso msr mrs mce mcp 0 stt (tr + (trM (kinds j))) R C op hwb kinds elders tof iof wyf mef hsf sof srf rsf cef cpf rest j (by omega) (hKI.ook (th_M hR hC) (by omega)) se) mi_X5_opensBy rfl rfl rfl ml_RX5_122 rfl (Nat.le_of_ble_eq_true rfl) (by decide) ⟨Nat.le_of_ble_eq_true rfl, Nat.le_of_ble_eq_true rfl⟩ rfl rfl dX5_opens_86 ?_
          intro v w' hr'; obtain ⟨rfl, rfl⟩ := hr'
          show X φ 0 0 (c0 :: c1 :: c2 :: c3 :: c4 :: c5 :: c6 :: c7 :: c8 :: c9 :: c10 :: c11 :: (mo, oModel 0 stt (tr + (trM (kinds j))) (nI R) (nI C) (bI op) mki mel mto mio mwy (bI hwb) mme mhs mso msr mrs mce mcp) :: (mki, aI g 40 kinds) :: (mel, aI g 40 elders) :: (mto, aI g 25 tof) :: (mio, aZ g 40 iof) :: (mwy, aI g 4096 wyf) :: (mme, aZ g 36 mef) :: (mhs, aZ g 3 hsf) :: (mso, aI g 3 sof) :: (msr, aI g 3 srf) :: (mrs, aI g 12 rsf) :: (mce, aI g 480 cef) :: (mcp, aI g 40 cpf) :: rest) [(3, .int (kinds j)), (0, .ref mo), (1, .int (nI j)), (2, .int se)] 89 [.int (bI (obM kinds elders j se))]
          refine X_if_eq K0 96 dX5_opens_89 (by decide) (fun h89 => ?_) (fun h89 => ?_)
          · refine X_iconst (v := 0) K0 dX5_opens_96 (by decide) ?_
            exact hr _ _ _ _ (Or.inr ⟨j, hj, rfl, bI_n0.mp h18, by first | (rw [bI_n0.mp h89]; rfl) | (rw [bI_0.mp h89]; rfl), rfl⟩) dX5_opens_97
          · refine X_iconst (v := 1) K0 dX5_opens_92 (by decide) ?_
            refine X_goto K0 97 dX5_opens_93 (by decide) ?_
            exact hr _ _ _ _ (Or.inr ⟨j, hj, rfl, bI_n0.mp h18, by first | (rw [bI_n0.mp h89]; rfl) | (rw [bI_0.mp h89]; rfl), rfl⟩) dX5_opens_97
      · refine X_lconst (v := 1) K0 dX5_opens_39 (by decide) ?_
        refine X_goto K0 79 dX5_opens_40 (by decide) ?_
        have hq : 1 = trM (kinds j) := by first | (rw [trM, if_pos h36]) | (rw [trM, if_neg h36, if_pos h45]) | (rw [trM, if_neg h36, if_neg h45, if_pos h56]) | (rw [trM, if_neg h36, if_neg h45, if_neg h56, if_pos h67]) | (rw [trM, if_neg h36, if_neg h45, if_neg h56, if_neg h67])
        rw [hq]
        show X φ 0 0 (c0 :: c1 :: c2 :: c3 :: c4 :: c5 :: c6 :: c7 :: c8 :: c9 :: c10 :: c11 :: (mo, oModel 0 stt tr (nI R) (nI C) (bI op) mki mel mto mio mwy (bI hwb) mme mhs mso msr mrs mce mcp) :: (mki, aI g 40 kinds) :: (mel, aI g 40 elders) :: (mto, aI g 25 tof) :: (mio, aZ g 40 iof) :: (mwy, aI g 4096 wyf) :: (mme, aZ g 36 mef) :: (mhs, aZ g 3 hsf) :: (mso, aI g 3 sof) :: (msr, aI g 3 srf) :: (mrs, aI g 12 rsf) :: (mce, aI g 480 cef) :: (mcp, aI g 40 cpf) :: rest) [(3, .int (kinds j)), (0, .ref mo), (1, .int (nI j)), (2, .int se)] 79 [.long (trM (kinds j)), .long tr, .ref mo]
        refine X_ladd K0 dX5_opens_79 ?_
        refine X_put (w' := (c0 :: c1 :: c2 :: c3 :: c4 :: c5 :: c6 :: c7 :: c8 :: c9 :: c10 :: c11 :: (mo, oModel 0 stt (tr + (trM (kinds j))) (nI R) (nI C) (bI op) mki mel mto mio mwy (bI hwb) mme mhs mso msr mrs mce mcp) :: (mki, aI g 40 kinds) :: (mel, aI g 40 elders) :: (mto, aI g 25 tof) :: (mio, aZ g 40 iof) :: (mwy, aI g 4096 wyf) :: (mme, aZ g 36 mef) :: (mhs, aZ g 3 hsf) :: (mso, aI g 3 sof) :: (msr, aI g 3 srf) :: (mrs, aI g 12 rsf) :: (mce, aI g 480 cef) :: (mcp, aI g 40 cpf) :: rest)) K0 12 rfl rfl hin5 tyX5 tyX5_ok nmX5 2 (by decide) fl_RX5_110 rfl (tyX5_ok 2 (by decide)) rfl rfl (Nat.le_of_ble_eq_true rfl) dX5_opens_80 rfl ?_
        refine X_aload_n K0 1 dX5_opens_83 rfl rfl ?_
        refine X_iload_n K0 2 dX5_opens_84 rfl rfl ?_
        refine X_iload_n K0 3 dX5_opens_85 rfl rfl ?_
        refine X_callV (As := [.int (nI j), .int se]) (rest := []) K0 12 (m_opensBy g c0 c1 c2 c3 c4 c5 c6 c7 c8 c9 c10 c11 mo mki mel mto mio mwy mme mhs mso msr mrs mce mcp 0 stt (tr + (trM (kinds j))) R C op hwb kinds elders tof iof wyf mef hsf sof srf rsf cef cpf rest j (by omega) (hKI.ook (th_M hR hC) (by omega)) se) mi_X5_opensBy rfl rfl rfl ml_RX5_122 rfl (Nat.le_of_ble_eq_true rfl) (by decide) ⟨Nat.le_of_ble_eq_true rfl, Nat.le_of_ble_eq_true rfl⟩ rfl rfl dX5_opens_86 ?_
        intro v w' hr'; obtain ⟨rfl, rfl⟩ := hr'
        show X φ 0 0 (c0 :: c1 :: c2 :: c3 :: c4 :: c5 :: c6 :: c7 :: c8 :: c9 :: c10 :: c11 :: (mo, oModel 0 stt (tr + (trM (kinds j))) (nI R) (nI C) (bI op) mki mel mto mio mwy (bI hwb) mme mhs mso msr mrs mce mcp) :: (mki, aI g 40 kinds) :: (mel, aI g 40 elders) :: (mto, aI g 25 tof) :: (mio, aZ g 40 iof) :: (mwy, aI g 4096 wyf) :: (mme, aZ g 36 mef) :: (mhs, aZ g 3 hsf) :: (mso, aI g 3 sof) :: (msr, aI g 3 srf) :: (mrs, aI g 12 rsf) :: (mce, aI g 480 cef) :: (mcp, aI g 40 cpf) :: rest) [(3, .int (kinds j)), (0, .ref mo), (1, .int (nI j)), (2, .int se)] 89 [.int (bI (obM kinds elders j se))]
        refine X_if_eq K0 96 dX5_opens_89 (by decide) (fun h89 => ?_) (fun h89 => ?_)
        · refine X_iconst (v := 0) K0 dX5_opens_96 (by decide) ?_
          exact hr _ _ _ _ (Or.inr ⟨j, hj, rfl, bI_n0.mp h18, by first | (rw [bI_n0.mp h89]; rfl) | (rw [bI_0.mp h89]; rfl), rfl⟩) dX5_opens_97
        · refine X_iconst (v := 1) K0 dX5_opens_92 (by decide) ?_
          refine X_goto K0 97 dX5_opens_93 (by decide) ?_
          exact hr _ _ _ _ (Or.inr ⟨j, hj, rfl, bI_n0.mp h18, by first | (rw [bI_n0.mp h89]; rfl) | (rw [bI_0.mp h89]; rfl), rfl⟩) dX5_opens_97
    · refine X_iconst (v := (-1)) K0 dX5_opens_21 (by decide) ?_
      exact hr _ _ _ _ (Or.inl ⟨by first | exact p_n (bI_0.mp h10) | exact p_yn (bI_n0.mp h10) (bI_0.mp h18), rfl, rfl⟩) dX5_opens_22
