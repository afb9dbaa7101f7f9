set_option maxRecDepth 20000 in
set_option maxHeartbeats 400000 in
theorem m_no (g : Gx) (c0 c1 c2 c3 c4 c5 c6 c7 c8 c9 c10 c11 : Nat × va_E) (mo mki mel mto mio mwy mme mhs mso msr mrs mce mcp : Nat) (tn stt : Int32) (tr : Int64) (R C : Nat) (op hwb : Bool) (kinds elders tof iof wyf mef hsf sof srf rsf cef cpf : Nat → Int32) (rest : va_W) (e : Int32) : Con g yX5_no cX5_no 2 (some .int) 0 0 0 0 [.ref mo, .int e] (c0 :: c1 :: c2 :: c3 :: c4 :: c5 :: c6 :: c7 :: c8 :: c9 :: c10 :: c11 :: (mo, oModel tn stt tr (nI R) (nI C) (bI op) mki mel mto mio mwy (bI hwb) mme mhs mso msr mrs mce mcp) :: (mki, aI g 40 kinds) :: (mel, aI g 40 elders) :: (mto, aI g 25 tof) :: (mio, aZ g 40 iof) :: (mwy, aI g 4096 wyf) :: (mme, aZ g 36 mef) :: (mhs, aZ g 3 hsf) :: (mso, aI g 3 sof) :: (msr, aI g 3 srf) :: (mrs, aI g 12 rsf) :: (mce, aI g 480 cef) :: (mcp, aI g 40 cpf) :: rest) (Rs (some (.int e)) (c0 :: c1 :: c2 :: c3 :: c4 :: c5 :: c6 :: c7 :: c8 :: c9 :: c10 :: c11 :: (mo, oModel tn e tr (nI R) (nI C) (bI op) mki mel mto mio mwy (bI hwb) mme mhs mso msr mrs mce mcp) :: (mki, aI g 40 kinds) :: (mel, aI g 40 elders) :: (mto, aI g 25 tof) :: (mio, aZ g 40 iof) :: (mwy, aI g 4096 wyf) :: (mme, aZ g 36 mef) :: (mhs, aZ g 3 hsf) :: (mso, aI g 3 sof) :: (msr, aI g 3 srf) :: (mrs, aI g 12 rsf) :: (mce, aI g 480 cef) :: (mcp, aI g 40 cpf) :: rest)) := by
  refine Con.ofI (by decide +kernel) (Nat.le_of_ble_eq_true rfl) (fun φ K0 hr => ?_)
  show X φ 0 0 (c0 :: c1 :: c2 :: c3 :: c4 :: c5 :: c6 :: c7 :: c8 :: c9 :: c10 :: c11 :: (mo, oModel tn stt tr (nI R) (nI C) (bI op) mki mel mto mio mwy (bI hwb) mme mhs mso msr mrs mce mcp) :: (mki, aI g 40 kinds) :: (mel, aI g 40 elders) :: (mto, aI g 25 tof) :: (mio, aZ g 40 iof) :: (mwy, aI g 4096 wyf) :: (mme, aZ g 36 mef) :: (mhs, aZ g 3 hsf) :: (mso, aI g 3 sof) :: (msr, aI g 3 srf) :: (mrs, aI g 12 rsf) :: (mce, aI g 480 cef) :: (mcp, aI g 40 cpf) :: rest) [(0, .ref mo), (1, .int e)] 0 []
  refine X_aload_n K0 0 dX5_no_0 rfl rfl ?_
  refine X_iload_n K0 1 dX5_no_1 rfl rfl ?_
  refine X_put (w' := (c0 :: c1 :: c2 :: c3 :: c4 :: c5 :: c6 :: c7 :: c8 :: c9 :: c10 :: c11 :: (mo, oModel tn e tr (nI R) (nI C) (bI op) mki mel mto mio mwy (bI hwb) mme mhs mso msr mrs mce mcp) :: (mki, aI g 40 kinds) :: (mel, aI g 40 elders) :: (mto, aI g 25 tof) :: (mio, aZ g 40 iof) :: (mwy, aI g 4096 wyf) :: (mme, aZ g 36 mef) :: (mhs, aZ g 3 hsf) :: (mso, aI g 3 sof) :: (msr, aI g 3 srf) :: (mrs, aI g 12 rsf) :: (mce, aI g 480 cef) :: (mcp, aI g 40 cpf) :: rest)) K0 12 rfl rfl hin5 tyX5 tyX5_ok nmX5 1 (by decide) fl_RX5_175 rfl (tyX5_ok 1 (by decide)) rfl rfl (Nat.le_of_ble_eq_true rfl) dX5_no_2 rfl ?_
  refine X_iload_n K0 1 dX5_no_5 rfl rfl ?_
  exact hr _ _ _ _ ⟨rfl, rfl⟩ dX5_no_6

set_option maxRecDepth 20000 in
set_option maxHeartbeats 400000 in
theorem m_sheet (g : Gx) (c0 c1 c2 c3 c4 c5 c6 c7 c8 c9 c10 c11 : Nat × va_E) (mo mki mel mto mio mwy mme mhs mso msr mrs mce mcp : Nat) (tn stt : Int32) (tr : Int64) (R C : Nat) (op hwb : Bool) (kinds elders tof iof wyf mef hsf sof srf rsf cef cpf : Nat → Int32) (rest : va_W) (abs : Nat → SH) (hMS : MSh abs hsf sof srf rsf cef) (x so n : Int32) : Con g yX5_sheet cX5_sheet 5 (some .int) 1 22 0 0 [.ref mo, .int x, .int so, .int n] (c0 :: c1 :: c2 :: c3 :: c4 :: c5 :: c6 :: c7 :: c8 :: c9 :: c10 :: c11 :: (mo, oModel tn stt tr (nI R) (nI C) (bI op) mki mel mto mio mwy (bI hwb) mme mhs mso msr mrs mce mcp) :: (mki, aI g 40 kinds) :: (mel, aI g 40 elders) :: (mto, aI g 25 tof) :: (mio, aZ g 40 iof) :: (mwy, aI g 4096 wyf) :: (mme, aZ g 36 mef) :: (mhs, aZ g 3 hsf) :: (mso, aI g 3 sof) :: (msr, aI g 3 srf) :: (mrs, aI g 12 rsf) :: (mce, aI g 480 cef) :: (mcp, aI g 40 cpf) :: rest) (fun v' w' => (¬ (sheD x so n) = 0 ∧ v' = some (.int (sheD x so n)) ∧ (c0 :: c1 :: c2 :: c3 :: c4 :: c5 :: c6 :: c7 :: c8 :: c9 :: c10 :: c11 :: (mo, oModel 0 (sheD x so n) tr (nI R) (nI C) (bI op) mki mel mto mio mwy (bI hwb) mme mhs mso msr mrs mce mcp) :: (mki, aI g 40 kinds) :: (mel, aI g 40 elders) :: (mto, aI g 25 tof) :: (mio, aZ g 40 iof) :: (mwy, aI g 4096 wyf) :: (mme, aZ g 36 mef) :: (mhs, aZ g 3 hsf) :: (mso, aI g 3 sof) :: (msr, aI g 3 srf) :: (mrs, aI g 12 rsf) :: (mce, aI g 480 cef) :: (mcp, aI g 40 cpf) :: rest) = w') ∨ ((sheD x so n) = 0 ∧ v' = some (.int 1) ∧ ∃ (j n' : Nat) (hs1 so1 sr1 rs1 : Nat → Int32), j < 3 ∧ x = nI j ∧ (so = 0 ∨ so = 1) ∧ n' ≤ 4 ∧ n = nI n' ∧ MSh (upA abs j (some (so, n', fun _ => none))) hs1 so1 sr1 rs1 cef ∧ (c0 :: c1 :: c2 :: c3 :: c4 :: c5 :: c6 :: c7 :: c8 :: c9 :: c10 :: c11 :: (mo, oModel 0 0 tr (nI R) (nI C) (bI op) mki mel mto mio mwy (bI hwb) mme mhs mso msr mrs mce mcp) :: (mki, aI g 40 kinds) :: (mel, aI g 40 elders) :: (mto, aI g 25 tof) :: (mio, aZ g 40 iof) :: (mwy, aI g 4096 wyf) :: (mme, aZ g 36 mef) :: (mhs, aZ g 3 hs1) :: (mso, aI g 3 so1) :: (msr, aI g 3 sr1) :: (mrs, aI g 12 rs1) :: (mce, aI g 480 cef) :: (mcp, aI g 40 cpf) :: rest) = w')) := by
  refine Con.ofI (by decide +kernel) (Nat.le_of_ble_eq_true rfl) (fun φ K0 hr => ?_)
  show X φ 0 0 (c0 :: c1 :: c2 :: c3 :: c4 :: c5 :: c6 :: c7 :: c8 :: c9 :: c10 :: c11 :: (mo, oModel tn stt tr (nI R) (nI C) (bI op) mki mel mto mio mwy (bI hwb) mme mhs mso msr mrs mce mcp) :: (mki, aI g 40 kinds) :: (mel, aI g 40 elders) :: (mto, aI g 25 tof) :: (mio, aZ g 40 iof) :: (mwy, aI g 4096 wyf) :: (mme, aZ g 36 mef) :: (mhs, aZ g 3 hsf) :: (mso, aI g 3 sof) :: (msr, aI g 3 srf) :: (mrs, aI g 12 rsf) :: (mce, aI g 480 cef) :: (mcp, aI g 40 cpf) :: rest) [(0, .ref mo), (1, .int x), (2, .int so), (3, .int n)] 0 []
  refine X_aload_n K0 0 dX5_sheet_0 rfl rfl ?_
  refine X_iconst (v := 0) K0 dX5_sheet_1 (by decide) ?_
  refine X_put (w' := (c0 :: c1 :: c2 :: c3 :: c4 :: c5 :: c6 :: c7 :: c8 :: c9 :: c10 :: c11 :: (mo, oModel 0 stt tr (nI R) (nI C) (bI op) mki mel mto mio mwy (bI hwb) mme mhs mso msr mrs mce mcp) :: (mki, aI g 40 kinds) :: (mel, aI g 40 elders) :: (mto, aI g 25 tof) :: (mio, aZ g 40 iof) :: (mwy, aI g 4096 wyf) :: (mme, aZ g 36 mef) :: (mhs, aZ g 3 hsf) :: (mso, aI g 3 sof) :: (msr, aI g 3 srf) :: (mrs, aI g 12 rsf) :: (mce, aI g 480 cef) :: (mcp, aI g 40 cpf) :: rest)) K0 12 rfl rfl hin5 tyX5 tyX5_ok nmX5 0 (by decide) fl_RX5_58 rfl (tyX5_ok 0 (by decide)) rfl rfl (Nat.le_of_ble_eq_true rfl) dX5_sheet_2 rfl ?_
  refine X_aload_n K0 0 dX5_sheet_5 rfl rfl ?_
  refine X_iconst (v := 0) K0 dX5_sheet_6 (by decide) ?_
  refine X_put (w' := (c0 :: c1 :: c2 :: c3 :: c4 :: c5 :: c6 :: c7 :: c8 :: c9 :: c10 :: c11 :: (mo, oModel 0 0 tr (nI R) (nI C) (bI op) mki mel mto mio mwy (bI hwb) mme mhs mso msr mrs mce mcp) :: (mki, aI g 40 kinds) :: (mel, aI g 40 elders) :: (mto, aI g 25 tof) :: (mio, aZ g 40 iof) :: (mwy, aI g 4096 wyf) :: (mme, aZ g 36 mef) :: (mhs, aZ g 3 hsf) :: (mso, aI g 3 sof) :: (msr, aI g 3 srf) :: (mrs, aI g 12 rsf) :: (mce, aI g 480 cef) :: (mcp, aI g 40 cpf) :: rest)) K0 12 rfl rfl hin5 tyX5 tyX5_ok nmX5 1 (by decide) fl_RX5_175 rfl (tyX5_ok 1 (by decide)) rfl rfl (Nat.le_of_ble_eq_true rfl) dX5_sheet_7 rfl ?_
  refine X_iload_n K0 1 dX5_sheet_10 rfl rfl ?_
  refine X_iconst (v := 0) K0 dX5_sheet_11 (by decide) ?_
  refine X_iconst (v := 2) K0 dX5_sheet_12 (by decide) ?_
  refine X_callS (As := [.int x, .int 0, .int 2]) (rest := []) K0 (c_in g (c0 :: c1 :: c2 :: c3 :: c4 :: c5 :: c6 :: c7 :: c8 :: c9 :: c10 :: c11 :: (mo, oModel 0 0 tr (nI R) (nI C) (bI op) mki mel mto mio mwy (bI hwb) mme mhs mso msr mrs mce mcp) :: (mki, aI g 40 kinds) :: (mel, aI g 40 elders) :: (mto, aI g 25 tof) :: (mio, aZ g 40 iof) :: (mwy, aI g 4096 wyf) :: (mme, aZ g 36 mef) :: (mhs, aZ g 3 hsf) :: (mso, aI g 3 sof) :: (msr, aI g 3 srf) :: (mrs, aI g 12 rsf) :: (mce, aI g 480 cef) :: (mcp, aI g 40 cpf) :: rest) x 0 2) ms_X5_in rfl ml_RX5_81 rfl (Nat.le_of_ble_eq_true rfl) (by decide) ⟨Nat.le_of_ble_eq_true rfl, Nat.le_of_ble_eq_true rfl⟩ rfl rfl dX5_sheet_13 ?_
  intro v w' hr'; obtain ⟨rfl, rfl⟩ := hr'
  show X φ 0 0 (c0 :: c1 :: c2 :: c3 :: c4 :: c5 :: c6 :: c7 :: c8 :: c9 :: c10 :: c11 :: (mo, oModel 0 0 tr (nI R) (nI C) (bI op) mki mel mto mio mwy (bI hwb) mme mhs mso msr mrs mce mcp) :: (mki, aI g 40 kinds) :: (mel, aI g 40 elders) :: (mto, aI g 25 tof) :: (mio, aZ g 40 iof) :: (mwy, aI g 4096 wyf) :: (mme, aZ g 36 mef) :: (mhs, aZ g 3 hsf) :: (mso, aI g 3 sof) :: (msr, aI g 3 srf) :: (mrs, aI g 12 rsf) :: (mce, aI g 480 cef) :: (mcp, aI g 40 cpf) :: rest) [(0, .ref mo), (1, .int x), (2, .int so), (3, .int n)] 16 [.int (bI (wiB x 0 2))]
  refine X_if_eq K0 33 dX5_sheet_16 (by decide) (fun h16 => ?_) (fun h16 => ?_)
  · refine X_aload_n K0 0 dX5_sheet_33 rfl rfl ?_
    refine X_iconst (v := (-1)) K0 dX5_sheet_34 (by decide) ?_
    refine X_callV (As := [.int (-1)]) (rest := []) K0 12 (m_no g c0 c1 c2 c3 c4 c5 c6 c7 c8 c9 c10 c11 mo mki mel mto mio mwy mme mhs mso msr mrs mce mcp 0 0 tr R C op hwb kinds elders tof iof wyf mef hsf sof srf rsf cef cpf rest (-1)) mi_X5_no rfl rfl rfl ml_RX5_178 rfl (Nat.le_of_ble_eq_true rfl) (by decide) ⟨Nat.le_of_ble_eq_true rfl, Nat.le_of_ble_eq_true rfl⟩ rfl rfl dX5_sheet_35 ?_
    intro v w' hr'; obtain ⟨rfl, rfl⟩ := hr'
    show X φ 0 0 (c0 :: c1 :: c2 :: c3 :: c4 :: c5 :: c6 :: c7 :: c8 :: c9 :: c10 :: c11 :: (mo, oModel 0 (-1) tr (nI R) (nI C) (bI op) mki mel mto mio mwy (bI hwb) mme mhs mso msr mrs mce mcp) :: (mki, aI g 40 kinds) :: (mel, aI g 40 elders) :: (mto, aI g 25 tof) :: (mio, aZ g 40 iof) :: (mwy, aI g 4096 wyf) :: (mme, aZ g 36 mef) :: (mhs, aZ g 3 hsf) :: (mso, aI g 3 sof) :: (msr, aI g 3 srf) :: (mrs, aI g 12 rsf) :: (mce, aI g 480 cef) :: (mcp, aI g 40 cpf) :: rest) [(0, .ref mo), (1, .int x), (2, .int so), (3, .int n)] 38 [.int (-1)]
    exact hr _ _ _ _ (Or.inl (by rw [show sheD x so n = -1 by first | exact she_b1 h16 | exact she_b2 h25 | exact she_b3 h30]; exact ⟨by decide, rfl, rfl⟩)) dX5_sheet_38
  · refine X_iload_n K0 2 dX5_sheet_19 rfl rfl ?_
    refine X_iconst (v := 0) K0 dX5_sheet_20 (by decide) ?_
    refine X_iconst (v := 1) K0 dX5_sheet_21 (by decide) ?_
    refine X_callS (As := [.int so, .int 0, .int 1]) (rest := []) K0 (c_in g (c0 :: c1 :: c2 :: c3 :: c4 :: c5 :: c6 :: c7 :: c8 :: c9 :: c10 :: c11 :: (mo, oModel 0 0 tr (nI R) (nI C) (bI op) mki mel mto mio mwy (bI hwb) mme mhs mso msr mrs mce mcp) :: (mki, aI g 40 kinds) :: (mel, aI g 40 elders) :: (mto, aI g 25 tof) :: (mio, aZ g 40 iof) :: (mwy, aI g 4096 wyf) :: (mme, aZ g 36 mef) :: (mhs, aZ g 3 hsf) :: (mso, aI g 3 sof) :: (msr, aI g 3 srf) :: (mrs, aI g 12 rsf) :: (mce, aI g 480 cef) :: (mcp, aI g 40 cpf) :: rest) so 0 1) ms_X5_in rfl ml_RX5_81 rfl (Nat.le_of_ble_eq_true rfl) (by decide) ⟨Nat.le_of_ble_eq_true rfl, Nat.le_of_ble_eq_true rfl⟩ rfl rfl dX5_sheet_22 ?_
    intro v w' hr'; obtain ⟨rfl, rfl⟩ := hr'
    show X φ 0 0 (c0 :: c1 :: c2 :: c3 :: c4 :: c5 :: c6 :: c7 :: c8 :: c9 :: c10 :: c11 :: (mo, oModel 0 0 tr (nI R) (nI C) (bI op) mki mel mto mio mwy (bI hwb) mme mhs mso msr mrs mce mcp) :: (mki, aI g 40 kinds) :: (mel, aI g 40 elders) :: (mto, aI g 25 tof) :: (mio, aZ g 40 iof) :: (mwy, aI g 4096 wyf) :: (mme, aZ g 36 mef) :: (mhs, aZ g 3 hsf) :: (mso, aI g 3 sof) :: (msr, aI g 3 srf) :: (mrs, aI g 12 rsf) :: (mce, aI g 480 cef) :: (mcp, aI g 40 cpf) :: rest) [(0, .ref mo), (1, .int x), (2, .int so), (3, .int n)] 25 [.int (bI (wiB so 0 1))]
    refine X_if_eq K0 33 dX5_sheet_25 (by decide) (fun h25 => ?_) (fun h25 => ?_)
    · refine X_aload_n K0 0 dX5_sheet_33 rfl rfl ?_
      refine X_iconst (v := (-1)) K0 dX5_sheet_34 (by decide) ?_
      refine X_callV (As := [.int (-1)]) (rest := []) K0 12 (m_no g c0 c1 c2 c3 c4 c5 c6 c7 c8 c9 c10 c11 mo mki mel mto mio mwy mme mhs mso msr mrs mce mcp 0 0 tr R C op hwb kinds elders tof iof wyf mef hsf sof srf rsf cef cpf rest (-1)) mi_X5_no rfl rfl rfl ml_RX5_178 rfl (Nat.le_of_ble_eq_true rfl) (by decide) ⟨Nat.le_of_ble_eq_true rfl, Nat.le_of_ble_eq_true rfl⟩ rfl rfl dX5_sheet_35 ?_
      intro v w' hr'; obtain ⟨rfl, rfl⟩ := hr'
      show X φ 0 0 (c0 :: c1 :: c2 :: c3 :: c4 :: c5 :: c6 :: c7 :: c8 :: c9 :: c10 :: c11 :: (mo, oModel 0 (-1) tr (nI R) (nI C) (bI op) mki mel mto mio mwy (bI hwb) mme mhs mso msr mrs mce mcp) :: (mki, aI g 40 kinds) :: (mel, aI g 40 elders) :: (mto, aI g 25 tof) :: (mio, aZ g 40 iof) :: (mwy, aI g 4096 wyf) :: (mme, aZ g 36 mef) :: (mhs, aZ g 3 hsf) :: (mso, aI g 3 sof) :: (msr, aI g 3 srf) :: (mrs, aI g 12 rsf) :: (mce, aI g 480 cef) :: (mcp, aI g 40 cpf) :: rest) [(0, .ref mo), (1, .int x), (2, .int so), (3, .int n)] 38 [.int (-1)]
      exact hr _ _ _ _ (Or.inl (by rw [show sheD x so n = -1 by first | exact she_b1 h16 | exact she_b2 h25 | exact she_b3 h30]; exact ⟨by decide, rfl, rfl⟩)) dX5_sheet_38
    · refine X_iload_n K0 3 dX5_sheet_28 rfl rfl ?_
      refine X_iconst (v := 4) K0 dX5_sheet_29 (by decide) ?_
      refine X_icmp_le K0 39 dX5_sheet_30 (by decide) (fun h30 => ?_) (fun h30 => ?_)
      · refine X_iload_n K0 3 dX5_sheet_39 rfl rfl ?_
        refine X_if_ge K0 50 dX5_sheet_40 (by decide) (fun h40 => ?_) (fun h40 => ?_)
        · have hx16 := h16
          obtain ⟨j, hj, rfl⟩ := wi_3 (bI_n0.mp h16)
          obtain ⟨n', hn, rfl⟩ := nI_of (Int32.not_lt.mpr h40)
          have hn4 : n' ≤ 4 := (nI_leI (b := 4) hn (by decide)).mp h30
          refine X_aload_n K0 0 dX5_sheet_50 rfl rfl ?_
          refine X_get K0 12 rfl rfl hin5 13 (by decide) fl_RX5_36 rfl dX5_sheet_51 ?_
          refine X_iload_n K0 1 dX5_sheet_54 rfl rfl ?_
          refine X_iconst (v := 1) K0 dX5_sheet_55 (by decide) ?_
          refine X_v (z := (bI true)) rfl ?_
          refine X_zastN (w' := (c0 :: c1 :: c2 :: c3 :: c4 :: c5 :: c6 :: c7 :: c8 :: c9 :: c10 :: c11 :: (mo, oModel 0 0 tr (nI R) (nI C) (bI op) mki mel mto mio mwy (bI hwb) mme mhs mso msr mrs mce mcp) :: (mki, aI g 40 kinds) :: (mel, aI g 40 elders) :: (mto, aI g 25 tof) :: (mio, aZ g 40 iof) :: (mwy, aI g 4096 wyf) :: (mme, aZ g 36 mef) :: (mhs, aZ g 3 (upd hsf j (bI true))) :: (mso, aI g 3 sof) :: (msr, aI g 3 srf) :: (mrs, aI g 12 rsf) :: (mce, aI g 480 cef) :: (mcp, aI g 40 cpf) :: rest)) K0 19 rfl (by omega) (by first | decide | omega) dX5_sheet_56 rfl ?_
          refine X_aload_n K0 0 dX5_sheet_57 rfl rfl ?_
          refine X_get K0 12 rfl rfl hin5 14 (by decide) fl_RX5_39 rfl dX5_sheet_58 ?_
          refine X_iload_n K0 1 dX5_sheet_61 rfl rfl ?_
          refine X_iload_n K0 2 dX5_sheet_62 rfl rfl ?_
          refine X_iastN (w' := (c0 :: c1 :: c2 :: c3 :: c4 :: c5 :: c6 :: c7 :: c8 :: c9 :: c10 :: c11 :: (mo, oModel 0 0 tr (nI R) (nI C) (bI op) mki mel mto mio mwy (bI hwb) mme mhs mso msr mrs mce mcp) :: (mki, aI g 40 kinds) :: (mel, aI g 40 elders) :: (mto, aI g 25 tof) :: (mio, aZ g 40 iof) :: (mwy, aI g 4096 wyf) :: (mme, aZ g 36 mef) :: (mhs, aZ g 3 (upd hsf j (bI true))) :: (mso, aI g 3 (upd sof j so)) :: (msr, aI g 3 srf) :: (mrs, aI g 12 rsf) :: (mce, aI g 480 cef) :: (mcp, aI g 40 cpf) :: rest)) K0 20 rfl (by omega) (by first | decide | omega) dX5_sheet_63 rfl ?_
          refine X_aload_n K0 0 dX5_sheet_64 rfl rfl ?_
          refine X_get K0 12 rfl rfl hin5 15 (by decide) fl_RX5_42 rfl dX5_sheet_65 ?_
          refine X_iload_n K0 1 dX5_sheet_68 rfl rfl ?_
          refine X_iload_n K0 3 dX5_sheet_69 rfl rfl ?_
          refine X_iastN (w' := (c0 :: c1 :: c2 :: c3 :: c4 :: c5 :: c6 :: c7 :: c8 :: c9 :: c10 :: c11 :: (mo, oModel 0 0 tr (nI R) (nI C) (bI op) mki mel mto mio mwy (bI hwb) mme mhs mso msr mrs mce mcp) :: (mki, aI g 40 kinds) :: (mel, aI g 40 elders) :: (mto, aI g 25 tof) :: (mio, aZ g 40 iof) :: (mwy, aI g 4096 wyf) :: (mme, aZ g 36 mef) :: (mhs, aZ g 3 (upd hsf j (bI true))) :: (mso, aI g 3 (upd sof j so)) :: (msr, aI g 3 (upd srf j (nI n'))) :: (mrs, aI g 12 rsf) :: (mce, aI g 480 cef) :: (mcp, aI g 40 cpf) :: rest)) K0 21 rfl (by omega) (by first | decide | omega) dX5_sheet_70 rfl ?_
          refine X_iconst (v := 0) K0 dX5_sheet_71 (by decide) ?_
          refine X_istore (L' := [(4, .int 0), (0, .ref mo), (1, .int (nI j)), (2, .int so), (3, .int (nI n'))]) K0 dX5_sheet_72 (by decide) rfl ?_
          refine X.sub [1, 2, 3, 4, 0] (L' := [(0, .ref mo), (1, .int (nI j)), (2, .int so), (3, .int (nI n')), (4, .int 0)]) rfl ?_
          have LOOP : ∀ (dd ii : Nat), ii + dd = 4 → X φ 0 0 (c0 :: c1 :: c2 :: c3 :: c4 :: c5 :: c6 :: c7 :: c8 :: c9 :: c10 :: c11 :: (mo, oModel 0 0 tr (nI R) (nI C) (bI op) mki mel mto mio mwy (bI hwb) mme mhs mso msr mrs mce mcp) :: (mki, aI g 40 kinds) :: (mel, aI g 40 elders) :: (mto, aI g 25 tof) :: (mio, aZ g 40 iof) :: (mwy, aI g 4096 wyf) :: (mme, aZ g 36 mef) :: (mhs, aZ g 3 (upd hsf j (bI true))) :: (mso, aI g 3 (upd sof j so)) :: (msr, aI g 3 (upd srf j (nI n'))) :: (mrs, aI g 12 (ovW (4 * j) ii (fun _ => -9) rsf)) :: (mce, aI g 480 cef) :: (mcp, aI g 40 cpf) :: rest) [(0, .ref mo), (1, .int (nI j)), (2, .int so), (3, .int (nI n')), (4, .int (nI ii))] 74 [] := by
            intro dd
            induction dd with
            | zero =>
              intro ii hii 
              have hii2 : 4 = ii := by omega
              subst hii2
              refine X_iload K0 4 dX5_sheet_74 rfl ?_
              refine X_iconst (v := 4) K0 dX5_sheet_76 (by decide) ?_
              refine X_icmp_ge K0 99 dX5_sheet_77 (by decide) (fun h77 => ?_) (fun h77 => ?_)
              · refine X_iconst (v := 1) K0 dX5_sheet_99 (by decide) ?_
                exact hr _ _ _ _ (Or.inr ⟨by rw [sheD, if_pos ⟨p_yy (bI_n0.mp h16) (soy h25), h30⟩, if_neg (Int32.not_lt.mpr h40)], rfl, j, n', _, _, _, _, hj, rfl, so01 h25, hn4, rfl, ms_sheet hMS hj (so01 h25) hn4, rfl⟩) dX5_sheet_100
              · exact absurd (nI_le (Nat.le_refl 4) (by decide)) h77
            | succ dd ih =>
              intro ii hii 
              have hlt : ii < 4 := by omega
              refine X_iload K0 4 dX5_sheet_74 rfl ?_
              refine X_iconst (v := 4) K0 dX5_sheet_76 (by decide) ?_
              refine X_icmp_ge K0 99 dX5_sheet_77 (by decide) (fun h77 => ?_) (fun h77 => ?_)
              · exact absurd h77 (nI_ge (b := 4) hlt (by decide))
              · refine X_aload_n K0 0 dX5_sheet_80 rfl rfl ?_
                refine X_get K0 12 rfl rfl hin5 16 (by decide) fl_RX5_45 rfl dX5_sheet_81 ?_
                refine X_iconst (v := 4) K0 dX5_sheet_84 (by decide) ?_
                refine X_iload_n K0 1 dX5_sheet_85 rfl rfl ?_
                refine X_imul K0 dX5_sheet_86 ?_
                refine X_v (z := (nI (4 * j))) (pk_mul 4 j) ?_
                refine X_iload K0 4 dX5_sheet_87 rfl ?_
                refine X_iadd K0 dX5_sheet_89 ?_
                refine X_v (z := (nI (4 * j + ii))) (nI_add _ _) ?_
                refine X_bipush (v := (-9)) K0 dX5_sheet_90 (by decide) ?_
                refine X_iastN (w' := (c0 :: c1 :: c2 :: c3 :: c4 :: c5 :: c6 :: c7 :: c8 :: c9 :: c10 :: c11 :: (mo, oModel 0 0 tr (nI R) (nI C) (bI op) mki mel mto mio mwy (bI hwb) mme mhs mso msr mrs mce mcp) :: (mki, aI g 40 kinds) :: (mel, aI g 40 elders) :: (mto, aI g 25 tof) :: (mio, aZ g 40 iof) :: (mwy, aI g 4096 wyf) :: (mme, aZ g 36 mef) :: (mhs, aZ g 3 (upd hsf j (bI true))) :: (mso, aI g 3 (upd sof j so)) :: (msr, aI g 3 (upd srf j (nI n'))) :: (mrs, aI g 12 (upd (ovW (4 * j) ii (fun _ => -9) rsf) (4 * j + ii) (-9))) :: (mce, aI g 480 cef) :: (mcp, aI g 40 cpf) :: rest)) K0 22 rfl (by omega) (by first | decide | omega) dX5_sheet_92 rfl ?_
                refine X_iinc (v := ((nI ii) + 1)) (L' := [(4, .int ((nI ii) + 1)), (0, .ref mo), (1, .int (nI j)), (2, .int so), (3, .int (nI n'))]) K0 4 dX5_sheet_93 rfl (by first | rfl | decide) (by decide) rfl ?_
                refine X_goto K0 74 dX5_sheet_96 (by decide) ?_
                refine X.sub [1, 2, 3, 4, 0] (L' := [(0, .ref mo), (1, .int (nI j)), (2, .int so), (3, .int (nI n')), (4, .int ((nI ii) + 1))]) rfl ?_
                exact X_eq (by rw [ovW_s (4 * j) ii (fun _ => -9) rsf rfl]) (by rw [nI_succ] <;> rfl) rfl (ih (ii + 1) (by omega))
          exact X_eq (by rw [ovW_0]) rfl rfl (LOOP 4 0 (by omega))
        · refine X_aload_n K0 0 dX5_sheet_43 rfl rfl ?_
          refine X_bipush (v := (-15)) K0 dX5_sheet_44 (by decide) ?_
          refine X_callV (As := [.int (-15)]) (rest := []) K0 12 (m_no g c0 c1 c2 c3 c4 c5 c6 c7 c8 c9 c10 c11 mo mki mel mto mio mwy mme mhs mso msr mrs mce mcp 0 0 tr R C op hwb kinds elders tof iof wyf mef hsf sof srf rsf cef cpf rest (-15)) mi_X5_no rfl rfl rfl ml_RX5_178 rfl (Nat.le_of_ble_eq_true rfl) (by decide) ⟨Nat.le_of_ble_eq_true rfl, Nat.le_of_ble_eq_true rfl⟩ rfl rfl dX5_sheet_46 ?_
          intro v w' hr'; obtain ⟨rfl, rfl⟩ := hr'
          show X φ 0 0 (c0 :: c1 :: c2 :: c3 :: c4 :: c5 :: c6 :: c7 :: c8 :: c9 :: c10 :: c11 :: (mo, oModel 0 (-15) tr (nI R) (nI C) (bI op) mki mel mto mio mwy (bI hwb) mme mhs mso msr mrs mce mcp) :: (mki, aI g 40 kinds) :: (mel, aI g 40 elders) :: (mto, aI g 25 tof) :: (mio, aZ g 40 iof) :: (mwy, aI g 4096 wyf) :: (mme, aZ g 36 mef) :: (mhs, aZ g 3 hsf) :: (mso, aI g 3 sof) :: (msr, aI g 3 srf) :: (mrs, aI g 12 rsf) :: (mce, aI g 480 cef) :: (mcp, aI g 40 cpf) :: rest) [(0, .ref mo), (1, .int x), (2, .int so), (3, .int n)] 49 [.int (-15)]
          exact hr _ _ _ _ (Or.inl (by rw [show sheD x so n = -15 by rw [sheD, if_pos ⟨p_yy (bI_n0.mp h16) (soy h25), h30⟩, if_pos (Int32.not_le.mp h40)]]; exact ⟨by decide, rfl, rfl⟩)) dX5_sheet_49
      · refine X_aload_n K0 0 dX5_sheet_33 rfl rfl ?_
        refine X_iconst (v := (-1)) K0 dX5_sheet_34 (by decide) ?_
        refine X_callV (As := [.int (-1)]) (rest := []) K0 12 (m_no g c0 c1 c2 c3 c4 c5 c6 c7 c8 c9 c10 c11 mo mki mel mto mio mwy mme mhs mso msr mrs mce mcp 0 0 tr R C op hwb kinds elders tof iof wyf mef hsf sof srf rsf cef cpf rest (-1)) mi_X5_no rfl rfl rfl ml_RX5_178 rfl (Nat.le_of_ble_eq_true rfl) (by decide) ⟨Nat.le_of_ble_eq_true rfl, Nat.le_of_ble_eq_true rfl⟩ rfl rfl dX5_sheet_35 ?_
        intro v w' hr'; obtain ⟨rfl, rfl⟩ := hr'
        show X φ 0 0 (c0 :: c1 :: c2 :: c3 :: c4 :: c5 :: c6 :: c7 :: c8 :: c9 :: c10 :: c11 :: (mo, oModel 0 (-1) tr (nI R) (nI C) (bI op) mki mel mto mio mwy (bI hwb) mme mhs mso msr mrs mce mcp) :: (mki, aI g 40 kinds) :: (mel, aI g 40 elders) :: (mto, aI g 25 tof) :: (mio, aZ g 40 iof) :: (mwy, aI g 4096 wyf) :: (mme, aZ g 36 mef) :: (mhs, aZ g 3 hsf) :: (mso, aI g 3 sof) :: (msr, aI g 3 srf) :: (mrs, aI g 12 rsf) :: (mce, aI g 480 cef) :: (mcp, aI g 40 cpf) :: rest) [(0, .ref mo), (1, .int x), (2, .int so), (3, .int n)] 38 [.int (-1)]
        exact hr _ _ _ _ (Or.inl (by rw [show sheD x so n = -1 by first | exact she_b1 h16 | exact she_b2 h25 | exact she_b3 h30]; exact ⟨by decide, rfl, rfl⟩)) dX5_sheet_38

set_option maxRecDepth 20000 in
set_option maxHeartbeats 400000 in
theorem m_row (g : Gx) (c0 c1 c2 c3 c4 c5 c6 c7 c8 c9 c10 c11 : Nat × va_E) (mo mki mel mto mio mwy mme mhs mso msr mrs mce mcp : Nat) (tn stt : Int32) (tr : Int64) (R C : Nat) (op hwb : Bool) (kinds elders tof iof wyf mef hsf sof srf rsf cef cpf : Nat → Int32) (rest : va_W) (abs : Nat → SH) (hMS : MSh abs hsf sof srf rsf cef) (x r n : Int32) : Con g yX5_row cX5_row 5 (some .int) 1 22 0 0 [.ref mo, .int x, .int r, .int n] (c0 :: c1 :: c2 :: c3 :: c4 :: c5 :: c6 :: c7 :: c8 :: c9 :: c10 :: c11 :: (mo, oModel tn stt tr (nI R) (nI C) (bI op) mki mel mto mio mwy (bI hwb) mme mhs mso msr mrs mce mcp) :: (mki, aI g 40 kinds) :: (mel, aI g 40 elders) :: (mto, aI g 25 tof) :: (mio, aZ g 40 iof) :: (mwy, aI g 4096 wyf) :: (mme, aZ g 36 mef) :: (mhs, aZ g 3 hsf) :: (mso, aI g 3 sof) :: (msr, aI g 3 srf) :: (mrs, aI g 12 rsf) :: (mce, aI g 480 cef) :: (mcp, aI g 40 cpf) :: rest) (fun v' w' => (¬ (rwD abs x r n) = 0 ∧ v' = some (.int (rwD abs x r n)) ∧ (c0 :: c1 :: c2 :: c3 :: c4 :: c5 :: c6 :: c7 :: c8 :: c9 :: c10 :: c11 :: (mo, oModel 0 (rwD abs x r n) tr (nI R) (nI C) (bI op) mki mel mto mio mwy (bI hwb) mme mhs mso msr mrs mce mcp) :: (mki, aI g 40 kinds) :: (mel, aI g 40 elders) :: (mto, aI g 25 tof) :: (mio, aZ g 40 iof) :: (mwy, aI g 4096 wyf) :: (mme, aZ g 36 mef) :: (mhs, aZ g 3 hsf) :: (mso, aI g 3 sof) :: (msr, aI g 3 srf) :: (mrs, aI g 12 rsf) :: (mce, aI g 480 cef) :: (mcp, aI g 40 cpf) :: rest) = w') ∨ ((rwD abs x r n) = 0 ∧ v' = some (.int 1) ∧ ∃ (j jr n' : Nat) (so : Int32) (nr : Nat) (rows : Nat → RW) (rs1 ce1 : Nat → Int32), j < 3 ∧ x = nI j ∧ abs j = some (so, nr, rows) ∧ jr < nr ∧ r = nI jr ∧ n' ≤ 40 ∧ n = nI n' ∧ MSh (upA abs j (some (so, nr, upA rows jr (some (n', fun _ => 0))))) hsf sof srf rs1 ce1 ∧ (c0 :: c1 :: c2 :: c3 :: c4 :: c5 :: c6 :: c7 :: c8 :: c9 :: c10 :: c11 :: (mo, oModel 0 0 tr (nI R) (nI C) (bI op) mki mel mto mio mwy (bI hwb) mme mhs mso msr mrs mce mcp) :: (mki, aI g 40 kinds) :: (mel, aI g 40 elders) :: (mto, aI g 25 tof) :: (mio, aZ g 40 iof) :: (mwy, aI g 4096 wyf) :: (mme, aZ g 36 mef) :: (mhs, aZ g 3 hsf) :: (mso, aI g 3 sof) :: (msr, aI g 3 srf) :: (mrs, aI g 12 rs1) :: (mce, aI g 480 ce1) :: (mcp, aI g 40 cpf) :: rest) = w')) := by
  refine Con.ofI (by decide +kernel) (Nat.le_of_ble_eq_true rfl) (fun φ K0 hr => ?_)
  show X φ 0 0 (c0 :: c1 :: c2 :: c3 :: c4 :: c5 :: c6 :: c7 :: c8 :: c9 :: c10 :: c11 :: (mo, oModel tn stt tr (nI R) (nI C) (bI op) mki mel mto mio mwy (bI hwb) mme mhs mso msr mrs mce mcp) :: (mki, aI g 40 kinds) :: (mel, aI g 40 elders) :: (mto, aI g 25 tof) :: (mio, aZ g 40 iof) :: (mwy, aI g 4096 wyf) :: (mme, aZ g 36 mef) :: (mhs, aZ g 3 hsf) :: (mso, aI g 3 sof) :: (msr, aI g 3 srf) :: (mrs, aI g 12 rsf) :: (mce, aI g 480 cef) :: (mcp, aI g 40 cpf) :: rest) [(0, .ref mo), (1, .int x), (2, .int r), (3, .int n)] 0 []
  refine X_aload_n K0 0 dX5_row_0 rfl rfl ?_
  refine X_iconst (v := 0) K0 dX5_row_1 (by decide) ?_
  refine X_put (w' := (c0 :: c1 :: c2 :: c3 :: c4 :: c5 :: c6 :: c7 :: c8 :: c9 :: c10 :: c11 :: (mo, oModel 0 stt tr (nI R) (nI C) (bI op) mki mel mto mio mwy (bI hwb) mme mhs mso msr mrs mce mcp) :: (mki, aI g 40 kinds) :: (mel, aI g 40 elders) :: (mto, aI g 25 tof) :: (mio, aZ g 40 iof) :: (mwy, aI g 4096 wyf) :: (mme, aZ g 36 mef) :: (mhs, aZ g 3 hsf) :: (mso, aI g 3 sof) :: (msr, aI g 3 srf) :: (mrs, aI g 12 rsf) :: (mce, aI g 480 cef) :: (mcp, aI g 40 cpf) :: rest)) K0 12 rfl rfl hin5 tyX5 tyX5_ok nmX5 0 (by decide) fl_RX5_58 rfl (tyX5_ok 0 (by decide)) rfl rfl (Nat.le_of_ble_eq_true rfl) dX5_row_2 rfl ?_
  refine X_aload_n K0 0 dX5_row_5 rfl rfl ?_
  refine X_iconst (v := 0) K0 dX5_row_6 (by decide) ?_
  refine X_put (w' := (c0 :: c1 :: c2 :: c3 :: c4 :: c5 :: c6 :: c7 :: c8 :: c9 :: c10 :: c11 :: (mo, oModel 0 0 tr (nI R) (nI C) (bI op) mki mel mto mio mwy (bI hwb) mme mhs mso msr mrs mce mcp) :: (mki, aI g 40 kinds) :: (mel, aI g 40 elders) :: (mto, aI g 25 tof) :: (mio, aZ g 40 iof) :: (mwy, aI g 4096 wyf) :: (mme, aZ g 36 mef) :: (mhs, aZ g 3 hsf) :: (mso, aI g 3 sof) :: (msr, aI g 3 srf) :: (mrs, aI g 12 rsf) :: (mce, aI g 480 cef) :: (mcp, aI g 40 cpf) :: rest)) K0 12 rfl rfl hin5 tyX5 tyX5_ok nmX5 1 (by decide) fl_RX5_175 rfl (tyX5_ok 1 (by decide)) rfl rfl (Nat.le_of_ble_eq_true rfl) dX5_row_7 rfl ?_
  refine X_iload_n K0 1 dX5_row_10 rfl rfl ?_
  refine X_iconst (v := 0) K0 dX5_row_11 (by decide) ?_
  refine X_iconst (v := 2) K0 dX5_row_12 (by decide) ?_
  refine X_callS (As := [.int x, .int 0, .int 2]) (rest := []) K0 (c_in g (c0 :: c1 :: c2 :: c3 :: c4 :: c5 :: c6 :: c7 :: c8 :: c9 :: c10 :: c11 :: (mo, oModel 0 0 tr (nI R) (nI C) (bI op) mki mel mto mio mwy (bI hwb) mme mhs mso msr mrs mce mcp) :: (mki, aI g 40 kinds) :: (mel, aI g 40 elders) :: (mto, aI g 25 tof) :: (mio, aZ g 40 iof) :: (mwy, aI g 4096 wyf) :: (mme, aZ g 36 mef) :: (mhs, aZ g 3 hsf) :: (mso, aI g 3 sof) :: (msr, aI g 3 srf) :: (mrs, aI g 12 rsf) :: (mce, aI g 480 cef) :: (mcp, aI g 40 cpf) :: rest) x 0 2) ms_X5_in rfl ml_RX5_81 rfl (Nat.le_of_ble_eq_true rfl) (by decide) ⟨Nat.le_of_ble_eq_true rfl, Nat.le_of_ble_eq_true rfl⟩ rfl rfl dX5_row_13 ?_
  intro v w' hr'; obtain ⟨rfl, rfl⟩ := hr'
  show X φ 0 0 (c0 :: c1 :: c2 :: c3 :: c4 :: c5 :: c6 :: c7 :: c8 :: c9 :: c10 :: c11 :: (mo, oModel 0 0 tr (nI R) (nI C) (bI op) mki mel mto mio mwy (bI hwb) mme mhs mso msr mrs mce mcp) :: (mki, aI g 40 kinds) :: (mel, aI g 40 elders) :: (mto, aI g 25 tof) :: (mio, aZ g 40 iof) :: (mwy, aI g 4096 wyf) :: (mme, aZ g 36 mef) :: (mhs, aZ g 3 hsf) :: (mso, aI g 3 sof) :: (msr, aI g 3 srf) :: (mrs, aI g 12 rsf) :: (mce, aI g 480 cef) :: (mcp, aI g 40 cpf) :: rest) [(0, .ref mo), (1, .int x), (2, .int r), (3, .int n)] 16 [.int (bI (wiB x 0 2))]
  refine X_if_eq K0 25 dX5_row_16 (by decide) (fun h16 => ?_) (fun h16 => ?_)
  · refine X_aload_n K0 0 dX5_row_25 rfl rfl ?_
    refine X_iconst (v := (-1)) K0 dX5_row_26 (by decide) ?_
    refine X_callV (As := [.int (-1)]) (rest := []) K0 12 (m_no g c0 c1 c2 c3 c4 c5 c6 c7 c8 c9 c10 c11 mo mki mel mto mio mwy mme mhs mso msr mrs mce mcp 0 0 tr R C op hwb kinds elders tof iof wyf mef hsf sof srf rsf cef cpf rest (-1)) mi_X5_no rfl rfl rfl ml_RX5_178 rfl (Nat.le_of_ble_eq_true rfl) (by decide) ⟨Nat.le_of_ble_eq_true rfl, Nat.le_of_ble_eq_true rfl⟩ rfl rfl dX5_row_27 ?_
    intro v w' hr'; obtain ⟨rfl, rfl⟩ := hr'
    show X φ 0 0 (c0 :: c1 :: c2 :: c3 :: c4 :: c5 :: c6 :: c7 :: c8 :: c9 :: c10 :: c11 :: (mo, oModel 0 (-1) tr (nI R) (nI C) (bI op) mki mel mto mio mwy (bI hwb) mme mhs mso msr mrs mce mcp) :: (mki, aI g 40 kinds) :: (mel, aI g 40 elders) :: (mto, aI g 25 tof) :: (mio, aZ g 40 iof) :: (mwy, aI g 4096 wyf) :: (mme, aZ g 36 mef) :: (mhs, aZ g 3 hsf) :: (mso, aI g 3 sof) :: (msr, aI g 3 srf) :: (mrs, aI g 12 rsf) :: (mce, aI g 480 cef) :: (mcp, aI g 40 cpf) :: rest) [(0, .ref mo), (1, .int x), (2, .int r), (3, .int n)] 30 [.int (-1)]
    exact hr _ _ _ _ (Or.inl (by rw [show (rwD abs x r n) = -1 by first | exact rw_b1 h16 | exact rw_b2 h22]; exact ⟨by decide, rfl, rfl⟩)) dX5_row_30
  · refine X_iload_n K0 3 dX5_row_19 rfl rfl ?_
    refine X_bipush (v := 40) K0 dX5_row_20 (by decide) ?_
    refine X_icmp_le K0 31 dX5_row_22 (by decide) (fun h22 => ?_) (fun h22 => ?_)
    · obtain ⟨j, hj, rfl⟩ := wi_3 (bI_n0.mp h16)
      have hclj : (nI j).toNatClampNeg = j := nI_clamp (by omega)
      refine X_aload_n K0 0 dX5_row_31 rfl rfl ?_
      refine X_get K0 12 rfl rfl hin5 13 (by decide) fl_RX5_36 rfl dX5_row_32 ?_
      refine X_iload_n K0 1 dX5_row_35 rfl rfl ?_
      cases hab : abs j with
      | none =>
        refine X_zaldN K0 19 rfl (by omega) (by first | decide | omega) dX5_row_36 ?_
        refine X_v (ms_none hMS hj hab) ?_
        refine X_if_ne K0 47 dX5_row_37 (by decide) (fun h37 => ?_) (fun h37 => ?_)
        · exact absurd rfl h37
        · refine X_aload_n K0 0 dX5_row_40 rfl rfl ?_
          refine X_bipush (v := (-11)) K0 dX5_row_41 (by decide) ?_
          refine X_callV (As := [.int (-11)]) (rest := []) K0 12 (m_no g c0 c1 c2 c3 c4 c5 c6 c7 c8 c9 c10 c11 mo mki mel mto mio mwy mme mhs mso msr mrs mce mcp 0 0 tr R C op hwb kinds elders tof iof wyf mef hsf sof srf rsf cef cpf rest (-11)) mi_X5_no rfl rfl rfl ml_RX5_178 rfl (Nat.le_of_ble_eq_true rfl) (by decide) ⟨Nat.le_of_ble_eq_true rfl, Nat.le_of_ble_eq_true rfl⟩ rfl rfl dX5_row_43 ?_
          intro v w' hr'; obtain ⟨rfl, rfl⟩ := hr'
          show X φ 0 0 (c0 :: c1 :: c2 :: c3 :: c4 :: c5 :: c6 :: c7 :: c8 :: c9 :: c10 :: c11 :: (mo, oModel 0 (-11) tr (nI R) (nI C) (bI op) mki mel mto mio mwy (bI hwb) mme mhs mso msr mrs mce mcp) :: (mki, aI g 40 kinds) :: (mel, aI g 40 elders) :: (mto, aI g 25 tof) :: (mio, aZ g 40 iof) :: (mwy, aI g 4096 wyf) :: (mme, aZ g 36 mef) :: (mhs, aZ g 3 hsf) :: (mso, aI g 3 sof) :: (msr, aI g 3 srf) :: (mrs, aI g 12 rsf) :: (mce, aI g 480 cef) :: (mcp, aI g 40 cpf) :: rest) [(0, .ref mo), (1, .int (nI j)), (2, .int r), (3, .int n)] 46 [.int (-11)]
          exact hr _ _ _ _ (Or.inl (by rw [show (rwD abs (nI j) r n) = -11 by exact rw_no hj h16 h22 hab]; exact ⟨by decide, rfl, rfl⟩)) dX5_row_46
      | some v =>
        obtain ⟨s1, nr, rows⟩ := v
        obtain ⟨e1, e2, e3, e4, e5, e6⟩ := ms_some hMS hj hab
        refine X_zaldN K0 19 rfl (by omega) (by first | decide | omega) dX5_row_36 ?_
        refine X_v e1 ?_
        refine X_if_ne K0 47 dX5_row_37 (by decide) (fun h37 => ?_) (fun h37 => ?_)
        · refine X_iload_n K0 2 dX5_row_47 rfl rfl ?_
          refine X_iconst (v := 0) K0 dX5_row_48 (by decide) ?_
          refine X_aload_n K0 0 dX5_row_49 rfl rfl ?_
          refine X_get K0 12 rfl rfl hin5 15 (by decide) fl_RX5_42 rfl dX5_row_50 ?_
          refine X_iload_n K0 1 dX5_row_53 rfl rfl ?_
          refine X_ialdN K0 21 rfl (by omega) (by first | decide | omega) dX5_row_54 ?_
          refine X_v e3 ?_
          refine X_iconst (v := 1) K0 dX5_row_55 (by decide) ?_
          refine X_isub K0 dX5_row_56 ?_
          refine X_callS (As := [.int r, .int 0, .int ((nI nr) - 1)]) (rest := []) K0 (c_in g (c0 :: c1 :: c2 :: c3 :: c4 :: c5 :: c6 :: c7 :: c8 :: c9 :: c10 :: c11 :: (mo, oModel 0 0 tr (nI R) (nI C) (bI op) mki mel mto mio mwy (bI hwb) mme mhs mso msr mrs mce mcp) :: (mki, aI g 40 kinds) :: (mel, aI g 40 elders) :: (mto, aI g 25 tof) :: (mio, aZ g 40 iof) :: (mwy, aI g 4096 wyf) :: (mme, aZ g 36 mef) :: (mhs, aZ g 3 hsf) :: (mso, aI g 3 sof) :: (msr, aI g 3 srf) :: (mrs, aI g 12 rsf) :: (mce, aI g 480 cef) :: (mcp, aI g 40 cpf) :: rest) r 0 ((nI nr) - 1)) ms_X5_in rfl ml_RX5_81 rfl (Nat.le_of_ble_eq_true rfl) (by decide) ⟨Nat.le_of_ble_eq_true rfl, Nat.le_of_ble_eq_true rfl⟩ rfl rfl dX5_row_57 ?_
          intro v w' hr'; obtain ⟨rfl, rfl⟩ := hr'
          show X φ 0 0 (c0 :: c1 :: c2 :: c3 :: c4 :: c5 :: c6 :: c7 :: c8 :: c9 :: c10 :: c11 :: (mo, oModel 0 0 tr (nI R) (nI C) (bI op) mki mel mto mio mwy (bI hwb) mme mhs mso msr mrs mce mcp) :: (mki, aI g 40 kinds) :: (mel, aI g 40 elders) :: (mto, aI g 25 tof) :: (mio, aZ g 40 iof) :: (mwy, aI g 4096 wyf) :: (mme, aZ g 36 mef) :: (mhs, aZ g 3 hsf) :: (mso, aI g 3 sof) :: (msr, aI g 3 srf) :: (mrs, aI g 12 rsf) :: (mce, aI g 480 cef) :: (mcp, aI g 40 cpf) :: rest) [(0, .ref mo), (1, .int (nI j)), (2, .int r), (3, .int n)] 60 [.int (bI (wiB r 0 ((nI nr) - 1)))]
          refine X_if_ne K0 70 dX5_row_60 (by decide) (fun h60 => ?_) (fun h60 => ?_)
          · refine X_iload_n K0 3 dX5_row_70 rfl rfl ?_
            refine X_if_ge K0 81 dX5_row_71 (by decide) (fun h71 => ?_) (fun h71 => ?_)
            · obtain ⟨jr, hjr, rfl⟩ := hr_of (hry e5 h60) e5
              obtain ⟨n', hn, rfl⟩ := nI_of (Int32.not_lt.mpr h71)
              have hn40 : n' ≤ 40 := (nI_leI (b := 40) hn (by decide)).mp h22
              refine X_aload_n K0 0 dX5_row_81 rfl rfl ?_
              refine X_get K0 12 rfl rfl hin5 16 (by decide) fl_RX5_45 rfl dX5_row_82 ?_
              refine X_iconst (v := 4) K0 dX5_row_85 (by decide) ?_
              refine X_iload_n K0 1 dX5_row_86 rfl rfl ?_
              refine X_imul K0 dX5_row_87 ?_
              refine X_v (z := (nI (4 * j))) (pk_mul 4 j) ?_
              refine X_iload_n K0 2 dX5_row_88 rfl rfl ?_
              refine X_iadd K0 dX5_row_89 ?_
              refine X_v (z := (nI (4 * j + jr))) (nI_add _ _) ?_
              refine X_iload_n K0 3 dX5_row_90 rfl rfl ?_
              refine X_iastN (w' := (c0 :: c1 :: c2 :: c3 :: c4 :: c5 :: c6 :: c7 :: c8 :: c9 :: c10 :: c11 :: (mo, oModel 0 0 tr (nI R) (nI C) (bI op) mki mel mto mio mwy (bI hwb) mme mhs mso msr mrs mce mcp) :: (mki, aI g 40 kinds) :: (mel, aI g 40 elders) :: (mto, aI g 25 tof) :: (mio, aZ g 40 iof) :: (mwy, aI g 4096 wyf) :: (mme, aZ g 36 mef) :: (mhs, aZ g 3 hsf) :: (mso, aI g 3 sof) :: (msr, aI g 3 srf) :: (mrs, aI g 12 (upd rsf (4 * j + jr) (nI n'))) :: (mce, aI g 480 cef) :: (mcp, aI g 40 cpf) :: rest)) K0 22 rfl (by omega) (by first | decide | omega) dX5_row_91 rfl ?_
              refine X_iconst (v := 0) K0 dX5_row_92 (by decide) ?_
              refine X_istore (L' := [(4, .int 0), (0, .ref mo), (1, .int (nI j)), (2, .int (nI jr)), (3, .int (nI n'))]) K0 dX5_row_93 (by decide) rfl ?_
              refine X.sub [1, 2, 3, 4, 0] (L' := [(0, .ref mo), (1, .int (nI j)), (2, .int (nI jr)), (3, .int (nI n')), (4, .int 0)]) rfl ?_
              have LOOP : ∀ (dd ii : Nat), ii + dd = 40 → X φ 0 0 (c0 :: c1 :: c2 :: c3 :: c4 :: c5 :: c6 :: c7 :: c8 :: c9 :: c10 :: c11 :: (mo, oModel 0 0 tr (nI R) (nI C) (bI op) mki mel mto mio mwy (bI hwb) mme mhs mso msr mrs mce mcp) :: (mki, aI g 40 kinds) :: (mel, aI g 40 elders) :: (mto, aI g 25 tof) :: (mio, aZ g 40 iof) :: (mwy, aI g 4096 wyf) :: (mme, aZ g 36 mef) :: (mhs, aZ g 3 hsf) :: (mso, aI g 3 sof) :: (msr, aI g 3 srf) :: (mrs, aI g 12 (upd rsf (4 * j + jr) (nI n'))) :: (mce, aI g 480 (ovW (160 * j + 40 * jr) ii (fun _ => 0) cef)) :: (mcp, aI g 40 cpf) :: rest) [(0, .ref mo), (1, .int (nI j)), (2, .int (nI jr)), (3, .int (nI n')), (4, .int (nI ii))] 95 [] := by
                intro dd
                induction dd with
                | zero =>
                  intro ii hii 
                  have hii2 : 40 = ii := by omega
                  subst hii2
                  refine X_iload K0 4 dX5_row_95 rfl ?_
                  refine X_bipush (v := 40) K0 dX5_row_97 (by decide) ?_
                  refine X_icmp_ge K0 127 dX5_row_99 (by decide) (fun h99 => ?_) (fun h99 => ?_)
                  · refine X_iconst (v := 1) K0 dX5_row_127 (by decide) ?_
                    exact hr _ _ _ _ (Or.inr ⟨by rw [rw_at hj h16 h22 hab, ite_f (hry e5 h60), if_neg (Int32.not_lt.mpr h71)], rfl, j, jr, n', s1, nr, rows, _, _, hj, rfl, hab, hjr, rfl, hn40, rfl, ms_row hMS hj hab hjr hn40, rfl⟩) dX5_row_128
                  · exact absurd (nI_le (Nat.le_refl 40) (by decide)) h99
                | succ dd ih =>
                  intro ii hii 
                  have hlt : ii < 40 := by omega
                  refine X_iload K0 4 dX5_row_95 rfl ?_
                  refine X_bipush (v := 40) K0 dX5_row_97 (by decide) ?_
                  refine X_icmp_ge K0 127 dX5_row_99 (by decide) (fun h99 => ?_) (fun h99 => ?_)
                  · exact absurd h99 (nI_ge (b := 40) hlt (by decide))
                  · refine X_aload_n K0 0 dX5_row_102 rfl rfl ?_
                    refine X_get K0 12 rfl rfl hin5 17 (by decide) fl_RX5_48 rfl dX5_row_103 ?_
                    refine X_sipush (v := 160) K0 dX5_row_106 (by decide) ?_
                    refine X_iload_n K0 1 dX5_row_109 rfl rfl ?_
                    refine X_imul K0 dX5_row_110 ?_
                    refine X_v (z := (nI (160 * j))) (pk_mul 160 j) ?_
                    refine X_bipush (v := 40) K0 dX5_row_111 (by decide) ?_
                    refine X_iload_n K0 2 dX5_row_113 rfl rfl ?_
                    refine X_imul K0 dX5_row_114 ?_
                    refine X_v (z := (nI (40 * jr))) (pk_mul 40 jr) ?_
                    refine X_iadd K0 dX5_row_115 ?_
                    refine X_v (z := (nI (160 * j + 40 * jr))) (nI_add _ _) ?_
                    refine X_iload K0 4 dX5_row_116 rfl ?_
                    refine X_iadd K0 dX5_row_118 ?_
                    refine X_v (z := (nI (160 * j + 40 * jr + ii))) (nI_add _ _) ?_
                    refine X_iconst (v := 0) K0 dX5_row_119 (by decide) ?_
                    refine X_iastN (w' := (c0 :: c1 :: c2 :: c3 :: c4 :: c5 :: c6 :: c7 :: c8 :: c9 :: c10 :: c11 :: (mo, oModel 0 0 tr (nI R) (nI C) (bI op) mki mel mto mio mwy (bI hwb) mme mhs mso msr mrs mce mcp) :: (mki, aI g 40 kinds) :: (mel, aI g 40 elders) :: (mto, aI g 25 tof) :: (mio, aZ g 40 iof) :: (mwy, aI g 4096 wyf) :: (mme, aZ g 36 mef) :: (mhs, aZ g 3 hsf) :: (mso, aI g 3 sof) :: (msr, aI g 3 srf) :: (mrs, aI g 12 (upd rsf (4 * j + jr) (nI n'))) :: (mce, aI g 480 (upd (ovW (160 * j + 40 * jr) ii (fun _ => 0) cef) (160 * j + 40 * jr + ii) 0)) :: (mcp, aI g 40 cpf) :: rest)) K0 23 rfl (by omega) (by first | decide | omega) dX5_row_120 rfl ?_
                    refine X_iinc (v := ((nI ii) + 1)) (L' := [(4, .int ((nI ii) + 1)), (0, .ref mo), (1, .int (nI j)), (2, .int (nI jr)), (3, .int (nI n'))]) K0 4 dX5_row_121 rfl (by first | rfl | decide) (by decide) rfl ?_
                    refine X_goto K0 95 dX5_row_124 (by decide) ?_
                    refine X.sub [1, 2, 3, 4, 0] (L' := [(0, .ref mo), (1, .int (nI j)), (2, .int (nI jr)), (3, .int (nI n')), (4, .int ((nI ii) + 1))]) rfl ?_
                    exact X_eq (by rw [ovW_s (160 * j + 40 * jr) ii (fun _ => 0) cef rfl]) (by rw [nI_succ] <;> rfl) rfl (ih (ii + 1) (by omega))
              exact X_eq (by rw [ovW_0]) rfl rfl (LOOP 40 0 (by omega))
            · refine X_aload_n K0 0 dX5_row_74 rfl rfl ?_
              refine X_bipush (v := (-15)) K0 dX5_row_75 (by decide) ?_
              refine X_callV (As := [.int (-15)]) (rest := []) K0 12 (m_no g c0 c1 c2 c3 c4 c5 c6 c7 c8 c9 c10 c11 mo mki mel mto mio mwy mme mhs mso msr mrs mce mcp 0 0 tr R C op hwb kinds elders tof iof wyf mef hsf sof srf rsf cef cpf rest (-15)) mi_X5_no rfl rfl rfl ml_RX5_178 rfl (Nat.le_of_ble_eq_true rfl) (by decide) ⟨Nat.le_of_ble_eq_true rfl, Nat.le_of_ble_eq_true rfl⟩ rfl rfl dX5_row_77 ?_
              intro v w' hr'; obtain ⟨rfl, rfl⟩ := hr'
              show X φ 0 0 (c0 :: c1 :: c2 :: c3 :: c4 :: c5 :: c6 :: c7 :: c8 :: c9 :: c10 :: c11 :: (mo, oModel 0 (-15) tr (nI R) (nI C) (bI op) mki mel mto mio mwy (bI hwb) mme mhs mso msr mrs mce mcp) :: (mki, aI g 40 kinds) :: (mel, aI g 40 elders) :: (mto, aI g 25 tof) :: (mio, aZ g 40 iof) :: (mwy, aI g 4096 wyf) :: (mme, aZ g 36 mef) :: (mhs, aZ g 3 hsf) :: (mso, aI g 3 sof) :: (msr, aI g 3 srf) :: (mrs, aI g 12 rsf) :: (mce, aI g 480 cef) :: (mcp, aI g 40 cpf) :: rest) [(0, .ref mo), (1, .int (nI j)), (2, .int r), (3, .int n)] 80 [.int (-15)]
              exact hr _ _ _ _ (Or.inl (by rw [show (rwD abs (nI j) r n) = -15 by rw [rw_at hj h16 h22 hab, ite_f (hry e5 h60), if_pos (Int32.not_le.mp h71)]]; exact ⟨by decide, rfl, rfl⟩)) dX5_row_80
          · refine X_aload_n K0 0 dX5_row_63 rfl rfl ?_
            refine X_bipush (v := (-12)) K0 dX5_row_64 (by decide) ?_
            refine X_callV (As := [.int (-12)]) (rest := []) K0 12 (m_no g c0 c1 c2 c3 c4 c5 c6 c7 c8 c9 c10 c11 mo mki mel mto mio mwy mme mhs mso msr mrs mce mcp 0 0 tr R C op hwb kinds elders tof iof wyf mef hsf sof srf rsf cef cpf rest (-12)) mi_X5_no rfl rfl rfl ml_RX5_178 rfl (Nat.le_of_ble_eq_true rfl) (by decide) ⟨Nat.le_of_ble_eq_true rfl, Nat.le_of_ble_eq_true rfl⟩ rfl rfl dX5_row_66 ?_
            intro v w' hr'; obtain ⟨rfl, rfl⟩ := hr'
            show X φ 0 0 (c0 :: c1 :: c2 :: c3 :: c4 :: c5 :: c6 :: c7 :: c8 :: c9 :: c10 :: c11 :: (mo, oModel 0 (-12) tr (nI R) (nI C) (bI op) mki mel mto mio mwy (bI hwb) mme mhs mso msr mrs mce mcp) :: (mki, aI g 40 kinds) :: (mel, aI g 40 elders) :: (mto, aI g 25 tof) :: (mio, aZ g 40 iof) :: (mwy, aI g 4096 wyf) :: (mme, aZ g 36 mef) :: (mhs, aZ g 3 hsf) :: (mso, aI g 3 sof) :: (msr, aI g 3 srf) :: (mrs, aI g 12 rsf) :: (mce, aI g 480 cef) :: (mcp, aI g 40 cpf) :: rest) [(0, .ref mo), (1, .int (nI j)), (2, .int r), (3, .int n)] 69 [.int (-12)]
            exact hr _ _ _ _ (Or.inl (by rw [show (rwD abs (nI j) r n) = -12 by rw [rw_at hj h16 h22 hab, if_pos (hrn e5 h60)]]; exact ⟨by decide, rfl, rfl⟩)) dX5_row_69
        · exact absurd h37 (by decide)
    · refine X_aload_n K0 0 dX5_row_25 rfl rfl ?_
      refine X_iconst (v := (-1)) K0 dX5_row_26 (by decide) ?_
      refine X_callV (As := [.int (-1)]) (rest := []) K0 12 (m_no g c0 c1 c2 c3 c4 c5 c6 c7 c8 c9 c10 c11 mo mki mel mto mio mwy mme mhs mso msr mrs mce mcp 0 0 tr R C op hwb kinds elders tof iof wyf mef hsf sof srf rsf cef cpf rest (-1)) mi_X5_no rfl rfl rfl ml_RX5_178 rfl (Nat.le_of_ble_eq_true rfl) (by decide) ⟨Nat.le_of_ble_eq_true rfl, Nat.le_of_ble_eq_true rfl⟩ rfl rfl dX5_row_27 ?_
      intro v w' hr'; obtain ⟨rfl, rfl⟩ := hr'
      show X φ 0 0 (c0 :: c1 :: c2 :: c3 :: c4 :: c5 :: c6 :: c7 :: c8 :: c9 :: c10 :: c11 :: (mo, oModel 0 (-1) tr (nI R) (nI C) (bI op) mki mel mto mio mwy (bI hwb) mme mhs mso msr mrs mce mcp) :: (mki, aI g 40 kinds) :: (mel, aI g 40 elders) :: (mto, aI g 25 tof) :: (mio, aZ g 40 iof) :: (mwy, aI g 4096 wyf) :: (mme, aZ g 36 mef) :: (mhs, aZ g 3 hsf) :: (mso, aI g 3 sof) :: (msr, aI g 3 srf) :: (mrs, aI g 12 rsf) :: (mce, aI g 480 cef) :: (mcp, aI g 40 cpf) :: rest) [(0, .ref mo), (1, .int x), (2, .int r), (3, .int n)] 30 [.int (-1)]
      exact hr _ _ _ _ (Or.inl (by rw [show (rwD abs x r n) = -1 by first | exact rw_b1 h16 | exact rw_b2 h22]; exact ⟨by decide, rfl, rfl⟩)) dX5_row_30

set_option maxRecDepth 20000 in
set_option maxHeartbeats 400000 in
theorem m_put (g : Gx) (c0 c1 c2 c3 c4 c5 c6 c7 c8 c9 c10 c11 : Nat × va_E) (mo mki mel mto mio mwy mme mhs mso msr mrs mce mcp : Nat) (tn stt : Int32) (tr : Int64) (R C : Nat) (op hwb : Bool) (kinds elders tof iof wyf mef hsf sof srf rsf cef cpf : Nat → Int32) (rest : va_W) (abs : Nat → SH) (hMS : MSh abs hsf sof srf rsf cef) (x so r i v : Int32) : Con g yX5_put cX5_put 7 (some .int) 1 22 0 0 [.ref mo, .int x, .int so, .int r, .int i, .int v] (c0 :: c1 :: c2 :: c3 :: c4 :: c5 :: c6 :: c7 :: c8 :: c9 :: c10 :: c11 :: (mo, oModel tn stt tr (nI R) (nI C) (bI op) mki mel mto mio mwy (bI hwb) mme mhs mso msr mrs mce mcp) :: (mki, aI g 40 kinds) :: (mel, aI g 40 elders) :: (mto, aI g 25 tof) :: (mio, aZ g 40 iof) :: (mwy, aI g 4096 wyf) :: (mme, aZ g 36 mef) :: (mhs, aZ g 3 hsf) :: (mso, aI g 3 sof) :: (msr, aI g 3 srf) :: (mrs, aI g 12 rsf) :: (mce, aI g 480 cef) :: (mcp, aI g 40 cpf) :: rest) (fun v' w' => (¬ (ptD abs x so r i) = 0 ∧ v' = some (.int (ptD abs x so r i)) ∧ (c0 :: c1 :: c2 :: c3 :: c4 :: c5 :: c6 :: c7 :: c8 :: c9 :: c10 :: c11 :: (mo, oModel 0 (ptD abs x so r i) tr (nI R) (nI C) (bI op) mki mel mto mio mwy (bI hwb) mme mhs mso msr mrs mce mcp) :: (mki, aI g 40 kinds) :: (mel, aI g 40 elders) :: (mto, aI g 25 tof) :: (mio, aZ g 40 iof) :: (mwy, aI g 4096 wyf) :: (mme, aZ g 36 mef) :: (mhs, aZ g 3 hsf) :: (mso, aI g 3 sof) :: (msr, aI g 3 srf) :: (mrs, aI g 12 rsf) :: (mce, aI g 480 cef) :: (mcp, aI g 40 cpf) :: rest) = w') ∨ ((ptD abs x so r i) = 0 ∧ v' = some (.int 1) ∧ ∃ (j jr i' nr : Nat) (rows : Nat → RW) (len : Nat) (f ce1 : Nat → Int32), j < 3 ∧ x = nI j ∧ abs j = some (so, nr, rows) ∧ jr < nr ∧ r = nI jr ∧ rows jr = some (len, f) ∧ i' < len ∧ i = nI i' ∧ MSh (upA abs j (some (so, nr, upA rows jr (some (len, upd f i' (if so = 0 then v.toInt8.toInt32 else v)))))) hsf sof srf rsf ce1 ∧ (c0 :: c1 :: c2 :: c3 :: c4 :: c5 :: c6 :: c7 :: c8 :: c9 :: c10 :: c11 :: (mo, oModel 0 0 tr (nI R) (nI C) (bI op) mki mel mto mio mwy (bI hwb) mme mhs mso msr mrs mce mcp) :: (mki, aI g 40 kinds) :: (mel, aI g 40 elders) :: (mto, aI g 25 tof) :: (mio, aZ g 40 iof) :: (mwy, aI g 4096 wyf) :: (mme, aZ g 36 mef) :: (mhs, aZ g 3 hsf) :: (mso, aI g 3 sof) :: (msr, aI g 3 srf) :: (mrs, aI g 12 rsf) :: (mce, aI g 480 ce1) :: (mcp, aI g 40 cpf) :: rest) = w')) := by
  refine Con.ofI (by decide +kernel) (Nat.le_of_ble_eq_true rfl) (fun φ K0 hr => ?_)
  show X φ 0 0 (c0 :: c1 :: c2 :: c3 :: c4 :: c5 :: c6 :: c7 :: c8 :: c9 :: c10 :: c11 :: (mo, oModel tn stt tr (nI R) (nI C) (bI op) mki mel mto mio mwy (bI hwb) mme mhs mso msr mrs mce mcp) :: (mki, aI g 40 kinds) :: (mel, aI g 40 elders) :: (mto, aI g 25 tof) :: (mio, aZ g 40 iof) :: (mwy, aI g 4096 wyf) :: (mme, aZ g 36 mef) :: (mhs, aZ g 3 hsf) :: (mso, aI g 3 sof) :: (msr, aI g 3 srf) :: (mrs, aI g 12 rsf) :: (mce, aI g 480 cef) :: (mcp, aI g 40 cpf) :: rest) [(0, .ref mo), (1, .int x), (2, .int so), (3, .int r), (4, .int i), (5, .int v)] 0 []
  refine X_aload_n K0 0 dX5_put_0 rfl rfl ?_
  refine X_iconst (v := 0) K0 dX5_put_1 (by decide) ?_
  refine X_put (w' := (c0 :: c1 :: c2 :: c3 :: c4 :: c5 :: c6 :: c7 :: c8 :: c9 :: c10 :: c11 :: (mo, oModel 0 stt tr (nI R) (nI C) (bI op) mki mel mto mio mwy (bI hwb) mme mhs mso msr mrs mce mcp) :: (mki, aI g 40 kinds) :: (mel, aI g 40 elders) :: (mto, aI g 25 tof) :: (mio, aZ g 40 iof) :: (mwy, aI g 4096 wyf) :: (mme, aZ g 36 mef) :: (mhs, aZ g 3 hsf) :: (mso, aI g 3 sof) :: (msr, aI g 3 srf) :: (mrs, aI g 12 rsf) :: (mce, aI g 480 cef) :: (mcp, aI g 40 cpf) :: rest)) K0 12 rfl rfl hin5 tyX5 tyX5_ok nmX5 0 (by decide) fl_RX5_58 rfl (tyX5_ok 0 (by decide)) rfl rfl (Nat.le_of_ble_eq_true rfl) dX5_put_2 rfl ?_
  refine X_aload_n K0 0 dX5_put_5 rfl rfl ?_
  refine X_iconst (v := 0) K0 dX5_put_6 (by decide) ?_
  refine X_put (w' := (c0 :: c1 :: c2 :: c3 :: c4 :: c5 :: c6 :: c7 :: c8 :: c9 :: c10 :: c11 :: (mo, oModel 0 0 tr (nI R) (nI C) (bI op) mki mel mto mio mwy (bI hwb) mme mhs mso msr mrs mce mcp) :: (mki, aI g 40 kinds) :: (mel, aI g 40 elders) :: (mto, aI g 25 tof) :: (mio, aZ g 40 iof) :: (mwy, aI g 4096 wyf) :: (mme, aZ g 36 mef) :: (mhs, aZ g 3 hsf) :: (mso, aI g 3 sof) :: (msr, aI g 3 srf) :: (mrs, aI g 12 rsf) :: (mce, aI g 480 cef) :: (mcp, aI g 40 cpf) :: rest)) K0 12 rfl rfl hin5 tyX5 tyX5_ok nmX5 1 (by decide) fl_RX5_175 rfl (tyX5_ok 1 (by decide)) rfl rfl (Nat.le_of_ble_eq_true rfl) dX5_put_7 rfl ?_
  refine X_iload_n K0 1 dX5_put_10 rfl rfl ?_
  refine X_iconst (v := 0) K0 dX5_put_11 (by decide) ?_
  refine X_iconst (v := 2) K0 dX5_put_12 (by decide) ?_
  refine X_callS (As := [.int x, .int 0, .int 2]) (rest := []) K0 (c_in g (c0 :: c1 :: c2 :: c3 :: c4 :: c5 :: c6 :: c7 :: c8 :: c9 :: c10 :: c11 :: (mo, oModel 0 0 tr (nI R) (nI C) (bI op) mki mel mto mio mwy (bI hwb) mme mhs mso msr mrs mce mcp) :: (mki, aI g 40 kinds) :: (mel, aI g 40 elders) :: (mto, aI g 25 tof) :: (mio, aZ g 40 iof) :: (mwy, aI g 4096 wyf) :: (mme, aZ g 36 mef) :: (mhs, aZ g 3 hsf) :: (mso, aI g 3 sof) :: (msr, aI g 3 srf) :: (mrs, aI g 12 rsf) :: (mce, aI g 480 cef) :: (mcp, aI g 40 cpf) :: rest) x 0 2) ms_X5_in rfl ml_RX5_81 rfl (Nat.le_of_ble_eq_true rfl) (by decide) ⟨Nat.le_of_ble_eq_true rfl, Nat.le_of_ble_eq_true rfl⟩ rfl rfl dX5_put_13 ?_
  intro v w' hr'; obtain ⟨rfl, rfl⟩ := hr'
  show X φ 0 0 (c0 :: c1 :: c2 :: c3 :: c4 :: c5 :: c6 :: c7 :: c8 :: c9 :: c10 :: c11 :: (mo, oModel 0 0 tr (nI R) (nI C) (bI op) mki mel mto mio mwy (bI hwb) mme mhs mso msr mrs mce mcp) :: (mki, aI g 40 kinds) :: (mel, aI g 40 elders) :: (mto, aI g 25 tof) :: (mio, aZ g 40 iof) :: (mwy, aI g 4096 wyf) :: (mme, aZ g 36 mef) :: (mhs, aZ g 3 hsf) :: (mso, aI g 3 sof) :: (msr, aI g 3 srf) :: (mrs, aI g 12 rsf) :: (mce, aI g 480 cef) :: (mcp, aI g 40 cpf) :: rest) [(0, .ref mo), (1, .int x), (2, .int so), (3, .int r), (4, .int i), (5, .int v)] 16 [.int (bI (wiB x 0 2))]
  refine X_if_eq K0 28 dX5_put_16 (by decide) (fun h16 => ?_) (fun h16 => ?_)
  · refine X_aload_n K0 0 dX5_put_28 rfl rfl ?_
    refine X_iconst (v := (-1)) K0 dX5_put_29 (by decide) ?_
    refine X_callV (As := [.int (-1)]) (rest := []) K0 12 (m_no g c0 c1 c2 c3 c4 c5 c6 c7 c8 c9 c10 c11 mo mki mel mto mio mwy mme mhs mso msr mrs mce mcp 0 0 tr R C op hwb kinds elders tof iof wyf mef hsf sof srf rsf cef cpf rest (-1)) mi_X5_no rfl rfl rfl ml_RX5_178 rfl (Nat.le_of_ble_eq_true rfl) (by decide) ⟨Nat.le_of_ble_eq_true rfl, Nat.le_of_ble_eq_true rfl⟩ rfl rfl dX5_put_30 ?_
    intro v w' hr'; obtain ⟨rfl, rfl⟩ := hr'
    show X φ 0 0 (c0 :: c1 :: c2 :: c3 :: c4 :: c5 :: c6 :: c7 :: c8 :: c9 :: c10 :: c11 :: (mo, oModel 0 (-1) tr (nI R) (nI C) (bI op) mki mel mto mio mwy (bI hwb) mme mhs mso msr mrs mce mcp) :: (mki, aI g 40 kinds) :: (mel, aI g 40 elders) :: (mto, aI g 25 tof) :: (mio, aZ g 40 iof) :: (mwy, aI g 4096 wyf) :: (mme, aZ g 36 mef) :: (mhs, aZ g 3 hsf) :: (mso, aI g 3 sof) :: (msr, aI g 3 srf) :: (mrs, aI g 12 rsf) :: (mce, aI g 480 cef) :: (mcp, aI g 40 cpf) :: rest) [(0, .ref mo), (1, .int x), (2, .int so), (3, .int r), (4, .int i), (5, .int v)] 33 [.int (-1)]
    exact hr _ _ _ _ (Or.inl (by rw [show ptD abs x so r i = -1 by first | exact pt_b1 h16 | exact pt_b2 h25]; exact ⟨by decide, rfl, rfl⟩)) dX5_put_33
  · refine X_iload_n K0 2 dX5_put_19 rfl rfl ?_
    refine X_iconst (v := 0) K0 dX5_put_20 (by decide) ?_
    refine X_iconst (v := 1) K0 dX5_put_21 (by decide) ?_
    refine X_callS (As := [.int so, .int 0, .int 1]) (rest := []) K0 (c_in g (c0 :: c1 :: c2 :: c3 :: c4 :: c5 :: c6 :: c7 :: c8 :: c9 :: c10 :: c11 :: (mo, oModel 0 0 tr (nI R) (nI C) (bI op) mki mel mto mio mwy (bI hwb) mme mhs mso msr mrs mce mcp) :: (mki, aI g 40 kinds) :: (mel, aI g 40 elders) :: (mto, aI g 25 tof) :: (mio, aZ g 40 iof) :: (mwy, aI g 4096 wyf) :: (mme, aZ g 36 mef) :: (mhs, aZ g 3 hsf) :: (mso, aI g 3 sof) :: (msr, aI g 3 srf) :: (mrs, aI g 12 rsf) :: (mce, aI g 480 cef) :: (mcp, aI g 40 cpf) :: rest) so 0 1) ms_X5_in rfl ml_RX5_81 rfl (Nat.le_of_ble_eq_true rfl) (by decide) ⟨Nat.le_of_ble_eq_true rfl, Nat.le_of_ble_eq_true rfl⟩ rfl rfl dX5_put_22 ?_
    intro v w' hr'; obtain ⟨rfl, rfl⟩ := hr'
    show X φ 0 0 (c0 :: c1 :: c2 :: c3 :: c4 :: c5 :: c6 :: c7 :: c8 :: c9 :: c10 :: c11 :: (mo, oModel 0 0 tr (nI R) (nI C) (bI op) mki mel mto mio mwy (bI hwb) mme mhs mso msr mrs mce mcp) :: (mki, aI g 40 kinds) :: (mel, aI g 40 elders) :: (mto, aI g 25 tof) :: (mio, aZ g 40 iof) :: (mwy, aI g 4096 wyf) :: (mme, aZ g 36 mef) :: (mhs, aZ g 3 hsf) :: (mso, aI g 3 sof) :: (msr, aI g 3 srf) :: (mrs, aI g 12 rsf) :: (mce, aI g 480 cef) :: (mcp, aI g 40 cpf) :: rest) [(0, .ref mo), (1, .int x), (2, .int so), (3, .int r), (4, .int i), (5, .int v)] 25 [.int (bI (wiB so 0 1))]
    refine X_if_ne K0 34 dX5_put_25 (by decide) (fun h25 => ?_) (fun h25 => ?_)
    · obtain ⟨j, hj, rfl⟩ := wi_3 (bI_n0.mp h16)
      have hclj : (nI j).toNatClampNeg = j := nI_clamp (by omega)
      refine X_aload_n K0 0 dX5_put_34 rfl rfl ?_
      refine X_get K0 12 rfl rfl hin5 13 (by decide) fl_RX5_36 rfl dX5_put_35 ?_
      refine X_iload_n K0 1 dX5_put_38 rfl rfl ?_
      cases hab : abs j with
      | none =>
        refine X_zaldN K0 19 rfl (by omega) (by first | decide | omega) dX5_put_39 ?_
        refine X_v (ms_none hMS hj hab) ?_
        refine X_if_ne K0 50 dX5_put_40 (by decide) (fun h40 => ?_) (fun h40 => ?_)
        · exact absurd rfl h40
        · refine X_aload_n K0 0 dX5_put_43 rfl rfl ?_
          refine X_bipush (v := (-11)) K0 dX5_put_44 (by decide) ?_
          refine X_callV (As := [.int (-11)]) (rest := []) K0 12 (m_no g c0 c1 c2 c3 c4 c5 c6 c7 c8 c9 c10 c11 mo mki mel mto mio mwy mme mhs mso msr mrs mce mcp 0 0 tr R C op hwb kinds elders tof iof wyf mef hsf sof srf rsf cef cpf rest (-11)) mi_X5_no rfl rfl rfl ml_RX5_178 rfl (Nat.le_of_ble_eq_true rfl) (by decide) ⟨Nat.le_of_ble_eq_true rfl, Nat.le_of_ble_eq_true rfl⟩ rfl rfl dX5_put_46 ?_
          intro v w' hr'; obtain ⟨rfl, rfl⟩ := hr'
          show X φ 0 0 (c0 :: c1 :: c2 :: c3 :: c4 :: c5 :: c6 :: c7 :: c8 :: c9 :: c10 :: c11 :: (mo, oModel 0 (-11) tr (nI R) (nI C) (bI op) mki mel mto mio mwy (bI hwb) mme mhs mso msr mrs mce mcp) :: (mki, aI g 40 kinds) :: (mel, aI g 40 elders) :: (mto, aI g 25 tof) :: (mio, aZ g 40 iof) :: (mwy, aI g 4096 wyf) :: (mme, aZ g 36 mef) :: (mhs, aZ g 3 hsf) :: (mso, aI g 3 sof) :: (msr, aI g 3 srf) :: (mrs, aI g 12 rsf) :: (mce, aI g 480 cef) :: (mcp, aI g 40 cpf) :: rest) [(0, .ref mo), (1, .int (nI j)), (2, .int so), (3, .int r), (4, .int i), (5, .int v)] 49 [.int (-11)]
          exact hr _ _ _ _ (Or.inl (by rw [show ptD abs (nI j) so r i = -11 by exact pt_no hj h16 h25 hab]; exact ⟨by decide, rfl, rfl⟩)) dX5_put_49
      | some v =>
        obtain ⟨s1, nr, rows⟩ := v
        obtain ⟨e1, e2, e3, e4, e5, e6⟩ := ms_some hMS hj hab
        refine X_zaldN K0 19 rfl (by omega) (by first | decide | omega) dX5_put_39 ?_
        refine X_v e1 ?_
        refine X_if_ne K0 50 dX5_put_40 (by decide) (fun h40 => ?_) (fun h40 => ?_)
        · refine X_aload_n K0 0 dX5_put_50 rfl rfl ?_
          refine X_get K0 12 rfl rfl hin5 14 (by decide) fl_RX5_39 rfl dX5_put_51 ?_
          refine X_iload_n K0 1 dX5_put_54 rfl rfl ?_
          refine X_ialdN K0 20 rfl (by omega) (by first | decide | omega) dX5_put_55 ?_
          refine X_v e2 ?_
          refine X_iload_n K0 2 dX5_put_56 rfl rfl ?_
          refine X_icmp_eq K0 67 dX5_put_57 (by decide) (fun h57 => ?_) (fun h57 => ?_)
          · refine X_iload_n K0 3 dX5_put_67 rfl rfl ?_
            refine X_iconst (v := 0) K0 dX5_put_68 (by decide) ?_
            refine X_aload_n K0 0 dX5_put_69 rfl rfl ?_
            refine X_get K0 12 rfl rfl hin5 15 (by decide) fl_RX5_42 rfl dX5_put_70 ?_
            refine X_iload_n K0 1 dX5_put_73 rfl rfl ?_
            refine X_ialdN K0 21 rfl (by omega) (by first | decide | omega) dX5_put_74 ?_
            refine X_v e3 ?_
            refine X_iconst (v := 1) K0 dX5_put_75 (by decide) ?_
            refine X_isub K0 dX5_put_76 ?_
            refine X_callS (As := [.int r, .int 0, .int ((nI nr) - 1)]) (rest := []) K0 (c_in g (c0 :: c1 :: c2 :: c3 :: c4 :: c5 :: c6 :: c7 :: c8 :: c9 :: c10 :: c11 :: (mo, oModel 0 0 tr (nI R) (nI C) (bI op) mki mel mto mio mwy (bI hwb) mme mhs mso msr mrs mce mcp) :: (mki, aI g 40 kinds) :: (mel, aI g 40 elders) :: (mto, aI g 25 tof) :: (mio, aZ g 40 iof) :: (mwy, aI g 4096 wyf) :: (mme, aZ g 36 mef) :: (mhs, aZ g 3 hsf) :: (mso, aI g 3 sof) :: (msr, aI g 3 srf) :: (mrs, aI g 12 rsf) :: (mce, aI g 480 cef) :: (mcp, aI g 40 cpf) :: rest) r 0 ((nI nr) - 1)) ms_X5_in rfl ml_RX5_81 rfl (Nat.le_of_ble_eq_true rfl) (by decide) ⟨Nat.le_of_ble_eq_true rfl, Nat.le_of_ble_eq_true rfl⟩ rfl rfl dX5_put_77 ?_
            intro v w' hr'; obtain ⟨rfl, rfl⟩ := hr'
            show X φ 0 0 (c0 :: c1 :: c2 :: c3 :: c4 :: c5 :: c6 :: c7 :: c8 :: c9 :: c10 :: c11 :: (mo, oModel 0 0 tr (nI R) (nI C) (bI op) mki mel mto mio mwy (bI hwb) mme mhs mso msr mrs mce mcp) :: (mki, aI g 40 kinds) :: (mel, aI g 40 elders) :: (mto, aI g 25 tof) :: (mio, aZ g 40 iof) :: (mwy, aI g 4096 wyf) :: (mme, aZ g 36 mef) :: (mhs, aZ g 3 hsf) :: (mso, aI g 3 sof) :: (msr, aI g 3 srf) :: (mrs, aI g 12 rsf) :: (mce, aI g 480 cef) :: (mcp, aI g 40 cpf) :: rest) [(0, .ref mo), (1, .int (nI j)), (2, .int so), (3, .int r), (4, .int i), (5, .int v)] 80 [.int (bI (wiB r 0 ((nI nr) - 1)))]
            refine X_if_ne K0 90 dX5_put_80 (by decide) (fun h80 => ?_) (fun h80 => ?_)
            · obtain ⟨jr, hjr, rfl⟩ := hr_of (hry e5 h80) e5
              have hcljr : (nI jr).toNatClampNeg = jr := nI_clamp (by omega)
              refine X_aload_n K0 0 dX5_put_90 rfl rfl ?_
              refine X_get K0 12 rfl rfl hin5 16 (by decide) fl_RX5_45 rfl dX5_put_91 ?_
              refine X_iconst (v := 4) K0 dX5_put_94 (by decide) ?_
              refine X_iload_n K0 1 dX5_put_95 rfl rfl ?_
              refine X_imul K0 dX5_put_96 ?_
              refine X_v (z := (nI (4 * j))) (pk_mul 4 j) ?_
              refine X_iload_n K0 3 dX5_put_97 rfl rfl ?_
              refine X_iadd K0 dX5_put_98 ?_
              refine X_v (z := (nI (4 * j + jr))) (nI_add _ _) ?_
              cases hrw : rows jr with
              | none =>
                refine X_ialdN K0 22 rfl (by omega) (by first | decide | omega) dX5_put_99 ?_
                refine X_v (mr_none (e6 jr hjr) hrw) ?_
                refine X_istore (L' := [(6, .int (-9)), (0, .ref mo), (1, .int (nI j)), (2, .int so), (3, .int (nI jr)), (4, .int i), (5, .int v)]) K0 dX5_put_100 (by decide) rfl ?_
                refine X_iload K0 0 dX5_put_102 rfl ?_
                refine X_bipush (v := (-9)) K0 dX5_put_104 (by decide) ?_
                refine X_icmp_ne K0 116 dX5_put_106 (by decide) (fun h106 => ?_) (fun h106 => ?_)
                · exact absurd rfl h106
                · refine X_aload_n K0 1 dX5_put_109 rfl rfl ?_
                  refine X_bipush (v := (-11)) K0 dX5_put_110 (by decide) ?_
                  refine X_callV (As := [.int (-11)]) (rest := []) K0 12 (m_no g c0 c1 c2 c3 c4 c5 c6 c7 c8 c9 c10 c11 mo mki mel mto mio mwy mme mhs mso msr mrs mce mcp 0 0 tr R C op hwb kinds elders tof iof wyf mef hsf sof srf rsf cef cpf rest (-11)) mi_X5_no rfl rfl rfl ml_RX5_178 rfl (Nat.le_of_ble_eq_true rfl) (by decide) ⟨Nat.le_of_ble_eq_true rfl, Nat.le_of_ble_eq_true rfl⟩ rfl rfl dX5_put_112 ?_
                  intro v w' hr'; obtain ⟨rfl, rfl⟩ := hr'
                  show X φ 0 0 (c0 :: c1 :: c2 :: c3 :: c4 :: c5 :: c6 :: c7 :: c8 :: c9 :: c10 :: c11 :: (mo, oModel 0 (-11) tr (nI R) (nI C) (bI op) mki mel mto mio mwy (bI hwb) mme mhs mso msr mrs mce mcp) :: (mki, aI g 40 kinds) :: (mel, aI g 40 elders) :: (mto, aI g 25 tof) :: (mio, aZ g 40 iof) :: (mwy, aI g 4096 wyf) :: (mme, aZ g 36 mef) :: (mhs, aZ g 3 hsf) :: (mso, aI g 3 sof) :: (msr, aI g 3 srf) :: (mrs, aI g 12 rsf) :: (mce, aI g 480 cef) :: (mcp, aI g 40 cpf) :: rest) [(6, .int (-9)), (0, .ref mo), (1, .int (nI j)), (2, .int so), (3, .int (nI jr)), (4, .int i), (5, .int v)] 115 [.int (-11)]
                  exact hr _ _ _ _ (Or.inl (by rw [show ptD abs (nI j) so (nI jr) i = -11 by rw [pt_at hj h16 h25 hab, if_pos h57, ite_f (hry e5 h80), hcljr, hrw]; rfl]; exact ⟨by decide, rfl, rfl⟩)) dX5_put_115
              | some u =>
                obtain ⟨len, f⟩ := u
                obtain ⟨m1, m2, m3⟩ := mr_some (e6 jr hjr) hrw
                refine X_ialdN K0 22 rfl (by omega) (by first | decide | omega) dX5_put_99 ?_
                refine X_v m1 ?_
                refine X_istore (L' := [(6, .int (nI len)), (0, .ref mo), (1, .int (nI j)), (2, .int so), (3, .int (nI jr)), (4, .int i), (5, .int v)]) K0 dX5_put_100 (by decide) rfl ?_
                refine X_iload K0 0 dX5_put_102 rfl ?_
                refine X_bipush (v := (-9)) K0 dX5_put_104 (by decide) ?_
                refine X_icmp_ne K0 116 dX5_put_106 (by decide) (fun h106 => ?_) (fun h106 => ?_)
                · refine X_iload K0 5 dX5_put_116 rfl ?_
                  refine X_iconst (v := 0) K0 dX5_put_118 (by decide) ?_
                  refine X_iload K0 0 dX5_put_119 rfl ?_
                  refine X_iconst (v := 1) K0 dX5_put_121 (by decide) ?_
                  refine X_isub K0 dX5_put_122 ?_
                  refine X_callS (As := [.int i, .int 0, .int ((nI len) - 1)]) (rest := []) K0 (c_in g (c0 :: c1 :: c2 :: c3 :: c4 :: c5 :: c6 :: c7 :: c8 :: c9 :: c10 :: c11 :: (mo, oModel 0 0 tr (nI R) (nI C) (bI op) mki mel mto mio mwy (bI hwb) mme mhs mso msr mrs mce mcp) :: (mki, aI g 40 kinds) :: (mel, aI g 40 elders) :: (mto, aI g 25 tof) :: (mio, aZ g 40 iof) :: (mwy, aI g 4096 wyf) :: (mme, aZ g 36 mef) :: (mhs, aZ g 3 hsf) :: (mso, aI g 3 sof) :: (msr, aI g 3 srf) :: (mrs, aI g 12 rsf) :: (mce, aI g 480 cef) :: (mcp, aI g 40 cpf) :: rest) i 0 ((nI len) - 1)) ms_X5_in rfl ml_RX5_81 rfl (Nat.le_of_ble_eq_true rfl) (by decide) ⟨Nat.le_of_ble_eq_true rfl, Nat.le_of_ble_eq_true rfl⟩ rfl rfl dX5_put_123 ?_
                  intro v w' hr'; obtain ⟨rfl, rfl⟩ := hr'
                  show X φ 0 0 (c0 :: c1 :: c2 :: c3 :: c4 :: c5 :: c6 :: c7 :: c8 :: c9 :: c10 :: c11 :: (mo, oModel 0 0 tr (nI R) (nI C) (bI op) mki mel mto mio mwy (bI hwb) mme mhs mso msr mrs mce mcp) :: (mki, aI g 40 kinds) :: (mel, aI g 40 elders) :: (mto, aI g 25 tof) :: (mio, aZ g 40 iof) :: (mwy, aI g 4096 wyf) :: (mme, aZ g 36 mef) :: (mhs, aZ g 3 hsf) :: (mso, aI g 3 sof) :: (msr, aI g 3 srf) :: (mrs, aI g 12 rsf) :: (mce, aI g 480 cef) :: (mcp, aI g 40 cpf) :: rest) [(6, .int (nI len)), (0, .ref mo), (1, .int (nI j)), (2, .int so), (3, .int (nI jr)), (4, .int i), (5, .int v)] 126 [.int (bI (wiB i 0 ((nI len) - 1)))]
                  refine X_if_ne K0 136 dX5_put_126 (by decide) (fun h126 => ?_) (fun h126 => ?_)
                  · obtain ⟨i', hi', rfl⟩ := wi_of (bI_n0.mp h126) (by omega)
                    refine X_aload_n K0 1 dX5_put_136 rfl rfl ?_
                    refine X_get K0 12 rfl rfl hin5 17 (by decide) fl_RX5_48 rfl dX5_put_137 ?_
                    refine X_sipush (v := 160) K0 dX5_put_140 (by decide) ?_
                    refine X_iload_n K0 2 dX5_put_143 rfl rfl ?_
                    refine X_imul K0 dX5_put_144 ?_
                    refine X_v (z := (nI (160 * j))) (pk_mul 160 j) ?_
                    refine X_bipush (v := 40) K0 dX5_put_145 (by decide) ?_
                    refine X_iload_n K0 4 dX5_put_147 rfl rfl ?_
                    refine X_imul K0 dX5_put_148 ?_
                    refine X_v (z := (nI (40 * jr))) (pk_mul 40 jr) ?_
                    refine X_iadd K0 dX5_put_149 ?_
                    refine X_v (z := (nI (160 * j + 40 * jr))) (nI_add _ _) ?_
                    refine X_iload K0 5 dX5_put_150 rfl ?_
                    refine X_iadd K0 dX5_put_152 ?_
                    refine X_v (z := (nI (160 * j + 40 * jr + i'))) (nI_add _ _) ?_
                    refine X_iload_n K0 3 dX5_put_153 rfl rfl ?_
                    refine X_if_ne K0 163 dX5_put_154 (by decide) (fun h154 => ?_) (fun h154 => ?_)
                    · refine X_iload K0 6 dX5_put_163 rfl ?_
                      refine X_iastN (w' := (c0 :: c1 :: c2 :: c3 :: c4 :: c5 :: c6 :: c7 :: c8 :: c9 :: c10 :: c11 :: (mo, oModel 0 0 tr (nI R) (nI C) (bI op) mki mel mto mio mwy (bI hwb) mme mhs mso msr mrs mce mcp) :: (mki, aI g 40 kinds) :: (mel, aI g 40 elders) :: (mto, aI g 25 tof) :: (mio, aZ g 40 iof) :: (mwy, aI g 4096 wyf) :: (mme, aZ g 36 mef) :: (mhs, aZ g 3 hsf) :: (mso, aI g 3 sof) :: (msr, aI g 3 srf) :: (mrs, aI g 12 rsf) :: (mce, aI g 480 (upd cef (160 * j + 40 * jr + i') v)) :: (mcp, aI g 40 cpf) :: rest)) K0 23 rfl (by omega) (by first | decide | omega) dX5_put_165 rfl ?_
                      refine X_iconst (v := 1) K0 dX5_put_166 (by decide) ?_
                      exact hr _ _ _ _ (Or.inr ⟨by rw [pt_at hj h16 h25 hab, if_pos h57, ite_f (hry e5 h80), hcljr, hrw, ptD2, if_pos (by rw [← wi_ho m2]; exact bI_n0.mp h126)], rfl, j, jr, i', nr, rows, len, f, _, hj, rfl, by rw [← h57]; exact hab, hjr, rfl, hrw, hi', rfl, by first | (rw [if_pos h154, ← h57]; exact ms_put hMS hj hab hjr hrw hi') | (rw [if_neg h154, ← h57]; exact ms_put hMS hj hab hjr hrw hi'), rfl⟩) dX5_put_167
                    · refine X_iload K0 6 dX5_put_157 rfl ?_
                      refine X_i2b (v := (v.toInt8.toInt32)) K0 dX5_put_159 rfl ?_
                      refine X_goto K0 165 dX5_put_160 (by decide) ?_
                      refine X_iastN (w' := (c0 :: c1 :: c2 :: c3 :: c4 :: c5 :: c6 :: c7 :: c8 :: c9 :: c10 :: c11 :: (mo, oModel 0 0 tr (nI R) (nI C) (bI op) mki mel mto mio mwy (bI hwb) mme mhs mso msr mrs mce mcp) :: (mki, aI g 40 kinds) :: (mel, aI g 40 elders) :: (mto, aI g 25 tof) :: (mio, aZ g 40 iof) :: (mwy, aI g 4096 wyf) :: (mme, aZ g 36 mef) :: (mhs, aZ g 3 hsf) :: (mso, aI g 3 sof) :: (msr, aI g 3 srf) :: (mrs, aI g 12 rsf) :: (mce, aI g 480 (upd cef (160 * j + 40 * jr + i') (v.toInt8.toInt32))) :: (mcp, aI g 40 cpf) :: rest)) K0 23 rfl (by omega) (by first | decide | omega) dX5_put_165 rfl ?_
                      refine X_iconst (v := 1) K0 dX5_put_166 (by decide) ?_
                      exact hr _ _ _ _ (Or.inr ⟨by rw [pt_at hj h16 h25 hab, if_pos h57, ite_f (hry e5 h80), hcljr, hrw, ptD2, if_pos (by rw [← wi_ho m2]; exact bI_n0.mp h126)], rfl, j, jr, i', nr, rows, len, f, _, hj, rfl, by rw [← h57]; exact hab, hjr, rfl, hrw, hi', rfl, by first | (rw [if_pos h154, ← h57]; exact ms_put hMS hj hab hjr hrw hi') | (rw [if_neg h154, ← h57]; exact ms_put hMS hj hab hjr hrw hi'), rfl⟩) dX5_put_167
                  · refine X_aload_n K0 1 dX5_put_129 rfl rfl ?_
                    refine X_bipush (v := (-12)) K0 dX5_put_130 (by decide) ?_
                    refine X_callV (As := [.int (-12)]) (rest := []) K0 12 (m_no g c0 c1 c2 c3 c4 c5 c6 c7 c8 c9 c10 c11 mo mki mel mto mio mwy mme mhs mso msr mrs mce mcp 0 0 tr R C op hwb kinds elders tof iof wyf mef hsf sof srf rsf cef cpf rest (-12)) mi_X5_no rfl rfl rfl ml_RX5_178 rfl (Nat.le_of_ble_eq_true rfl) (by decide) ⟨Nat.le_of_ble_eq_true rfl, Nat.le_of_ble_eq_true rfl⟩ rfl rfl dX5_put_132 ?_
                    intro v w' hr'; obtain ⟨rfl, rfl⟩ := hr'
                    show X φ 0 0 (c0 :: c1 :: c2 :: c3 :: c4 :: c5 :: c6 :: c7 :: c8 :: c9 :: c10 :: c11 :: (mo, oModel 0 (-12) tr (nI R) (nI C) (bI op) mki mel mto mio mwy (bI hwb) mme mhs mso msr mrs mce mcp) :: (mki, aI g 40 kinds) :: (mel, aI g 40 elders) :: (mto, aI g 25 tof) :: (mio, aZ g 40 iof) :: (mwy, aI g 4096 wyf) :: (mme, aZ g 36 mef) :: (mhs, aZ g 3 hsf) :: (mso, aI g 3 sof) :: (msr, aI g 3 srf) :: (mrs, aI g 12 rsf) :: (mce, aI g 480 cef) :: (mcp, aI g 40 cpf) :: rest) [(6, .int (nI len)), (0, .ref mo), (1, .int (nI j)), (2, .int so), (3, .int (nI jr)), (4, .int i), (5, .int v)] 135 [.int (-12)]
                    exact hr _ _ _ _ (Or.inl (by rw [show ptD abs (nI j) so (nI jr) i = -12 by rw [pt_at hj h16 h25 hab, if_pos h57, ite_f (hry e5 h80), hcljr, hrw, ptD2, if_neg (by rw [← wi_ho m2, bI_0.mp h126]; decide)]]; exact ⟨by decide, rfl, rfl⟩)) dX5_put_135
                · exact absurd h106 (nI_n9 (by omega))
            · refine X_aload_n K0 0 dX5_put_83 rfl rfl ?_
              refine X_bipush (v := (-12)) K0 dX5_put_84 (by decide) ?_
              refine X_callV (As := [.int (-12)]) (rest := []) K0 12 (m_no g c0 c1 c2 c3 c4 c5 c6 c7 c8 c9 c10 c11 mo mki mel mto mio mwy mme mhs mso msr mrs mce mcp 0 0 tr R C op hwb kinds elders tof iof wyf mef hsf sof srf rsf cef cpf rest (-12)) mi_X5_no rfl rfl rfl ml_RX5_178 rfl (Nat.le_of_ble_eq_true rfl) (by decide) ⟨Nat.le_of_ble_eq_true rfl, Nat.le_of_ble_eq_true rfl⟩ rfl rfl dX5_put_86 ?_
              intro v w' hr'; obtain ⟨rfl, rfl⟩ := hr'
              show X φ 0 0 (c0 :: c1 :: c2 :: c3 :: c4 :: c5 :: c6 :: c7 :: c8 :: c9 :: c10 :: c11 :: (mo, oModel 0 (-12) tr (nI R) (nI C) (bI op) mki mel mto mio mwy (bI hwb) mme mhs mso msr mrs mce mcp) :: (mki, aI g 40 kinds) :: (mel, aI g 40 elders) :: (mto, aI g 25 tof) :: (mio, aZ g 40 iof) :: (mwy, aI g 4096 wyf) :: (mme, aZ g 36 mef) :: (mhs, aZ g 3 hsf) :: (mso, aI g 3 sof) :: (msr, aI g 3 srf) :: (mrs, aI g 12 rsf) :: (mce, aI g 480 cef) :: (mcp, aI g 40 cpf) :: rest) [(0, .ref mo), (1, .int (nI j)), (2, .int so), (3, .int r), (4, .int i), (5, .int v)] 89 [.int (-12)]
              exact hr _ _ _ _ (Or.inl (by rw [show ptD abs (nI j) so r i = -12 by rw [pt_at hj h16 h25 hab, if_pos h57, if_pos (hrn e5 h80)]]; exact ⟨by decide, rfl, rfl⟩)) dX5_put_89
          · refine X_aload_n K0 0 dX5_put_60 rfl rfl ?_
            refine X_bipush (v := (-13)) K0 dX5_put_61 (by decide) ?_
            refine X_callV (As := [.int (-13)]) (rest := []) K0 12 (m_no g c0 c1 c2 c3 c4 c5 c6 c7 c8 c9 c10 c11 mo mki mel mto mio mwy mme mhs mso msr mrs mce mcp 0 0 tr R C op hwb kinds elders tof iof wyf mef hsf sof srf rsf cef cpf rest (-13)) mi_X5_no rfl rfl rfl ml_RX5_178 rfl (Nat.le_of_ble_eq_true rfl) (by decide) ⟨Nat.le_of_ble_eq_true rfl, Nat.le_of_ble_eq_true rfl⟩ rfl rfl dX5_put_63 ?_
            intro v w' hr'; obtain ⟨rfl, rfl⟩ := hr'
            show X φ 0 0 (c0 :: c1 :: c2 :: c3 :: c4 :: c5 :: c6 :: c7 :: c8 :: c9 :: c10 :: c11 :: (mo, oModel 0 (-13) tr (nI R) (nI C) (bI op) mki mel mto mio mwy (bI hwb) mme mhs mso msr mrs mce mcp) :: (mki, aI g 40 kinds) :: (mel, aI g 40 elders) :: (mto, aI g 25 tof) :: (mio, aZ g 40 iof) :: (mwy, aI g 4096 wyf) :: (mme, aZ g 36 mef) :: (mhs, aZ g 3 hsf) :: (mso, aI g 3 sof) :: (msr, aI g 3 srf) :: (mrs, aI g 12 rsf) :: (mce, aI g 480 cef) :: (mcp, aI g 40 cpf) :: rest) [(0, .ref mo), (1, .int (nI j)), (2, .int so), (3, .int r), (4, .int i), (5, .int v)] 66 [.int (-13)]
            exact hr _ _ _ _ (Or.inl (by rw [show ptD abs (nI j) so r i = -13 by rw [pt_at hj h16 h25 hab, if_neg h57]]; exact ⟨by decide, rfl, rfl⟩)) dX5_put_66
        · exact absurd h40 (by decide)
    · refine X_aload_n K0 0 dX5_put_28 rfl rfl ?_
      refine X_iconst (v := (-1)) K0 dX5_put_29 (by decide) ?_
      refine X_callV (As := [.int (-1)]) (rest := []) K0 12 (m_no g c0 c1 c2 c3 c4 c5 c6 c7 c8 c9 c10 c11 mo mki mel mto mio mwy mme mhs mso msr mrs mce mcp 0 0 tr R C op hwb kinds elders tof iof wyf mef hsf sof srf rsf cef cpf rest (-1)) mi_X5_no rfl rfl rfl ml_RX5_178 rfl (Nat.le_of_ble_eq_true rfl) (by decide) ⟨Nat.le_of_ble_eq_true rfl, Nat.le_of_ble_eq_true rfl⟩ rfl rfl dX5_put_30 ?_
      intro v w' hr'; obtain ⟨rfl, rfl⟩ := hr'
      show X φ 0 0 (c0 :: c1 :: c2 :: c3 :: c4 :: c5 :: c6 :: c7 :: c8 :: c9 :: c10 :: c11 :: (mo, oModel 0 (-1) tr (nI R) (nI C) (bI op) mki mel mto mio mwy (bI hwb) mme mhs mso msr mrs mce mcp) :: (mki, aI g 40 kinds) :: (mel, aI g 40 elders) :: (mto, aI g 25 tof) :: (mio, aZ g 40 iof) :: (mwy, aI g 4096 wyf) :: (mme, aZ g 36 mef) :: (mhs, aZ g 3 hsf) :: (mso, aI g 3 sof) :: (msr, aI g 3 srf) :: (mrs, aI g 12 rsf) :: (mce, aI g 480 cef) :: (mcp, aI g 40 cpf) :: rest) [(0, .ref mo), (1, .int x), (2, .int so), (3, .int r), (4, .int i), (5, .int v)] 33 [.int (-1)]
      exact hr _ _ _ _ (Or.inl (by rw [show ptD abs x so r i = -1 by first | exact pt_b1 h16 | exact pt_b2 h25]; exact ⟨by decide, rfl, rfl⟩)) dX5_put_33

set_option maxRecDepth 20000 in
set_option maxHeartbeats 400000 in
theorem m_areThere (g : Gx) (w : va_W) (len : Nat) (hl : len ≤ 40) (i n : Int32) : Con g yX5_areThere cX5_areThere 3 (some .boolean) 0 0 0 0 [.int i, .int n, .int (nI len)] w (Rs (some (.int (bI (hoB len i n)))) w) := by
  refine Con.ofZ (by decide +kernel) (Nat.le_of_ble_eq_true rfl) (fun φ K0 hr => ?_)
  show X φ 0 0 w [(0, .int i), (1, .int n), (2, .int (nI len))] 0 []
  refine X_iload_n K0 0 dX5_areThere_0 rfl rfl ?_
  refine X_if_lt K0 23 dX5_areThere_1 (by decide) (fun h1 => ?_) (fun h1 => ?_)
  · refine X_iconst (v := 0) K0 dX5_areThere_23 (by decide) ?_
    exact hr _ _ _ _ ⟨by first | (rw [ho_n2 h1]; rfl) | (rw [ho_n1 h5]; rfl) | (rw [(ar_eq hl h1 h5).mp h16]; rfl) | (rw [ar_y hl h1 h5 h16]; rfl), rfl⟩ (by first | exact Or.inl rfl | exact Or.inr rfl) dX5_areThere_24
  · refine X_iload_n K0 1 dX5_areThere_4 rfl rfl ?_
    refine X_if_lt K0 23 dX5_areThere_5 (by decide) (fun h5 => ?_) (fun h5 => ?_)
    · refine X_iconst (v := 0) K0 dX5_areThere_23 (by decide) ?_
      exact hr _ _ _ _ ⟨by first | (rw [ho_n2 h1]; rfl) | (rw [ho_n1 h5]; rfl) | (rw [(ar_eq hl h1 h5).mp h16]; rfl) | (rw [ar_y hl h1 h5 h16]; rfl), rfl⟩ (by first | exact Or.inl rfl | exact Or.inr rfl) dX5_areThere_24
    · refine X_iload_n K0 0 dX5_areThere_8 rfl rfl ?_
      refine X_i2l (v := (i.toInt64)) K0 dX5_areThere_9 rfl ?_
      refine X_iload_n K0 1 dX5_areThere_10 rfl rfl ?_
      refine X_i2l (v := (n.toInt64)) K0 dX5_areThere_11 rfl ?_
      refine X_ladd K0 dX5_areThere_12 ?_
      refine X_iload_n K0 2 dX5_areThere_13 rfl rfl ?_
      refine X_i2l (v := ((nI len).toInt64)) K0 dX5_areThere_14 rfl ?_
      refine X_lcmp K0 dX5_areThere_15 ?_
      refine X_if_gt K0 23 dX5_areThere_16 (by decide) (fun h16 => ?_) (fun h16 => ?_)
      · refine X_iconst (v := 0) K0 dX5_areThere_23 (by decide) ?_
        exact hr _ _ _ _ ⟨by first | (rw [ho_n2 h1]; rfl) | (rw [ho_n1 h5]; rfl) | (rw [(ar_eq hl h1 h5).mp h16]; rfl) | (rw [ar_y hl h1 h5 h16]; rfl), rfl⟩ (by first | exact Or.inl rfl | exact Or.inr rfl) dX5_areThere_24
      · refine X_iconst (v := 1) K0 dX5_areThere_19 (by decide) ?_
        refine X_goto K0 24 dX5_areThere_20 (by decide) ?_
        exact hr _ _ _ _ ⟨by first | (rw [ho_n2 h1]; rfl) | (rw [ho_n1 h5]; rfl) | (rw [(ar_eq hl h1 h5).mp h16]; rfl) | (rw [ar_y hl h1 h5 h16]; rfl), rfl⟩ (by first | exact Or.inl rfl | exact Or.inr rfl) dX5_areThere_24
