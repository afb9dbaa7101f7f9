set_option maxRecDepth 20000 in
set_option maxHeartbeats 400000 in
theorem m_countOf (g : Gx) (c0 c1 c2 c3 c4 c5 c6 c7 c8 c9 c10 c11 : Nat × va_E) (mo mki mel mto mio mwy mme mhs mso msr mrs mce mcp : Nat) (tn stt : Int32) (tr : Int64) (R C : Nat) (op hwb : Bool) (kinds elders tof iof wyf mef hsf sof srf rsf cef cpf : Nat → Int32) (rest : va_W) (hR : 1 ≤ R ∧ R ≤ 5) (hC : 1 ≤ C ∧ C ≤ 5) (hKI : KI (thM R C op) kinds elders) (hWY : WY R C op kinds elders hwb wyf) (way k : Int32) : Con g yX5_countOf cX5_countOf 5 (some .int) 5 107 0 0 [.ref mo, .int way, .int k] (c0 :: c1 :: c2 :: c3 :: c4 :: c5 :: c6 :: c7 :: c8 :: c9 :: c10 :: c11 :: (mo, oModel tn stt tr (nI R) (nI C) (bI op) mki mel mto mio mwy (bI hwb) mme mhs mso msr mrs mce mcp) :: (mki, aI g 40 kinds) :: (mel, aI g 40 elders) :: (mto, aI g 25 tof) :: (mio, aZ g 40 iof) :: (mwy, aI g 4096 wyf) :: (mme, aZ g 36 mef) :: (mhs, aZ g 3 hsf) :: (mso, aI g 3 sof) :: (msr, aI g 3 srf) :: (mrs, aI g 12 rsf) :: (mce, aI g 480 cef) :: (mcp, aI g 40 cpf) :: rest) (fun v w' => v = some (.int (cnI (wsM R C op kinds elders way k) (2 ^ (ctF kinds (thM R C op))))) ∧ ∃ (tq iq wq : Nat → Int32), (∀ s, s < (2 ^ (ctF kinds (thM R C op))) → wq s = wyM R C op kinds elders s) ∧ (c0 :: c1 :: c2 :: c3 :: c4 :: c5 :: c6 :: c7 :: c8 :: c9 :: c10 :: c11 :: (mo, oModel tn stt tr (nI R) (nI C) (bI op) mki mel mto mio mwy (bI true) mme mhs mso msr mrs mce mcp) :: (mki, aI g 40 kinds) :: (mel, aI g 40 elders) :: (mto, aI g 25 tq) :: (mio, aZ g 40 iq) :: (mwy, aI g 4096 wq) :: (mme, aZ g 36 mef) :: (mhs, aZ g 3 hsf) :: (mso, aI g 3 sof) :: (msr, aI g 3 srf) :: (mrs, aI g 12 rsf) :: (mce, aI g 480 cef) :: (mcp, aI g 40 cpf) :: rest) = w') := by
  have hTM := th_M (op := op) hR hC
  have hPM := pl_M hR hC
  have hRM := rd_M hR hC
  have hN := pow_m hKI.2
  have hM12 := hKI.2
  refine Con.ofI (by decide +kernel) (Nat.le_of_ble_eq_true rfl) (fun φ K0 hr => ?_)
  show X φ 0 0 (c0 :: c1 :: c2 :: c3 :: c4 :: c5 :: c6 :: c7 :: c8 :: c9 :: c10 :: c11 :: (mo, oModel tn stt tr (nI R) (nI C) (bI op) mki mel mto mio mwy (bI hwb) mme mhs mso msr mrs mce mcp) :: (mki, aI g 40 kinds) :: (mel, aI g 40 elders) :: (mto, aI g 25 tof) :: (mio, aZ g 40 iof) :: (mwy, aI g 4096 wyf) :: (mme, aZ g 36 mef) :: (mhs, aZ g 3 hsf) :: (mso, aI g 3 sof) :: (msr, aI g 3 srf) :: (mrs, aI g 12 rsf) :: (mce, aI g 480 cef) :: (mcp, aI g 40 cpf) :: rest) [(0, .ref mo), (1, .int way), (2, .int k)] 0 []
  refine X_aload_n K0 0 dX5_countOf_0 rfl rfl ?_
  refine X_callV (As := []) (rest := []) K0 12 (m_needWays g c0 c1 c2 c3 c4 c5 c6 c7 c8 c9 c10 c11 mo mki mel mto mio mwy mme mhs mso msr mrs mce mcp tn stt tr R C op hwb kinds elders tof iof wyf mef hsf sof srf rsf cef cpf rest hR hC hKI hWY) mi_X5_needWays rfl rfl rfl ml_RX5_138 rfl (Nat.le_of_ble_eq_true rfl) (by decide) ⟨Nat.le_of_ble_eq_true rfl, Nat.le_of_ble_eq_true rfl⟩ rfl rfl dX5_countOf_1 ?_
  intro v w' hr'; obtain ⟨rfl, tq1, iq1, wq1, hq1, rfl⟩ := hr'
  show X φ 0 0 (c0 :: c1 :: c2 :: c3 :: c4 :: c5 :: c6 :: c7 :: c8 :: c9 :: c10 :: c11 :: (mo, oModel tn stt tr (nI R) (nI C) (bI op) mki mel mto mio mwy (bI true) mme mhs mso msr mrs mce mcp) :: (mki, aI g 40 kinds) :: (mel, aI g 40 elders) :: (mto, aI g 25 tq1) :: (mio, aZ g 40 iq1) :: (mwy, aI g 4096 wq1) :: (mme, aZ g 36 mef) :: (mhs, aZ g 3 hsf) :: (mso, aI g 3 sof) :: (msr, aI g 3 srf) :: (mrs, aI g 12 rsf) :: (mce, aI g 480 cef) :: (mcp, aI g 40 cpf) :: rest) [(0, .ref mo), (1, .int way), (2, .int k)] 4 []
  refine X_iconst (v := 0) K0 dX5_countOf_4 (by decide) ?_
  refine X_istore_n (L' := [(3, .int 0), (0, .ref mo), (1, .int way), (2, .int k)]) K0 dX5_countOf_5 rfl (by decide) rfl ?_
  refine X_iconst (v := 0) K0 dX5_countOf_6 (by decide) ?_
  refine X_istore (L' := [(4, .int 0), (3, .int 0), (0, .ref mo), (1, .int way), (2, .int k)]) K0 dX5_countOf_7 (by decide) rfl ?_
  refine X.sub [2, 3, 4, 1, 0] (L' := [(0, .ref mo), (1, .int way), (2, .int k), (3, .int 0), (4, .int 0)]) rfl ?_
  have LOOP : ∀ (dd ii : Nat), ii + dd = (2 ^ (ctF kinds (thM R C op))) → X φ 0 0 (c0 :: c1 :: c2 :: c3 :: c4 :: c5 :: c6 :: c7 :: c8 :: c9 :: c10 :: c11 :: (mo, oModel tn stt tr (nI R) (nI C) (bI op) mki mel mto mio mwy (bI true) mme mhs mso msr mrs mce mcp) :: (mki, aI g 40 kinds) :: (mel, aI g 40 elders) :: (mto, aI g 25 tq1) :: (mio, aZ g 40 iq1) :: (mwy, aI g 4096 wq1) :: (mme, aZ g 36 mef) :: (mhs, aZ g 3 hsf) :: (mso, aI g 3 sof) :: (msr, aI g 3 srf) :: (mrs, aI g 12 rsf) :: (mce, aI g 480 cef) :: (mcp, aI g 40 cpf) :: rest) [(0, .ref mo), (1, .int way), (2, .int k), (3, .int (cnI (wsM R C op kinds elders way k) ii)), (4, .int (nI ii))] 9 [] := by
    intro dd
    induction dd with
    | zero =>
      intro ii hii 
      have hii2 : (2 ^ (ctF kinds (thM R C op))) = ii := by omega
      subst hii2
      refine X_iload K0 4 dX5_countOf_9 rfl ?_
      refine X_iconst (v := 1) K0 dX5_countOf_11 (by decide) ?_
      refine X_aload_n K0 0 dX5_countOf_12 rfl rfl ?_
      refine X_callV (As := []) (rest := [.int 1, .int (nI (2 ^ (ctF kinds (thM R C op))))]) K0 12 (m_chances g c0 c1 c2 c3 c4 c5 c6 c7 c8 c9 c10 c11 mo mki mel mto mio mwy mme mhs mso msr mrs mce mcp tn stt tr R C op true kinds elders tq1 iq1 wq1 mef hsf sof srf rsf cef cpf rest hR hC ) mi_X5_chances rfl rfl rfl ml_RX5_85 rfl (Nat.le_of_ble_eq_true rfl) (by decide) ⟨Nat.le_of_ble_eq_true rfl, Nat.le_of_ble_eq_true rfl⟩ rfl rfl dX5_countOf_13 ?_
      intro v w' hr'; obtain ⟨rfl, rfl⟩ := hr'
      show X φ 0 0 (c0 :: c1 :: c2 :: c3 :: c4 :: c5 :: c6 :: c7 :: c8 :: c9 :: c10 :: c11 :: (mo, oModel tn stt tr (nI R) (nI C) (bI op) mki mel mto mio mwy (bI true) mme mhs mso msr mrs mce mcp) :: (mki, aI g 40 kinds) :: (mel, aI g 40 elders) :: (mto, aI g 25 tq1) :: (mio, aZ g 40 iq1) :: (mwy, aI g 4096 wq1) :: (mme, aZ g 36 mef) :: (mhs, aZ g 3 hsf) :: (mso, aI g 3 sof) :: (msr, aI g 3 srf) :: (mrs, aI g 12 rsf) :: (mce, aI g 480 cef) :: (mcp, aI g 40 cpf) :: rest) [(0, .ref mo), (1, .int way), (2, .int k), (3, .int (cnI (wsM R C op kinds elders way k) (2 ^ (ctF kinds (thM R C op))))), (4, .int (nI (2 ^ (ctF kinds (thM R C op)))))] 16 [.int (nI (ctF kinds (thM R C op))), .int 1, .int (nI (2 ^ (ctF kinds (thM R C op))))]
      refine X_ishl K0 dX5_countOf_16 ?_
      refine X_v (z := (nI (2 ^ (ctF kinds (thM R C op))))) (shl_ct hKI.2) ?_
      refine X_icmp_ge K0 53 dX5_countOf_17 (by decide) (fun h17 => ?_) (fun h17 => ?_)
      · refine X_iload_n K0 3 dX5_countOf_53 rfl rfl ?_
        exact hr _ _ _ _ ⟨rfl, tq1, iq1, wq1, hq1, rfl⟩ dX5_countOf_54
      · exact absurd (nI_le (Nat.le_refl _) (by omega)) h17
    | succ dd ih =>
      intro ii hii 
      have hlt : ii < (2 ^ (ctF kinds (thM R C op))) := by omega
      refine X_iload K0 4 dX5_countOf_9 rfl ?_
      refine X_iconst (v := 1) K0 dX5_countOf_11 (by decide) ?_
      refine X_aload_n K0 0 dX5_countOf_12 rfl rfl ?_
      refine X_callV (As := []) (rest := [.int 1, .int (nI ii)]) K0 12 (m_chances g c0 c1 c2 c3 c4 c5 c6 c7 c8 c9 c10 c11 mo mki mel mto mio mwy mme mhs mso msr mrs mce mcp tn stt tr R C op true kinds elders tq1 iq1 wq1 mef hsf sof srf rsf cef cpf rest hR hC ) mi_X5_chances rfl rfl rfl ml_RX5_85 rfl (Nat.le_of_ble_eq_true rfl) (by decide) ⟨Nat.le_of_ble_eq_true rfl, Nat.le_of_ble_eq_true rfl⟩ rfl rfl dX5_countOf_13 ?_
      intro v w' hr'; obtain ⟨rfl, rfl⟩ := hr'
      show X φ 0 0 (c0 :: c1 :: c2 :: c3 :: c4 :: c5 :: c6 :: c7 :: c8 :: c9 :: c10 :: c11 :: (mo, oModel tn stt tr (nI R) (nI C) (bI op) mki mel mto mio mwy (bI true) mme mhs mso msr mrs mce mcp) :: (mki, aI g 40 kinds) :: (mel, aI g 40 elders) :: (mto, aI g 25 tq1) :: (mio, aZ g 40 iq1) :: (mwy, aI g 4096 wq1) :: (mme, aZ g 36 mef) :: (mhs, aZ g 3 hsf) :: (mso, aI g 3 sof) :: (msr, aI g 3 srf) :: (mrs, aI g 12 rsf) :: (mce, aI g 480 cef) :: (mcp, aI g 40 cpf) :: rest) [(0, .ref mo), (1, .int way), (2, .int k), (3, .int (cnI (wsM R C op kinds elders way k) ii)), (4, .int (nI ii))] 16 [.int (nI (ctF kinds (thM R C op))), .int 1, .int (nI ii)]
      refine X_ishl K0 dX5_countOf_16 ?_
      refine X_v (z := (nI (2 ^ (ctF kinds (thM R C op))))) (shl_ct hKI.2) ?_
      refine X_icmp_ge K0 53 dX5_countOf_17 (by decide) (fun h17 => ?_) (fun h17 => ?_)
      · exact absurd h17 (nI_ge hlt (by omega))
      · refine X_iload_n K0 3 dX5_countOf_20 rfl rfl ?_
        refine X_iload K0 4 dX5_countOf_21 rfl ?_
        refine X_callS (As := [.int (nI ii)]) (rest := [.int (cnI (wsM R C op kinds elders way k) ii)]) K0 (m_bits g (c0 :: c1 :: c2 :: c3 :: c4 :: c5 :: c6 :: c7 :: c8 :: c9 :: c10 :: c11 :: (mo, oModel tn stt tr (nI R) (nI C) (bI op) mki mel mto mio mwy (bI true) mme mhs mso msr mrs mce mcp) :: (mki, aI g 40 kinds) :: (mel, aI g 40 elders) :: (mto, aI g 25 tq1) :: (mio, aZ g 40 iq1) :: (mwy, aI g 4096 wq1) :: (mme, aZ g 36 mef) :: (mhs, aZ g 3 hsf) :: (mso, aI g 3 sof) :: (msr, aI g 3 srf) :: (mrs, aI g 12 rsf) :: (mce, aI g 480 cef) :: (mcp, aI g 40 cpf) :: rest) (nI ii)) ms_X5_bits rfl ml_RX5_164 rfl (Nat.le_of_ble_eq_true rfl) (by decide) ⟨Nat.le_of_ble_eq_true rfl, Nat.le_of_ble_eq_true rfl⟩ rfl rfl dX5_countOf_23 ?_
        intro v w' hr'; obtain ⟨rfl, rfl⟩ := hr'
        show X φ 0 0 (c0 :: c1 :: c2 :: c3 :: c4 :: c5 :: c6 :: c7 :: c8 :: c9 :: c10 :: c11 :: (mo, oModel tn stt tr (nI R) (nI C) (bI op) mki mel mto mio mwy (bI true) mme mhs mso msr mrs mce mcp) :: (mki, aI g 40 kinds) :: (mel, aI g 40 elders) :: (mto, aI g 25 tq1) :: (mio, aZ g 40 iq1) :: (mwy, aI g 4096 wq1) :: (mme, aZ g 36 mef) :: (mhs, aZ g 3 hsf) :: (mso, aI g 3 sof) :: (msr, aI g 3 srf) :: (mrs, aI g 12 rsf) :: (mce, aI g 480 cef) :: (mcp, aI g 40 cpf) :: rest) [(0, .ref mo), (1, .int way), (2, .int k), (3, .int (cnI (wsM R C op kinds elders way k) ii)), (4, .int (nI ii))] 26 [.int (bsM (nI ii) 12), .int (cnI (wsM R C op kinds elders way k) ii)]
        refine X_iload_n K0 2 dX5_countOf_26 rfl rfl ?_
        refine X_icmp_ne K0 44 dX5_countOf_27 (by decide) (fun h27 => ?_) (fun h27 => ?_)
        · refine X_iconst (v := 0) K0 dX5_countOf_44 (by decide) ?_
          refine X_iadd K0 dX5_countOf_45 ?_
          refine X_istore_n (L' := [(3, .int ((cnI (wsM R C op kinds elders way k) ii) + 0)), (0, .ref mo), (1, .int way), (2, .int k), (4, .int (nI ii))]) K0 dX5_countOf_46 rfl (by decide) rfl ?_
          refine X_iinc (v := ((nI ii) + 1)) (L' := [(4, .int ((nI ii) + 1)), (3, .int ((cnI (wsM R C op kinds elders way k) ii) + 0)), (0, .ref mo), (1, .int way), (2, .int k)]) K0 4 dX5_countOf_47 rfl (by first | rfl | decide) (by decide) rfl ?_
          refine X_goto K0 9 dX5_countOf_50 (by decide) ?_
          refine X.sub [2, 3, 4, 1, 0] (L' := [(0, .ref mo), (1, .int way), (2, .int k), (3, .int ((cnI (wsM R C op kinds elders way k) ii) + 0)), (4, .int ((nI ii) + 1))]) rfl ?_
          exact X_eq rfl (by first | (rw [nI_succ, cn_n0 (p := (wsM R C op kinds elders way k)) (i := ii) (wm_n1 h27)]) | (rw [nI_succ, cn_n0 (p := (wsM R C op kinds elders way k)) (i := ii) (wm_n2 h37)]) | (rw [nI_succ, cn_y1 (p := (wsM R C op kinds elders way k)) (i := ii) (wm_y h27 h37)])) rfl (ih (ii + 1) (by omega))
        · refine X_aload_n K0 0 dX5_countOf_30 rfl rfl ?_
          refine X_iload K0 4 dX5_countOf_31 rfl ?_
          refine X_iload_n K0 1 dX5_countOf_33 rfl rfl ?_
          refine X_callV (As := [.int (nI ii), .int way]) (rest := [.int (cnI (wsM R C op kinds elders way k) ii)]) K0 12 (m_is g c0 c1 c2 c3 c4 c5 c6 c7 c8 c9 c10 c11 mo mki mel mto mio mwy mme mhs mso msr mrs mce mcp tn stt tr R C op true kinds elders tq1 iq1 wq1 mef hsf sof srf rsf cef cpf rest ii (by omega) (hq1 ii (by omega)) way) mi_X5_is rfl rfl rfl ml_RX5_141 rfl (Nat.le_of_ble_eq_true rfl) (by decide) ⟨Nat.le_of_ble_eq_true rfl, Nat.le_of_ble_eq_true rfl⟩ rfl rfl dX5_countOf_34 ?_
          intro v w' hr'; obtain ⟨rfl, rfl⟩ := hr'
          show X φ 0 0 (c0 :: c1 :: c2 :: c3 :: c4 :: c5 :: c6 :: c7 :: c8 :: c9 :: c10 :: c11 :: (mo, oModel tn stt tr (nI R) (nI C) (bI op) mki mel mto mio mwy (bI true) mme mhs mso msr mrs mce mcp) :: (mki, aI g 40 kinds) :: (mel, aI g 40 elders) :: (mto, aI g 25 tq1) :: (mio, aZ g 40 iq1) :: (mwy, aI g 4096 wq1) :: (mme, aZ g 36 mef) :: (mhs, aZ g 3 hsf) :: (mso, aI g 3 sof) :: (msr, aI g 3 srf) :: (mrs, aI g 12 rsf) :: (mce, aI g 480 cef) :: (mcp, aI g 40 cpf) :: rest) [(0, .ref mo), (1, .int way), (2, .int k), (3, .int (cnI (wsM R C op kinds elders way k) ii)), (4, .int (nI ii))] 37 [.int (bI (isM R C op kinds elders ii way)), .int (cnI (wsM R C op kinds elders way k) ii)]
          refine X_if_eq K0 44 dX5_countOf_37 (by decide) (fun h37 => ?_) (fun h37 => ?_)
          · refine X_iconst (v := 0) K0 dX5_countOf_44 (by decide) ?_
            refine X_iadd K0 dX5_countOf_45 ?_
            refine X_istore_n (L' := [(3, .int ((cnI (wsM R C op kinds elders way k) ii) + 0)), (0, .ref mo), (1, .int way), (2, .int k), (4, .int (nI ii))]) K0 dX5_countOf_46 rfl (by decide) rfl ?_
            refine X_iinc (v := ((nI ii) + 1)) (L' := [(4, .int ((nI ii) + 1)), (3, .int ((cnI (wsM R C op kinds elders way k) ii) + 0)), (0, .ref mo), (1, .int way), (2, .int k)]) K0 4 dX5_countOf_47 rfl (by first | rfl | decide) (by decide) rfl ?_
            refine X_goto K0 9 dX5_countOf_50 (by decide) ?_
            refine X.sub [2, 3, 4, 1, 0] (L' := [(0, .ref mo), (1, .int way), (2, .int k), (3, .int ((cnI (wsM R C op kinds elders way k) ii) + 0)), (4, .int ((nI ii) + 1))]) rfl ?_
            exact X_eq rfl (by first | (rw [nI_succ, cn_n0 (p := (wsM R C op kinds elders way k)) (i := ii) (wm_n1 h27)]) | (rw [nI_succ, cn_n0 (p := (wsM R C op kinds elders way k)) (i := ii) (wm_n2 h37)]) | (rw [nI_succ, cn_y1 (p := (wsM R C op kinds elders way k)) (i := ii) (wm_y h27 h37)])) rfl (ih (ii + 1) (by omega))
          · refine X_iconst (v := 1) K0 dX5_countOf_40 (by decide) ?_
            refine X_goto K0 45 dX5_countOf_41 (by decide) ?_
            refine X_iadd K0 dX5_countOf_45 ?_
            refine X_istore_n (L' := [(3, .int ((cnI (wsM R C op kinds elders way k) ii) + 1)), (0, .ref mo), (1, .int way), (2, .int k), (4, .int (nI ii))]) K0 dX5_countOf_46 rfl (by decide) rfl ?_
            refine X_iinc (v := ((nI ii) + 1)) (L' := [(4, .int ((nI ii) + 1)), (3, .int ((cnI (wsM R C op kinds elders way k) ii) + 1)), (0, .ref mo), (1, .int way), (2, .int k)]) K0 4 dX5_countOf_47 rfl (by first | rfl | decide) (by decide) rfl ?_
            refine X_goto K0 9 dX5_countOf_50 (by decide) ?_
            refine X.sub [2, 3, 4, 1, 0] (L' := [(0, .ref mo), (1, .int way), (2, .int k), (3, .int ((cnI (wsM R C op kinds elders way k) ii) + 1)), (4, .int ((nI ii) + 1))]) rfl ?_
            exact X_eq rfl (by first | (rw [nI_succ, cn_n0 (p := (wsM R C op kinds elders way k)) (i := ii) (wm_n1 h27)]) | (rw [nI_succ, cn_n0 (p := (wsM R C op kinds elders way k)) (i := ii) (wm_n2 h37)]) | (rw [nI_succ, cn_y1 (p := (wsM R C op kinds elders way k)) (i := ii) (wm_y h27 h37)])) rfl (ih (ii + 1) (by omega))
  exact LOOP (2 ^ (ctF kinds (thM R C op))) 0 (by omega)

set_option maxRecDepth 20000 in
set_option maxHeartbeats 400000 in
theorem m_count (g : Gx) (c0 c1 c2 c3 c4 c5 c6 c7 c8 c9 c10 c11 : Nat × va_E) (mo mki mel mto mio mwy mme mhs mso msr mrs mce mcp : Nat) (tn stt : Int32) (tr : Int64) (R C : Nat) (op hwb : Bool) (kinds elders tof iof wyf mef hsf sof srf rsf cef cpf : Nat → Int32) (rest : va_W) (hR : 1 ≤ R ∧ R ≤ 5) (hC : 1 ≤ C ∧ C ≤ 5) (hKI : KI (thM R C op) kinds elders) (hWY : WY R C op kinds elders hwb wyf) (way k : Int32) : Con g yX5_count cX5_count 3 (some .int) 6 131 0 0 [.ref mo, .int way, .int k] (c0 :: c1 :: c2 :: c3 :: c4 :: c5 :: c6 :: c7 :: c8 :: c9 :: c10 :: c11 :: (mo, oModel tn stt tr (nI R) (nI C) (bI op) mki mel mto mio mwy (bI hwb) mme mhs mso msr mrs mce mcp) :: (mki, aI g 40 kinds) :: (mel, aI g 40 elders) :: (mto, aI g 25 tof) :: (mio, aZ g 40 iof) :: (mwy, aI g 4096 wyf) :: (mme, aZ g 36 mef) :: (mhs, aZ g 3 hsf) :: (mso, aI g 3 sof) :: (msr, aI g 3 srf) :: (mrs, aI g 12 rsf) :: (mce, aI g 480 cef) :: (mcp, aI g 40 cpf) :: rest) (fun v w' => v = some (.int (coVM R C op kinds elders way k)) ∧ ∃ (tq iq wq mq : Nat → Int32) (hq : Bool), WY R C op kinds elders hq wq ∧ (c0 :: c1 :: c2 :: c3 :: c4 :: c5 :: c6 :: c7 :: c8 :: c9 :: c10 :: c11 :: (mo, oModel 0 stt tr (nI R) (nI C) (bI op) mki mel mto mio mwy (bI hq) mme mhs mso msr mrs mce mcp) :: (mki, aI g 40 kinds) :: (mel, aI g 40 elders) :: (mto, aI g 25 tq) :: (mio, aZ g 40 iq) :: (mwy, aI g 4096 wq) :: (mme, aZ g 36 mq) :: (mhs, aZ g 3 hsf) :: (mso, aI g 3 sof) :: (msr, aI g 3 srf) :: (mrs, aI g 12 rsf) :: (mce, aI g 480 cef) :: (mcp, aI g 40 cpf) :: rest) = w') := by
  have hTM := th_M (op := op) hR hC
  have hPM := pl_M hR hC
  have hRM := rd_M hR hC
  have hN := pow_m hKI.2
  have hM12 := hKI.2
  refine Con.ofI (by decide +kernel) (Nat.le_of_ble_eq_true rfl) (fun φ K0 hr => ?_)
  show X φ 0 0 (c0 :: c1 :: c2 :: c3 :: c4 :: c5 :: c6 :: c7 :: c8 :: c9 :: c10 :: c11 :: (mo, oModel tn stt tr (nI R) (nI C) (bI op) mki mel mto mio mwy (bI hwb) mme mhs mso msr mrs mce mcp) :: (mki, aI g 40 kinds) :: (mel, aI g 40 elders) :: (mto, aI g 25 tof) :: (mio, aZ g 40 iof) :: (mwy, aI g 4096 wyf) :: (mme, aZ g 36 mef) :: (mhs, aZ g 3 hsf) :: (mso, aI g 3 sof) :: (msr, aI g 3 srf) :: (mrs, aI g 12 rsf) :: (mce, aI g 480 cef) :: (mcp, aI g 40 cpf) :: rest) [(0, .ref mo), (1, .int way), (2, .int k)] 0 []
  refine X_aload_n K0 0 dX5_count_0 rfl rfl ?_
  refine X_iconst (v := 0) K0 dX5_count_1 (by decide) ?_
  refine X_put (w' := (c0 :: c1 :: c2 :: c3 :: c4 :: c5 :: c6 :: c7 :: c8 :: c9 :: c10 :: c11 :: (mo, oModel 0 stt tr (nI R) (nI C) (bI op) mki mel mto mio mwy (bI hwb) mme mhs mso msr mrs mce mcp) :: (mki, aI g 40 kinds) :: (mel, aI g 40 elders) :: (mto, aI g 25 tof) :: (mio, aZ g 40 iof) :: (mwy, aI g 4096 wyf) :: (mme, aZ g 36 mef) :: (mhs, aZ g 3 hsf) :: (mso, aI g 3 sof) :: (msr, aI g 3 srf) :: (mrs, aI g 12 rsf) :: (mce, aI g 480 cef) :: (mcp, aI g 40 cpf) :: rest)) K0 12 rfl rfl hin5 tyX5 tyX5_ok nmX5 0 (by decide) fl_RX5_58 rfl (tyX5_ok 0 (by decide)) rfl rfl (Nat.le_of_ble_eq_true rfl) dX5_count_2 rfl ?_
  refine X_iload_n K0 1 dX5_count_5 rfl rfl ?_
  refine X_iconst (v := 0) K0 dX5_count_6 (by decide) ?_
  refine X_iconst (v := 3) K0 dX5_count_7 (by decide) ?_
  refine X_callS (As := [.int way, .int 0, .int 3]) (rest := []) K0 (c_in g (c0 :: c1 :: c2 :: c3 :: c4 :: c5 :: c6 :: c7 :: c8 :: c9 :: c10 :: c11 :: (mo, oModel 0 stt tr (nI R) (nI C) (bI op) mki mel mto mio mwy (bI hwb) mme mhs mso msr mrs mce mcp) :: (mki, aI g 40 kinds) :: (mel, aI g 40 elders) :: (mto, aI g 25 tof) :: (mio, aZ g 40 iof) :: (mwy, aI g 4096 wyf) :: (mme, aZ g 36 mef) :: (mhs, aZ g 3 hsf) :: (mso, aI g 3 sof) :: (msr, aI g 3 srf) :: (mrs, aI g 12 rsf) :: (mce, aI g 480 cef) :: (mcp, aI g 40 cpf) :: rest) way 0 3) ms_X5_in rfl ml_RX5_81 rfl (Nat.le_of_ble_eq_true rfl) (by decide) ⟨Nat.le_of_ble_eq_true rfl, Nat.le_of_ble_eq_true rfl⟩ rfl rfl dX5_count_8 ?_
  intro v w' hr'; obtain ⟨rfl, rfl⟩ := hr'
  show X φ 0 0 (c0 :: c1 :: c2 :: c3 :: c4 :: c5 :: c6 :: c7 :: c8 :: c9 :: c10 :: c11 :: (mo, oModel 0 stt tr (nI R) (nI C) (bI op) mki mel mto mio mwy (bI hwb) mme mhs mso msr mrs mce mcp) :: (mki, aI g 40 kinds) :: (mel, aI g 40 elders) :: (mto, aI g 25 tof) :: (mio, aZ g 40 iof) :: (mwy, aI g 4096 wyf) :: (mme, aZ g 36 mef) :: (mhs, aZ g 3 hsf) :: (mso, aI g 3 sof) :: (msr, aI g 3 srf) :: (mrs, aI g 12 rsf) :: (mce, aI g 480 cef) :: (mcp, aI g 40 cpf) :: rest) [(0, .ref mo), (1, .int way), (2, .int k)] 11 [.int (bI (wiB way 0 3))]
  refine X_if_eq K0 31 dX5_count_11 (by decide) (fun h11 => ?_) (fun h11 => ?_)
  · refine X_iconst (v := (-1)) K0 dX5_count_31 (by decide) ?_
    exact hr _ _ _ _ ⟨by rw [coVM, no_if (by first | exact p_n (bI_0.mp h11) | exact p_yn (bI_n0.mp h11) (bI_0.mp h19))], tof, iof, wyf, mef, hwb, hWY, rfl⟩ dX5_count_32
  · refine X_aload_n K0 0 dX5_count_14 rfl rfl ?_
    refine X_iload_n K0 2 dX5_count_15 rfl rfl ?_
    refine X_callV (As := [.int k]) (rest := []) K0 12 (m_isSize g c0 c1 c2 c3 c4 c5 c6 c7 c8 c9 c10 c11 mo mki mel mto mio mwy mme mhs mso msr mrs mce mcp 0 stt tr R C op hwb kinds elders tof iof wyf mef hsf sof srf rsf cef cpf rest hR hC k) mi_X5_isSize rfl rfl rfl ml_RX5_167 rfl (Nat.le_of_ble_eq_true rfl) (by decide) ⟨Nat.le_of_ble_eq_true rfl, Nat.le_of_ble_eq_true rfl⟩ rfl rfl dX5_count_16 ?_
    intro v w' hr'; obtain ⟨rfl, rfl⟩ := hr'
    show X φ 0 0 (c0 :: c1 :: c2 :: c3 :: c4 :: c5 :: c6 :: c7 :: c8 :: c9 :: c10 :: c11 :: (mo, oModel 0 stt tr (nI R) (nI C) (bI op) mki mel mto mio mwy (bI hwb) mme mhs mso msr mrs mce mcp) :: (mki, aI g 40 kinds) :: (mel, aI g 40 elders) :: (mto, aI g 25 tof) :: (mio, aZ g 40 iof) :: (mwy, aI g 4096 wyf) :: (mme, aZ g 36 mef) :: (mhs, aZ g 3 hsf) :: (mso, aI g 3 sof) :: (msr, aI g 3 srf) :: (mrs, aI g 12 rsf) :: (mce, aI g 480 cef) :: (mcp, aI g 40 cpf) :: rest) [(0, .ref mo), (1, .int way), (2, .int k)] 19 [.int (bI (wiB k 0 (nI (ctF kinds (thM R C op)))))]
    refine X_if_eq K0 31 dX5_count_19 (by decide) (fun h19 => ?_) (fun h19 => ?_)
    · refine X_iconst (v := (-1)) K0 dX5_count_31 (by decide) ?_
      exact hr _ _ _ _ ⟨by rw [coVM, no_if (by first | exact p_n (bI_0.mp h11) | exact p_yn (bI_n0.mp h11) (bI_0.mp h19))], tof, iof, wyf, mef, hwb, hWY, rfl⟩ dX5_count_32
    · refine X_aload_n K0 0 dX5_count_22 rfl rfl ?_
      refine X_iload_n K0 1 dX5_count_23 rfl rfl ?_
      refine X_iload_n K0 2 dX5_count_24 rfl rfl ?_
      refine X_callV (As := [.int way, .int k]) (rest := []) K0 12 (m_countOf g c0 c1 c2 c3 c4 c5 c6 c7 c8 c9 c10 c11 mo mki mel mto mio mwy mme mhs mso msr mrs mce mcp 0 stt tr R C op hwb kinds elders tof iof wyf mef hsf sof srf rsf cef cpf rest hR hC hKI hWY way k) mi_X5_countOf rfl rfl rfl ml_RX5_170 rfl (Nat.le_of_ble_eq_true rfl) (by decide) ⟨Nat.le_of_ble_eq_true rfl, Nat.le_of_ble_eq_true rfl⟩ rfl rfl dX5_count_25 ?_
      intro v w' hr'; obtain ⟨rfl, tq1, iq1, wq1, hq1, rfl⟩ := hr'
      show X φ 0 0 (c0 :: c1 :: c2 :: c3 :: c4 :: c5 :: c6 :: c7 :: c8 :: c9 :: c10 :: c11 :: (mo, oModel 0 stt tr (nI R) (nI C) (bI op) mki mel mto mio mwy (bI true) mme mhs mso msr mrs mce mcp) :: (mki, aI g 40 kinds) :: (mel, aI g 40 elders) :: (mto, aI g 25 tq1) :: (mio, aZ g 40 iq1) :: (mwy, aI g 4096 wq1) :: (mme, aZ g 36 mef) :: (mhs, aZ g 3 hsf) :: (mso, aI g 3 sof) :: (msr, aI g 3 srf) :: (mrs, aI g 12 rsf) :: (mce, aI g 480 cef) :: (mcp, aI g 40 cpf) :: rest) [(0, .ref mo), (1, .int way), (2, .int k)] 28 [.int (cnI (wsM R C op kinds elders way k) (2 ^ (ctF kinds (thM R C op))))]
      refine X_goto K0 32 dX5_count_28 (by decide) ?_
      exact hr _ _ _ _ ⟨by rw [coVM, yes_if (p_yy (bI_n0.mp h11) (bI_n0.mp h19))], tq1, iq1, wq1, mef, true, (fun _ => hq1), rfl⟩ dX5_count_32

set_option maxRecDepth 20000 in
set_option maxHeartbeats 400000 in
theorem m_joined (g : Gx) (c0 c1 c2 c3 c4 c5 c6 c7 c8 c9 c10 c11 : Nat × va_E) (mo mki mel mto mio mwy mme mhs mso msr mrs mce mcp : Nat) (tn stt : Int32) (tr : Int64) (R C : Nat) (op hwb : Bool) (kinds elders tof iof wyf mef hsf sof srf rsf cef cpf : Nat → Int32) (rest : va_W) (hR : 1 ≤ R ∧ R ≤ 5) (hC : 1 ≤ C ∧ C ≤ 5) (hKI : KI (thM R C op) kinds elders) (hWY : WY R C op kinds elders hwb wyf) (a b k : Int32) : Con g yX5_joined cX5_joined 6 (some .int) 5 103 0 0 [.ref mo, .int a, .int b, .int k] (c0 :: c1 :: c2 :: c3 :: c4 :: c5 :: c6 :: c7 :: c8 :: c9 :: c10 :: c11 :: (mo, oModel tn stt tr (nI R) (nI C) (bI op) mki mel mto mio mwy (bI hwb) mme mhs mso msr mrs mce mcp) :: (mki, aI g 40 kinds) :: (mel, aI g 40 elders) :: (mto, aI g 25 tof) :: (mio, aZ g 40 iof) :: (mwy, aI g 4096 wyf) :: (mme, aZ g 36 mef) :: (mhs, aZ g 3 hsf) :: (mso, aI g 3 sof) :: (msr, aI g 3 srf) :: (mrs, aI g 12 rsf) :: (mce, aI g 480 cef) :: (mcp, aI g 40 cpf) :: rest) (fun v w' => v = some (.int (joVM R C op kinds elders a b k)) ∧ ∃ (tq iq wq mq : Nat → Int32) (hq : Bool), WY R C op kinds elders hq wq ∧ (c0 :: c1 :: c2 :: c3 :: c4 :: c5 :: c6 :: c7 :: c8 :: c9 :: c10 :: c11 :: (mo, oModel 0 stt tr (nI R) (nI C) (bI op) mki mel mto mio mwy (bI hq) mme mhs mso msr mrs mce mcp) :: (mki, aI g 40 kinds) :: (mel, aI g 40 elders) :: (mto, aI g 25 tq) :: (mio, aZ g 40 iq) :: (mwy, aI g 4096 wq) :: (mme, aZ g 36 mq) :: (mhs, aZ g 3 hsf) :: (mso, aI g 3 sof) :: (msr, aI g 3 srf) :: (mrs, aI g 12 rsf) :: (mce, aI g 480 cef) :: (mcp, aI g 40 cpf) :: rest) = w') := by
  have hTM := th_M (op := op) hR hC
  have hPM := pl_M hR hC
  have hRM := rd_M hR hC
  have hN := pow_m hKI.2
  have hM12 := hKI.2
  refine Con.ofI (by decide +kernel) (Nat.le_of_ble_eq_true rfl) (fun φ K0 hr => ?_)
  show X φ 0 0 (c0 :: c1 :: c2 :: c3 :: c4 :: c5 :: c6 :: c7 :: c8 :: c9 :: c10 :: c11 :: (mo, oModel tn stt tr (nI R) (nI C) (bI op) mki mel mto mio mwy (bI hwb) mme mhs mso msr mrs mce mcp) :: (mki, aI g 40 kinds) :: (mel, aI g 40 elders) :: (mto, aI g 25 tof) :: (mio, aZ g 40 iof) :: (mwy, aI g 4096 wyf) :: (mme, aZ g 36 mef) :: (mhs, aZ g 3 hsf) :: (mso, aI g 3 sof) :: (msr, aI g 3 srf) :: (mrs, aI g 12 rsf) :: (mce, aI g 480 cef) :: (mcp, aI g 40 cpf) :: rest) [(0, .ref mo), (1, .int a), (2, .int b), (3, .int k)] 0 []
  refine X_aload_n K0 0 dX5_joined_0 rfl rfl ?_
  refine X_iconst (v := 0) K0 dX5_joined_1 (by decide) ?_
  refine X_put (w' := (c0 :: c1 :: c2 :: c3 :: c4 :: c5 :: c6 :: c7 :: c8 :: c9 :: c10 :: c11 :: (mo, oModel 0 stt tr (nI R) (nI C) (bI op) mki mel mto mio mwy (bI hwb) mme mhs mso msr mrs mce mcp) :: (mki, aI g 40 kinds) :: (mel, aI g 40 elders) :: (mto, aI g 25 tof) :: (mio, aZ g 40 iof) :: (mwy, aI g 4096 wyf) :: (mme, aZ g 36 mef) :: (mhs, aZ g 3 hsf) :: (mso, aI g 3 sof) :: (msr, aI g 3 srf) :: (mrs, aI g 12 rsf) :: (mce, aI g 480 cef) :: (mcp, aI g 40 cpf) :: rest)) K0 12 rfl rfl hin5 tyX5 tyX5_ok nmX5 0 (by decide) fl_RX5_58 rfl (tyX5_ok 0 (by decide)) rfl rfl (Nat.le_of_ble_eq_true rfl) dX5_joined_2 rfl ?_
  refine X_aload_n K0 0 dX5_joined_5 rfl rfl ?_
  refine X_iload_n K0 1 dX5_joined_6 rfl rfl ?_
  refine X_callV (As := [.int a]) (rest := []) K0 12 (m_isPlace g c0 c1 c2 c3 c4 c5 c6 c7 c8 c9 c10 c11 mo mki mel mto mio mwy mme mhs mso msr mrs mce mcp 0 stt tr R C op hwb kinds elders tof iof wyf mef hsf sof srf rsf cef cpf rest hR hC a) mi_X5_isPlace rfl rfl rfl ml_RX5_155 rfl (Nat.le_of_ble_eq_true rfl) (by decide) ⟨Nat.le_of_ble_eq_true rfl, Nat.le_of_ble_eq_true rfl⟩ rfl rfl dX5_joined_7 ?_
  intro v w' hr'; obtain ⟨rfl, rfl⟩ := hr'
  show X φ 0 0 (c0 :: c1 :: c2 :: c3 :: c4 :: c5 :: c6 :: c7 :: c8 :: c9 :: c10 :: c11 :: (mo, oModel 0 stt tr (nI R) (nI C) (bI op) mki mel mto mio mwy (bI hwb) mme mhs mso msr mrs mce mcp) :: (mki, aI g 40 kinds) :: (mel, aI g 40 elders) :: (mto, aI g 25 tof) :: (mio, aZ g 40 iof) :: (mwy, aI g 4096 wyf) :: (mme, aZ g 36 mef) :: (mhs, aZ g 3 hsf) :: (mso, aI g 3 sof) :: (msr, aI g 3 srf) :: (mrs, aI g 12 rsf) :: (mce, aI g 480 cef) :: (mcp, aI g 40 cpf) :: rest) [(0, .ref mo), (1, .int a), (2, .int b), (3, .int k)] 10 [.int (bI (wiB a 0 ((nI (R * C)) - 1)))]
  refine X_if_eq K0 29 dX5_joined_10 (by decide) (fun h10 => ?_) (fun h10 => ?_)
  · refine X_iconst (v := (-1)) K0 dX5_joined_29 (by decide) ?_
    exact hr _ _ _ _ ⟨by rw [joVM, no_if (by first | exact p_n (bI_0.mp h10) | exact p_yn (bI_n0.mp h10) (p_n (bI_0.mp h18)) | exact p_yn (bI_n0.mp h10) (p_yn (bI_n0.mp h18) (bI_0.mp h26)))], tof, iof, wyf, mef, hwb, hWY, rfl⟩ dX5_joined_30
  · refine X_aload_n K0 0 dX5_joined_13 rfl rfl ?_
    refine X_iload_n K0 2 dX5_joined_14 rfl rfl ?_
    refine X_callV (As := [.int b]) (rest := []) K0 12 (m_isPlace g c0 c1 c2 c3 c4 c5 c6 c7 c8 c9 c10 c11 mo mki mel mto mio mwy mme mhs mso msr mrs mce mcp 0 stt tr R C op hwb kinds elders tof iof wyf mef hsf sof srf rsf cef cpf rest hR hC b) mi_X5_isPlace rfl rfl rfl ml_RX5_155 rfl (Nat.le_of_ble_eq_true rfl) (by decide) ⟨Nat.le_of_ble_eq_true rfl, Nat.le_of_ble_eq_true rfl⟩ rfl rfl dX5_joined_15 ?_
    intro v w' hr'; obtain ⟨rfl, rfl⟩ := hr'
    show X φ 0 0 (c0 :: c1 :: c2 :: c3 :: c4 :: c5 :: c6 :: c7 :: c8 :: c9 :: c10 :: c11 :: (mo, oModel 0 stt tr (nI R) (nI C) (bI op) mki mel mto mio mwy (bI hwb) mme mhs mso msr mrs mce mcp) :: (mki, aI g 40 kinds) :: (mel, aI g 40 elders) :: (mto, aI g 25 tof) :: (mio, aZ g 40 iof) :: (mwy, aI g 4096 wyf) :: (mme, aZ g 36 mef) :: (mhs, aZ g 3 hsf) :: (mso, aI g 3 sof) :: (msr, aI g 3 srf) :: (mrs, aI g 12 rsf) :: (mce, aI g 480 cef) :: (mcp, aI g 40 cpf) :: rest) [(0, .ref mo), (1, .int a), (2, .int b), (3, .int k)] 18 [.int (bI (wiB b 0 ((nI (R * C)) - 1)))]
    refine X_if_eq K0 29 dX5_joined_18 (by decide) (fun h18 => ?_) (fun h18 => ?_)
    · refine X_iconst (v := (-1)) K0 dX5_joined_29 (by decide) ?_
      exact hr _ _ _ _ ⟨by rw [joVM, no_if (by first | exact p_n (bI_0.mp h10) | exact p_yn (bI_n0.mp h10) (p_n (bI_0.mp h18)) | exact p_yn (bI_n0.mp h10) (p_yn (bI_n0.mp h18) (bI_0.mp h26)))], tof, iof, wyf, mef, hwb, hWY, rfl⟩ dX5_joined_30
    · refine X_aload_n K0 0 dX5_joined_21 rfl rfl ?_
      refine X_iload_n K0 3 dX5_joined_22 rfl rfl ?_
      refine X_callV (As := [.int k]) (rest := []) K0 12 (m_isSize g c0 c1 c2 c3 c4 c5 c6 c7 c8 c9 c10 c11 mo mki mel mto mio mwy mme mhs mso msr mrs mce mcp 0 stt tr R C op hwb kinds elders tof iof wyf mef hsf sof srf rsf cef cpf rest hR hC k) mi_X5_isSize rfl rfl rfl ml_RX5_167 rfl (Nat.le_of_ble_eq_true rfl) (by decide) ⟨Nat.le_of_ble_eq_true rfl, Nat.le_of_ble_eq_true rfl⟩ rfl rfl dX5_joined_23 ?_
      intro v w' hr'; obtain ⟨rfl, rfl⟩ := hr'
      show X φ 0 0 (c0 :: c1 :: c2 :: c3 :: c4 :: c5 :: c6 :: c7 :: c8 :: c9 :: c10 :: c11 :: (mo, oModel 0 stt tr (nI R) (nI C) (bI op) mki mel mto mio mwy (bI hwb) mme mhs mso msr mrs mce mcp) :: (mki, aI g 40 kinds) :: (mel, aI g 40 elders) :: (mto, aI g 25 tof) :: (mio, aZ g 40 iof) :: (mwy, aI g 4096 wyf) :: (mme, aZ g 36 mef) :: (mhs, aZ g 3 hsf) :: (mso, aI g 3 sof) :: (msr, aI g 3 srf) :: (mrs, aI g 12 rsf) :: (mce, aI g 480 cef) :: (mcp, aI g 40 cpf) :: rest) [(0, .ref mo), (1, .int a), (2, .int b), (3, .int k)] 26 [.int (bI (wiB k 0 (nI (ctF kinds (thM R C op)))))]
      refine X_if_ne K0 31 dX5_joined_26 (by decide) (fun h26 => ?_) (fun h26 => ?_)
      · obtain ⟨ja, hja, rfl⟩ := wi_of (bI_n0.mp h10) (by omega)
        have hclja : (nI ja).toNatClampNeg = ja := nI_clamp (by omega)
        obtain ⟨jb, hjb, rfl⟩ := wi_of (bI_n0.mp h18) (by omega)
        have hcljb : (nI jb).toNatClampNeg = jb := nI_clamp (by omega)
        refine X_iconst (v := 0) K0 dX5_joined_31 (by decide) ?_
        refine X_istore (L' := [(4, .int 0), (0, .ref mo), (1, .int (nI ja)), (2, .int (nI jb)), (3, .int k)]) K0 dX5_joined_32 (by decide) rfl ?_
        refine X_iconst (v := 0) K0 dX5_joined_34 (by decide) ?_
        refine X_istore (L' := [(5, .int 0), (4, .int 0), (0, .ref mo), (1, .int (nI ja)), (2, .int (nI jb)), (3, .int k)]) K0 dX5_joined_35 (by decide) rfl ?_
        refine X.sub [2, 3, 4, 5, 1, 0] (L' := [(0, .ref mo), (1, .int (nI ja)), (2, .int (nI jb)), (3, .int k), (4, .int 0), (5, .int 0)]) rfl ?_
        have LOOP : ∀ (dd ii : Nat), ii + dd = (2 ^ (ctF kinds (thM R C op))) → ∀ (tq iq : Nat → Int32), X φ 0 0 (c0 :: c1 :: c2 :: c3 :: c4 :: c5 :: c6 :: c7 :: c8 :: c9 :: c10 :: c11 :: (mo, oModel 0 stt tr (nI R) (nI C) (bI op) mki mel mto mio mwy (bI hwb) mme mhs mso msr mrs mce mcp) :: (mki, aI g 40 kinds) :: (mel, aI g 40 elders) :: (mto, aI g 25 tq) :: (mio, aZ g 40 iq) :: (mwy, aI g 4096 wyf) :: (mme, aZ g 36 mef) :: (mhs, aZ g 3 hsf) :: (mso, aI g 3 sof) :: (msr, aI g 3 srf) :: (mrs, aI g 12 rsf) :: (mce, aI g 480 cef) :: (mcp, aI g 40 cpf) :: rest) [(0, .ref mo), (1, .int (nI ja)), (2, .int (nI jb)), (3, .int k), (4, .int (cnI (joM R C op kinds elders ja jb k) ii)), (5, .int (nI ii))] 37 [] := by
          intro dd
          induction dd with
          | zero =>
            intro ii hii tq iq
            have hii2 : (2 ^ (ctF kinds (thM R C op))) = ii := by omega
            subst hii2
            refine X_iload K0 5 dX5_joined_37 rfl ?_
            refine X_iconst (v := 1) K0 dX5_joined_39 (by decide) ?_
            refine X_aload_n K0 0 dX5_joined_40 rfl rfl ?_
            refine X_callV (As := []) (rest := [.int 1, .int (nI (2 ^ (ctF kinds (thM R C op))))]) K0 12 (m_chances g c0 c1 c2 c3 c4 c5 c6 c7 c8 c9 c10 c11 mo mki mel mto mio mwy mme mhs mso msr mrs mce mcp 0 stt tr R C op hwb kinds elders tq iq wyf mef hsf sof srf rsf cef cpf rest hR hC ) mi_X5_chances rfl rfl rfl ml_RX5_85 rfl (Nat.le_of_ble_eq_true rfl) (by decide) ⟨Nat.le_of_ble_eq_true rfl, Nat.le_of_ble_eq_true rfl⟩ rfl rfl dX5_joined_41 ?_
            intro v w' hr'; obtain ⟨rfl, rfl⟩ := hr'
            show X φ 0 0 (c0 :: c1 :: c2 :: c3 :: c4 :: c5 :: c6 :: c7 :: c8 :: c9 :: c10 :: c11 :: (mo, oModel 0 stt tr (nI R) (nI C) (bI op) mki mel mto mio mwy (bI hwb) mme mhs mso msr mrs mce mcp) :: (mki, aI g 40 kinds) :: (mel, aI g 40 elders) :: (mto, aI g 25 tq) :: (mio, aZ g 40 iq) :: (mwy, aI g 4096 wyf) :: (mme, aZ g 36 mef) :: (mhs, aZ g 3 hsf) :: (mso, aI g 3 sof) :: (msr, aI g 3 srf) :: (mrs, aI g 12 rsf) :: (mce, aI g 480 cef) :: (mcp, aI g 40 cpf) :: rest) [(0, .ref mo), (1, .int (nI ja)), (2, .int (nI jb)), (3, .int k), (4, .int (cnI (joM R C op kinds elders ja jb k) (2 ^ (ctF kinds (thM R C op))))), (5, .int (nI (2 ^ (ctF kinds (thM R C op)))))] 44 [.int (nI (ctF kinds (thM R C op))), .int 1, .int (nI (2 ^ (ctF kinds (thM R C op))))]
            refine X_ishl K0 dX5_joined_44 ?_
            refine X_v (z := (nI (2 ^ (ctF kinds (thM R C op))))) (shl_ct hKI.2) ?_
            refine X_icmp_ge K0 102 dX5_joined_45 (by decide) (fun h45 => ?_) (fun h45 => ?_)
            · refine X_iload K0 4 dX5_joined_102 rfl ?_
              exact hr _ _ _ _ ⟨by rw [joVM, yes_if (p_yy (bI_n0.mp h10) (p_yy (bI_n0.mp h18) (bI_n0.mp h26))), hclja, hcljb], tq, iq, wyf, mef, hwb, hWY, rfl⟩ dX5_joined_104
            · exact absurd (nI_le (Nat.le_refl _) (by omega)) h45
          | succ dd ih =>
            intro ii hii tq iq
            have hlt : ii < (2 ^ (ctF kinds (thM R C op))) := by omega
            refine X_iload K0 5 dX5_joined_37 rfl ?_
            refine X_iconst (v := 1) K0 dX5_joined_39 (by decide) ?_
            refine X_aload_n K0 0 dX5_joined_40 rfl rfl ?_
            refine X_callV (As := []) (rest := [.int 1, .int (nI ii)]) K0 12 (m_chances g c0 c1 c2 c3 c4 c5 c6 c7 c8 c9 c10 c11 mo mki mel mto mio mwy mme mhs mso msr mrs mce mcp 0 stt tr R C op hwb kinds elders tq iq wyf mef hsf sof srf rsf cef cpf rest hR hC ) mi_X5_chances rfl rfl rfl ml_RX5_85 rfl (Nat.le_of_ble_eq_true rfl) (by decide) ⟨Nat.le_of_ble_eq_true rfl, Nat.le_of_ble_eq_true rfl⟩ rfl rfl dX5_joined_41 ?_
            intro v w' hr'; obtain ⟨rfl, rfl⟩ := hr'
            show X φ 0 0 (c0 :: c1 :: c2 :: c3 :: c4 :: c5 :: c6 :: c7 :: c8 :: c9 :: c10 :: c11 :: (mo, oModel 0 stt tr (nI R) (nI C) (bI op) mki mel mto mio mwy (bI hwb) mme mhs mso msr mrs mce mcp) :: (mki, aI g 40 kinds) :: (mel, aI g 40 elders) :: (mto, aI g 25 tq) :: (mio, aZ g 40 iq) :: (mwy, aI g 4096 wyf) :: (mme, aZ g 36 mef) :: (mhs, aZ g 3 hsf) :: (mso, aI g 3 sof) :: (msr, aI g 3 srf) :: (mrs, aI g 12 rsf) :: (mce, aI g 480 cef) :: (mcp, aI g 40 cpf) :: rest) [(0, .ref mo), (1, .int (nI ja)), (2, .int (nI jb)), (3, .int k), (4, .int (cnI (joM R C op kinds elders ja jb k) ii)), (5, .int (nI ii))] 44 [.int (nI (ctF kinds (thM R C op))), .int 1, .int (nI ii)]
            refine X_ishl K0 dX5_joined_44 ?_
            refine X_v (z := (nI (2 ^ (ctF kinds (thM R C op))))) (shl_ct hKI.2) ?_
            refine X_icmp_ge K0 102 dX5_joined_45 (by decide) (fun h45 => ?_) (fun h45 => ?_)
            · exact absurd h45 (nI_ge hlt (by omega))
            · refine X_iload K0 5 dX5_joined_48 rfl ?_
              refine X_callS (As := [.int (nI ii)]) (rest := []) K0 (m_bits g (c0 :: c1 :: c2 :: c3 :: c4 :: c5 :: c6 :: c7 :: c8 :: c9 :: c10 :: c11 :: (mo, oModel 0 stt tr (nI R) (nI C) (bI op) mki mel mto mio mwy (bI hwb) mme mhs mso msr mrs mce mcp) :: (mki, aI g 40 kinds) :: (mel, aI g 40 elders) :: (mto, aI g 25 tq) :: (mio, aZ g 40 iq) :: (mwy, aI g 4096 wyf) :: (mme, aZ g 36 mef) :: (mhs, aZ g 3 hsf) :: (mso, aI g 3 sof) :: (msr, aI g 3 srf) :: (mrs, aI g 12 rsf) :: (mce, aI g 480 cef) :: (mcp, aI g 40 cpf) :: rest) (nI ii)) ms_X5_bits rfl ml_RX5_164 rfl (Nat.le_of_ble_eq_true rfl) (by decide) ⟨Nat.le_of_ble_eq_true rfl, Nat.le_of_ble_eq_true rfl⟩ rfl rfl dX5_joined_50 ?_
              intro v w' hr'; obtain ⟨rfl, rfl⟩ := hr'
              show X φ 0 0 (c0 :: c1 :: c2 :: c3 :: c4 :: c5 :: c6 :: c7 :: c8 :: c9 :: c10 :: c11 :: (mo, oModel 0 stt tr (nI R) (nI C) (bI op) mki mel mto mio mwy (bI hwb) mme mhs mso msr mrs mce mcp) :: (mki, aI g 40 kinds) :: (mel, aI g 40 elders) :: (mto, aI g 25 tq) :: (mio, aZ g 40 iq) :: (mwy, aI g 4096 wyf) :: (mme, aZ g 36 mef) :: (mhs, aZ g 3 hsf) :: (mso, aI g 3 sof) :: (msr, aI g 3 srf) :: (mrs, aI g 12 rsf) :: (mce, aI g 480 cef) :: (mcp, aI g 40 cpf) :: rest) [(0, .ref mo), (1, .int (nI ja)), (2, .int (nI jb)), (3, .int k), (4, .int (cnI (joM R C op kinds elders ja jb k) ii)), (5, .int (nI ii))] 53 [.int (bsM (nI ii) 12)]
              refine X_iload_n K0 3 dX5_joined_53 rfl rfl ?_
              refine X_icmp_ne K0 96 dX5_joined_54 (by decide) (fun h54 => ?_) (fun h54 => ?_)
              · refine X_iinc (v := ((nI ii) + 1)) (L' := [(5, .int ((nI ii) + 1)), (0, .ref mo), (1, .int (nI ja)), (2, .int (nI jb)), (3, .int k), (4, .int (cnI (joM R C op kinds elders ja jb k) ii))]) K0 5 dX5_joined_96 rfl (by first | rfl | decide) (by decide) rfl ?_
                refine X_goto K0 37 dX5_joined_99 (by decide) ?_
                refine X.sub [1, 2, 3, 4, 5, 0] (L' := [(0, .ref mo), (1, .int (nI ja)), (2, .int (nI jb)), (3, .int k), (4, .int (cnI (joM R C op kinds elders ja jb k) ii)), (5, .int ((nI ii) + 1))]) rfl ?_
                exact X_eq rfl (by first | (rw [nI_succ, ← cn_n (p := (joM R C op kinds elders ja jb k)) (i := ii) (and_n1 h54)]) | (rw [nI_succ, cn_n0 (p := (joM R C op kinds elders ja jb k)) (i := ii) (and_n2 (eq_n1 h72))]) | (rw [nI_succ, cn_n0 (p := (joM R C op kinds elders ja jb k)) (i := ii) (and_n2 (eq_n2 h85))]) | (rw [nI_succ, cn_y1 (p := (joM R C op kinds elders ja jb k)) (i := ii) (and_yy h54 (eq_y h72 h85))])) rfl (ih (ii + 1) (by omega) tq iq)
              · refine X_aload_n K0 0 dX5_joined_57 rfl rfl ?_
                refine X_iload K0 5 dX5_joined_58 rfl ?_
                refine X_callV (As := [.int (nI ii)]) (rest := []) K0 12 (m_joins g c0 c1 c2 c3 c4 c5 c6 c7 c8 c9 c10 c11 mo mki mel mto mio mwy mme mhs mso msr mrs mce mcp 0 stt tr R C op hwb kinds elders tq iq wyf mef hsf sof srf rsf cef cpf rest hR hC hKI (nI ii)) mi_X5_joins rfl rfl rfl ml_RX5_132 rfl (Nat.le_of_ble_eq_true rfl) (by decide) ⟨Nat.le_of_ble_eq_true rfl, Nat.le_of_ble_eq_true rfl⟩ rfl rfl dX5_joined_60 ?_
                intro v w' hr'; obtain ⟨rfl, rfl⟩ := hr'
                show X φ 0 0 (c0 :: c1 :: c2 :: c3 :: c4 :: c5 :: c6 :: c7 :: c8 :: c9 :: c10 :: c11 :: (mo, oModel 0 stt tr (nI R) (nI C) (bI op) mki mel mto mio mwy (bI hwb) mme mhs mso msr mrs mce mcp) :: (mki, aI g 40 kinds) :: (mel, aI g 40 elders) :: (mto, aI g 25 (ovr (R * C) (jC R C op (ioC kinds elders (nI ii)) (rdM R C)) tq)) :: (mio, aZ g 40 (ovr (thM R C op) (ioC kinds elders (nI ii)) iq)) :: (mwy, aI g 4096 wyf) :: (mme, aZ g 36 mef) :: (mhs, aZ g 3 hsf) :: (mso, aI g 3 sof) :: (msr, aI g 3 srf) :: (mrs, aI g 12 rsf) :: (mce, aI g 480 cef) :: (mcp, aI g 40 cpf) :: rest) [(0, .ref mo), (1, .int (nI ja)), (2, .int (nI jb)), (3, .int k), (4, .int (cnI (joM R C op kinds elders ja jb k) ii)), (5, .int (nI ii))] 63 []
                refine X_iload K0 4 dX5_joined_63 rfl ?_
                refine X_aload_n K0 0 dX5_joined_65 rfl rfl ?_
                refine X_iload_n K0 1 dX5_joined_66 rfl rfl ?_
                refine X_callV (As := [.int (nI ja)]) (rest := [.int (cnI (joM R C op kinds elders ja jb k) ii)]) K0 12 (m_heapOf g c0 c1 c2 c3 c4 c5 c6 c7 c8 c9 c10 c11 mo mki mel mto mio mwy mme mhs mso msr mrs mce mcp 0 stt tr R C op hwb kinds elders (ovr (R * C) (jC R C op (ioC kinds elders (nI ii)) (rdM R C)) tq) (ovr (thM R C op) (ioC kinds elders (nI ii)) iq) wyf mef hsf sof srf rsf cef cpf rest (pl_M hR hC) (hM R C op kinds elders (nI ii)) (ovr_JH (jC_uf hR hC _ _ _ (Nat.le_refl _)) (pl_M hR hC)) ja (by omega)) mi_X5_heapOf rfl rfl rfl ml_RX5_129 rfl (Nat.le_of_ble_eq_true rfl) (by decide) ⟨Nat.le_of_ble_eq_true rfl, Nat.le_of_ble_eq_true rfl⟩ rfl rfl dX5_joined_67 ?_
                intro v w' hr'; obtain ⟨rfl, rfl⟩ := hr'
                show X φ 0 0 (c0 :: c1 :: c2 :: c3 :: c4 :: c5 :: c6 :: c7 :: c8 :: c9 :: c10 :: c11 :: (mo, oModel 0 stt tr (nI R) (nI C) (bI op) mki mel mto mio mwy (bI hwb) mme mhs mso msr mrs mce mcp) :: (mki, aI g 40 kinds) :: (mel, aI g 40 elders) :: (mto, aI g 25 (ovr (R * C) (jC R C op (ioC kinds elders (nI ii)) (rdM R C)) tq)) :: (mio, aZ g 40 (ovr (thM R C op) (ioC kinds elders (nI ii)) iq)) :: (mwy, aI g 4096 wyf) :: (mme, aZ g 36 mef) :: (mhs, aZ g 3 hsf) :: (mso, aI g 3 sof) :: (msr, aI g 3 srf) :: (mrs, aI g 12 rsf) :: (mce, aI g 480 cef) :: (mcp, aI g 40 cpf) :: rest) [(0, .ref mo), (1, .int (nI ja)), (2, .int (nI jb)), (3, .int k), (4, .int (cnI (joM R C op kinds elders ja jb k) ii)), (5, .int (nI ii))] 70 [.int ((hM R C op kinds elders (nI ii)) ja), .int (cnI (joM R C op kinds elders ja jb k) ii)]
                refine X_bipush (v := (-9)) K0 dX5_joined_70 (by decide) ?_
                refine X_icmp_eq K0 92 dX5_joined_72 (by decide) (fun h72 => ?_) (fun h72 => ?_)
                · refine X_iconst (v := 0) K0 dX5_joined_92 (by decide) ?_
                  refine X_iadd K0 dX5_joined_93 ?_
                  refine X_istore (L' := [(4, .int ((cnI (joM R C op kinds elders ja jb k) ii) + 0)), (0, .ref mo), (1, .int (nI ja)), (2, .int (nI jb)), (3, .int k), (5, .int (nI ii))]) K0 dX5_joined_94 (by decide) rfl ?_
                  refine X_iinc (v := ((nI ii) + 1)) (L' := [(5, .int ((nI ii) + 1)), (4, .int ((cnI (joM R C op kinds elders ja jb k) ii) + 0)), (0, .ref mo), (1, .int (nI ja)), (2, .int (nI jb)), (3, .int k)]) K0 5 dX5_joined_96 rfl (by first | rfl | decide) (by decide) rfl ?_
                  refine X_goto K0 37 dX5_joined_99 (by decide) ?_
                  refine X.sub [2, 3, 4, 5, 1, 0] (L' := [(0, .ref mo), (1, .int (nI ja)), (2, .int (nI jb)), (3, .int k), (4, .int ((cnI (joM R C op kinds elders ja jb k) ii) + 0)), (5, .int ((nI ii) + 1))]) rfl ?_
                  exact X_eq rfl (by first | (rw [nI_succ, ← cn_n (p := (joM R C op kinds elders ja jb k)) (i := ii) (and_n1 h54)]) | (rw [nI_succ, cn_n0 (p := (joM R C op kinds elders ja jb k)) (i := ii) (and_n2 (eq_n1 h72))]) | (rw [nI_succ, cn_n0 (p := (joM R C op kinds elders ja jb k)) (i := ii) (and_n2 (eq_n2 h85))]) | (rw [nI_succ, cn_y1 (p := (joM R C op kinds elders ja jb k)) (i := ii) (and_yy h54 (eq_y h72 h85))])) rfl (ih (ii + 1) (by omega) (ovr (R * C) (jC R C op (ioC kinds elders (nI ii)) (rdM R C)) tq) (ovr (thM R C op) (ioC kinds elders (nI ii)) iq))
                · refine X_aload_n K0 0 dX5_joined_75 rfl rfl ?_
                  refine X_iload_n K0 1 dX5_joined_76 rfl rfl ?_
                  refine X_callV (As := [.int (nI ja)]) (rest := [.int (cnI (joM R C op kinds elders ja jb k) ii)]) K0 12 (m_heapOf g c0 c1 c2 c3 c4 c5 c6 c7 c8 c9 c10 c11 mo mki mel mto mio mwy mme mhs mso msr mrs mce mcp 0 stt tr R C op hwb kinds elders (ovr (R * C) (jC R C op (ioC kinds elders (nI ii)) (rdM R C)) tq) (ovr (thM R C op) (ioC kinds elders (nI ii)) iq) wyf mef hsf sof srf rsf cef cpf rest (pl_M hR hC) (hM R C op kinds elders (nI ii)) (ovr_JH (jC_uf hR hC _ _ _ (Nat.le_refl _)) (pl_M hR hC)) ja (by omega)) mi_X5_heapOf rfl rfl rfl ml_RX5_129 rfl (Nat.le_of_ble_eq_true rfl) (by decide) ⟨Nat.le_of_ble_eq_true rfl, Nat.le_of_ble_eq_true rfl⟩ rfl rfl dX5_joined_77 ?_
                  intro v w' hr'; obtain ⟨rfl, rfl⟩ := hr'
                  show X φ 0 0 (c0 :: c1 :: c2 :: c3 :: c4 :: c5 :: c6 :: c7 :: c8 :: c9 :: c10 :: c11 :: (mo, oModel 0 stt tr (nI R) (nI C) (bI op) mki mel mto mio mwy (bI hwb) mme mhs mso msr mrs mce mcp) :: (mki, aI g 40 kinds) :: (mel, aI g 40 elders) :: (mto, aI g 25 (ovr (R * C) (jC R C op (ioC kinds elders (nI ii)) (rdM R C)) tq)) :: (mio, aZ g 40 (ovr (thM R C op) (ioC kinds elders (nI ii)) iq)) :: (mwy, aI g 4096 wyf) :: (mme, aZ g 36 mef) :: (mhs, aZ g 3 hsf) :: (mso, aI g 3 sof) :: (msr, aI g 3 srf) :: (mrs, aI g 12 rsf) :: (mce, aI g 480 cef) :: (mcp, aI g 40 cpf) :: rest) [(0, .ref mo), (1, .int (nI ja)), (2, .int (nI jb)), (3, .int k), (4, .int (cnI (joM R C op kinds elders ja jb k) ii)), (5, .int (nI ii))] 80 [.int ((hM R C op kinds elders (nI ii)) ja), .int (cnI (joM R C op kinds elders ja jb k) ii)]
                  refine X_aload_n K0 0 dX5_joined_80 rfl rfl ?_
                  refine X_iload_n K0 2 dX5_joined_81 rfl rfl ?_
                  refine X_callV (As := [.int (nI jb)]) (rest := [.int ((hM R C op kinds elders (nI ii)) ja), .int (cnI (joM R C op kinds elders ja jb k) ii)]) K0 12 (m_heapOf g c0 c1 c2 c3 c4 c5 c6 c7 c8 c9 c10 c11 mo mki mel mto mio mwy mme mhs mso msr mrs mce mcp 0 stt tr R C op hwb kinds elders (ovr (R * C) (jC R C op (ioC kinds elders (nI ii)) (rdM R C)) tq) (ovr (thM R C op) (ioC kinds elders (nI ii)) iq) wyf mef hsf sof srf rsf cef cpf rest (pl_M hR hC) (hM R C op kinds elders (nI ii)) (ovr_JH (jC_uf hR hC _ _ _ (Nat.le_refl _)) (pl_M hR hC)) jb (by omega)) mi_X5_heapOf rfl rfl rfl ml_RX5_129 rfl (Nat.le_of_ble_eq_true rfl) (by decide) ⟨Nat.le_of_ble_eq_true rfl, Nat.le_of_ble_eq_true rfl⟩ rfl rfl dX5_joined_82 ?_
                  intro v w' hr'; obtain ⟨rfl, rfl⟩ := hr'
                  show X φ 0 0 (c0 :: c1 :: c2 :: c3 :: c4 :: c5 :: c6 :: c7 :: c8 :: c9 :: c10 :: c11 :: (mo, oModel 0 stt tr (nI R) (nI C) (bI op) mki mel mto mio mwy (bI hwb) mme mhs mso msr mrs mce mcp) :: (mki, aI g 40 kinds) :: (mel, aI g 40 elders) :: (mto, aI g 25 (ovr (R * C) (jC R C op (ioC kinds elders (nI ii)) (rdM R C)) tq)) :: (mio, aZ g 40 (ovr (thM R C op) (ioC kinds elders (nI ii)) iq)) :: (mwy, aI g 4096 wyf) :: (mme, aZ g 36 mef) :: (mhs, aZ g 3 hsf) :: (mso, aI g 3 sof) :: (msr, aI g 3 srf) :: (mrs, aI g 12 rsf) :: (mce, aI g 480 cef) :: (mcp, aI g 40 cpf) :: rest) [(0, .ref mo), (1, .int (nI ja)), (2, .int (nI jb)), (3, .int k), (4, .int (cnI (joM R C op kinds elders ja jb k) ii)), (5, .int (nI ii))] 85 [.int ((hM R C op kinds elders (nI ii)) jb), .int ((hM R C op kinds elders (nI ii)) ja), .int (cnI (joM R C op kinds elders ja jb k) ii)]
                  refine X_icmp_ne K0 92 dX5_joined_85 (by decide) (fun h85 => ?_) (fun h85 => ?_)
                  · refine X_iconst (v := 0) K0 dX5_joined_92 (by decide) ?_
                    refine X_iadd K0 dX5_joined_93 ?_
                    refine X_istore (L' := [(4, .int ((cnI (joM R C op kinds elders ja jb k) ii) + 0)), (0, .ref mo), (1, .int (nI ja)), (2, .int (nI jb)), (3, .int k), (5, .int (nI ii))]) K0 dX5_joined_94 (by decide) rfl ?_
                    refine X_iinc (v := ((nI ii) + 1)) (L' := [(5, .int ((nI ii) + 1)), (4, .int ((cnI (joM R C op kinds elders ja jb k) ii) + 0)), (0, .ref mo), (1, .int (nI ja)), (2, .int (nI jb)), (3, .int k)]) K0 5 dX5_joined_96 rfl (by first | rfl | decide) (by decide) rfl ?_
                    refine X_goto K0 37 dX5_joined_99 (by decide) ?_
                    refine X.sub [2, 3, 4, 5, 1, 0] (L' := [(0, .ref mo), (1, .int (nI ja)), (2, .int (nI jb)), (3, .int k), (4, .int ((cnI (joM R C op kinds elders ja jb k) ii) + 0)), (5, .int ((nI ii) + 1))]) rfl ?_
                    exact X_eq rfl (by first | (rw [nI_succ, ← cn_n (p := (joM R C op kinds elders ja jb k)) (i := ii) (and_n1 h54)]) | (rw [nI_succ, cn_n0 (p := (joM R C op kinds elders ja jb k)) (i := ii) (and_n2 (eq_n1 h72))]) | (rw [nI_succ, cn_n0 (p := (joM R C op kinds elders ja jb k)) (i := ii) (and_n2 (eq_n2 h85))]) | (rw [nI_succ, cn_y1 (p := (joM R C op kinds elders ja jb k)) (i := ii) (and_yy h54 (eq_y h72 h85))])) rfl (ih (ii + 1) (by omega) (ovr (R * C) (jC R C op (ioC kinds elders (nI ii)) (rdM R C)) tq) (ovr (thM R C op) (ioC kinds elders (nI ii)) iq))
                  · refine X_iconst (v := 1) K0 dX5_joined_88 (by decide) ?_
                    refine X_goto K0 93 dX5_joined_89 (by decide) ?_
                    refine X_iadd K0 dX5_joined_93 ?_
                    refine X_istore (L' := [(4, .int ((cnI (joM R C op kinds elders ja jb k) ii) + 1)), (0, .ref mo), (1, .int (nI ja)), (2, .int (nI jb)), (3, .int k), (5, .int (nI ii))]) K0 dX5_joined_94 (by decide) rfl ?_
                    refine X_iinc (v := ((nI ii) + 1)) (L' := [(5, .int ((nI ii) + 1)), (4, .int ((cnI (joM R C op kinds elders ja jb k) ii) + 1)), (0, .ref mo), (1, .int (nI ja)), (2, .int (nI jb)), (3, .int k)]) K0 5 dX5_joined_96 rfl (by first | rfl | decide) (by decide) rfl ?_
                    refine X_goto K0 37 dX5_joined_99 (by decide) ?_
                    refine X.sub [2, 3, 4, 5, 1, 0] (L' := [(0, .ref mo), (1, .int (nI ja)), (2, .int (nI jb)), (3, .int k), (4, .int ((cnI (joM R C op kinds elders ja jb k) ii) + 1)), (5, .int ((nI ii) + 1))]) rfl ?_
                    exact X_eq rfl (by first | (rw [nI_succ, ← cn_n (p := (joM R C op kinds elders ja jb k)) (i := ii) (and_n1 h54)]) | (rw [nI_succ, cn_n0 (p := (joM R C op kinds elders ja jb k)) (i := ii) (and_n2 (eq_n1 h72))]) | (rw [nI_succ, cn_n0 (p := (joM R C op kinds elders ja jb k)) (i := ii) (and_n2 (eq_n2 h85))]) | (rw [nI_succ, cn_y1 (p := (joM R C op kinds elders ja jb k)) (i := ii) (and_yy h54 (eq_y h72 h85))])) rfl (ih (ii + 1) (by omega) (ovr (R * C) (jC R C op (ioC kinds elders (nI ii)) (rdM R C)) tq) (ovr (thM R C op) (ioC kinds elders (nI ii)) iq))
        exact LOOP (2 ^ (ctF kinds (thM R C op))) 0 (by omega) tof iof
      · refine X_iconst (v := (-1)) K0 dX5_joined_29 (by decide) ?_
        exact hr _ _ _ _ ⟨by rw [joVM, no_if (by first | exact p_n (bI_0.mp h10) | exact p_yn (bI_n0.mp h10) (p_n (bI_0.mp h18)) | exact p_yn (bI_n0.mp h10) (p_yn (bI_n0.mp h18) (bI_0.mp h26)))], tof, iof, wyf, mef, hwb, hWY, rfl⟩ dX5_joined_30

set_option maxRecDepth 20000 in
set_option maxHeartbeats 400000 in
theorem m_sized (g : Gx) (c0 c1 c2 c3 c4 c5 c6 c7 c8 c9 c10 c11 : Nat × va_E) (mo mki mel mto mio mwy mme mhs mso msr mrs mce mcp : Nat) (tn stt : Int32) (tr : Int64) (R C : Nat) (op hwb : Bool) (kinds elders tof iof wyf mef hsf sof srf rsf cef cpf : Nat → Int32) (rest : va_W) (hR : 1 ≤ R ∧ R ≤ 5) (hC : 1 ≤ C ∧ C ≤ 5) (hKI : KI (thM R C op) kinds elders) (hWY : WY R C op kinds elders hwb wyf) (x n k : Int32) : Con g yX5_sized cX5_sized 6 (some .int) 5 103 0 0 [.ref mo, .int x, .int n, .int k] (c0 :: c1 :: c2 :: c3 :: c4 :: c5 :: c6 :: c7 :: c8 :: c9 :: c10 :: c11 :: (mo, oModel tn stt tr (nI R) (nI C) (bI op) mki mel mto mio mwy (bI hwb) mme mhs mso msr mrs mce mcp) :: (mki, aI g 40 kinds) :: (mel, aI g 40 elders) :: (mto, aI g 25 tof) :: (mio, aZ g 40 iof) :: (mwy, aI g 4096 wyf) :: (mme, aZ g 36 mef) :: (mhs, aZ g 3 hsf) :: (mso, aI g 3 sof) :: (msr, aI g 3 srf) :: (mrs, aI g 12 rsf) :: (mce, aI g 480 cef) :: (mcp, aI g 40 cpf) :: rest) (fun v w' => v = some (.int (szVM R C op kinds elders x n k)) ∧ ∃ (tq iq wq mq : Nat → Int32) (hq : Bool), WY R C op kinds elders hq wq ∧ (c0 :: c1 :: c2 :: c3 :: c4 :: c5 :: c6 :: c7 :: c8 :: c9 :: c10 :: c11 :: (mo, oModel 0 stt tr (nI R) (nI C) (bI op) mki mel mto mio mwy (bI hq) mme mhs mso msr mrs mce mcp) :: (mki, aI g 40 kinds) :: (mel, aI g 40 elders) :: (mto, aI g 25 tq) :: (mio, aZ g 40 iq) :: (mwy, aI g 4096 wq) :: (mme, aZ g 36 mq) :: (mhs, aZ g 3 hsf) :: (mso, aI g 3 sof) :: (msr, aI g 3 srf) :: (mrs, aI g 12 rsf) :: (mce, aI g 480 cef) :: (mcp, aI g 40 cpf) :: rest) = w') := by
  have hTM := th_M (op := op) hR hC
  have hPM := pl_M hR hC
  have hRM := rd_M hR hC
  have hN := pow_m hKI.2
  have hM12 := hKI.2
  refine Con.ofI (by decide +kernel) (Nat.le_of_ble_eq_true rfl) (fun φ K0 hr => ?_)
  show X φ 0 0 (c0 :: c1 :: c2 :: c3 :: c4 :: c5 :: c6 :: c7 :: c8 :: c9 :: c10 :: c11 :: (mo, oModel tn stt tr (nI R) (nI C) (bI op) mki mel mto mio mwy (bI hwb) mme mhs mso msr mrs mce mcp) :: (mki, aI g 40 kinds) :: (mel, aI g 40 elders) :: (mto, aI g 25 tof) :: (mio, aZ g 40 iof) :: (mwy, aI g 4096 wyf) :: (mme, aZ g 36 mef) :: (mhs, aZ g 3 hsf) :: (mso, aI g 3 sof) :: (msr, aI g 3 srf) :: (mrs, aI g 12 rsf) :: (mce, aI g 480 cef) :: (mcp, aI g 40 cpf) :: rest) [(0, .ref mo), (1, .int x), (2, .int n), (3, .int k)] 0 []
  refine X_aload_n K0 0 dX5_sized_0 rfl rfl ?_
  refine X_iconst (v := 0) K0 dX5_sized_1 (by decide) ?_
  refine X_put (w' := (c0 :: c1 :: c2 :: c3 :: c4 :: c5 :: c6 :: c7 :: c8 :: c9 :: c10 :: c11 :: (mo, oModel 0 stt tr (nI R) (nI C) (bI op) mki mel mto mio mwy (bI hwb) mme mhs mso msr mrs mce mcp) :: (mki, aI g 40 kinds) :: (mel, aI g 40 elders) :: (mto, aI g 25 tof) :: (mio, aZ g 40 iof) :: (mwy, aI g 4096 wyf) :: (mme, aZ g 36 mef) :: (mhs, aZ g 3 hsf) :: (mso, aI g 3 sof) :: (msr, aI g 3 srf) :: (mrs, aI g 12 rsf) :: (mce, aI g 480 cef) :: (mcp, aI g 40 cpf) :: rest)) K0 12 rfl rfl hin5 tyX5 tyX5_ok nmX5 0 (by decide) fl_RX5_58 rfl (tyX5_ok 0 (by decide)) rfl rfl (Nat.le_of_ble_eq_true rfl) dX5_sized_2 rfl ?_
  refine X_aload_n K0 0 dX5_sized_5 rfl rfl ?_
  refine X_iload_n K0 1 dX5_sized_6 rfl rfl ?_
  refine X_callV (As := [.int x]) (rest := []) K0 12 (m_isPlace g c0 c1 c2 c3 c4 c5 c6 c7 c8 c9 c10 c11 mo mki mel mto mio mwy mme mhs mso msr mrs mce mcp 0 stt tr R C op hwb kinds elders tof iof wyf mef hsf sof srf rsf cef cpf rest hR hC x) mi_X5_isPlace rfl rfl rfl ml_RX5_155 rfl (Nat.le_of_ble_eq_true rfl) (by decide) ⟨Nat.le_of_ble_eq_true rfl, Nat.le_of_ble_eq_true rfl⟩ rfl rfl dX5_sized_7 ?_
  intro v w' hr'; obtain ⟨rfl, rfl⟩ := hr'
  show X φ 0 0 (c0 :: c1 :: c2 :: c3 :: c4 :: c5 :: c6 :: c7 :: c8 :: c9 :: c10 :: c11 :: (mo, oModel 0 stt tr (nI R) (nI C) (bI op) mki mel mto mio mwy (bI hwb) mme mhs mso msr mrs mce mcp) :: (mki, aI g 40 kinds) :: (mel, aI g 40 elders) :: (mto, aI g 25 tof) :: (mio, aZ g 40 iof) :: (mwy, aI g 4096 wyf) :: (mme, aZ g 36 mef) :: (mhs, aZ g 3 hsf) :: (mso, aI g 3 sof) :: (msr, aI g 3 srf) :: (mrs, aI g 12 rsf) :: (mce, aI g 480 cef) :: (mcp, aI g 40 cpf) :: rest) [(0, .ref mo), (1, .int x), (2, .int n), (3, .int k)] 10 [.int (bI (wiB x 0 ((nI (R * C)) - 1)))]
  refine X_if_eq K0 31 dX5_sized_10 (by decide) (fun h10 => ?_) (fun h10 => ?_)
  · refine X_iconst (v := (-1)) K0 dX5_sized_31 (by decide) ?_
    exact hr _ _ _ _ ⟨by rw [szVM, no_if (by first | exact p_n (bI_0.mp h10) | exact p_yn (bI_n0.mp h10) (p_n (bI_0.mp h20)) | exact p_yn (bI_n0.mp h10) (p_yn (bI_n0.mp h20) (bI_0.mp h28)))], tof, iof, wyf, mef, hwb, hWY, rfl⟩ dX5_sized_32
  · refine X_iload_n K0 2 dX5_sized_13 rfl rfl ?_
    refine X_iconst (v := 0) K0 dX5_sized_14 (by decide) ?_
    refine X_bipush (v := 25) K0 dX5_sized_15 (by decide) ?_
    refine X_callS (As := [.int n, .int 0, .int 25]) (rest := []) K0 (c_in g (c0 :: c1 :: c2 :: c3 :: c4 :: c5 :: c6 :: c7 :: c8 :: c9 :: c10 :: c11 :: (mo, oModel 0 stt tr (nI R) (nI C) (bI op) mki mel mto mio mwy (bI hwb) mme mhs mso msr mrs mce mcp) :: (mki, aI g 40 kinds) :: (mel, aI g 40 elders) :: (mto, aI g 25 tof) :: (mio, aZ g 40 iof) :: (mwy, aI g 4096 wyf) :: (mme, aZ g 36 mef) :: (mhs, aZ g 3 hsf) :: (mso, aI g 3 sof) :: (msr, aI g 3 srf) :: (mrs, aI g 12 rsf) :: (mce, aI g 480 cef) :: (mcp, aI g 40 cpf) :: rest) n 0 25) ms_X5_in rfl ml_RX5_81 rfl (Nat.le_of_ble_eq_true rfl) (by decide) ⟨Nat.le_of_ble_eq_true rfl, Nat.le_of_ble_eq_true rfl⟩ rfl rfl dX5_sized_17 ?_
    intro v w' hr'; obtain ⟨rfl, rfl⟩ := hr'
    show X φ 0 0 (c0 :: c1 :: c2 :: c3 :: c4 :: c5 :: c6 :: c7 :: c8 :: c9 :: c10 :: c11 :: (mo, oModel 0 stt tr (nI R) (nI C) (bI op) mki mel mto mio mwy (bI hwb) mme mhs mso msr mrs mce mcp) :: (mki, aI g 40 kinds) :: (mel, aI g 40 elders) :: (mto, aI g 25 tof) :: (mio, aZ g 40 iof) :: (mwy, aI g 4096 wyf) :: (mme, aZ g 36 mef) :: (mhs, aZ g 3 hsf) :: (mso, aI g 3 sof) :: (msr, aI g 3 srf) :: (mrs, aI g 12 rsf) :: (mce, aI g 480 cef) :: (mcp, aI g 40 cpf) :: rest) [(0, .ref mo), (1, .int x), (2, .int n), (3, .int k)] 20 [.int (bI (wiB n 0 25))]
    refine X_if_eq K0 31 dX5_sized_20 (by decide) (fun h20 => ?_) (fun h20 => ?_)
    · refine X_iconst (v := (-1)) K0 dX5_sized_31 (by decide) ?_
      exact hr _ _ _ _ ⟨by rw [szVM, no_if (by first | exact p_n (bI_0.mp h10) | exact p_yn (bI_n0.mp h10) (p_n (bI_0.mp h20)) | exact p_yn (bI_n0.mp h10) (p_yn (bI_n0.mp h20) (bI_0.mp h28)))], tof, iof, wyf, mef, hwb, hWY, rfl⟩ dX5_sized_32
    · refine X_aload_n K0 0 dX5_sized_23 rfl rfl ?_
      refine X_iload_n K0 3 dX5_sized_24 rfl rfl ?_
      refine X_callV (As := [.int k]) (rest := []) K0 12 (m_isSize g c0 c1 c2 c3 c4 c5 c6 c7 c8 c9 c10 c11 mo mki mel mto mio mwy mme mhs mso msr mrs mce mcp 0 stt tr R C op hwb kinds elders tof iof wyf mef hsf sof srf rsf cef cpf rest hR hC k) mi_X5_isSize rfl rfl rfl ml_RX5_167 rfl (Nat.le_of_ble_eq_true rfl) (by decide) ⟨Nat.le_of_ble_eq_true rfl, Nat.le_of_ble_eq_true rfl⟩ rfl rfl dX5_sized_25 ?_
      intro v w' hr'; obtain ⟨rfl, rfl⟩ := hr'
      show X φ 0 0 (c0 :: c1 :: c2 :: c3 :: c4 :: c5 :: c6 :: c7 :: c8 :: c9 :: c10 :: c11 :: (mo, oModel 0 stt tr (nI R) (nI C) (bI op) mki mel mto mio mwy (bI hwb) mme mhs mso msr mrs mce mcp) :: (mki, aI g 40 kinds) :: (mel, aI g 40 elders) :: (mto, aI g 25 tof) :: (mio, aZ g 40 iof) :: (mwy, aI g 4096 wyf) :: (mme, aZ g 36 mef) :: (mhs, aZ g 3 hsf) :: (mso, aI g 3 sof) :: (msr, aI g 3 srf) :: (mrs, aI g 12 rsf) :: (mce, aI g 480 cef) :: (mcp, aI g 40 cpf) :: rest) [(0, .ref mo), (1, .int x), (2, .int n), (3, .int k)] 28 [.int (bI (wiB k 0 (nI (ctF kinds (thM R C op)))))]
      refine X_if_ne K0 33 dX5_sized_28 (by decide) (fun h28 => ?_) (fun h28 => ?_)
      · obtain ⟨jx, hjx, rfl⟩ := wi_of (bI_n0.mp h10) (by omega)
        have hcljx : (nI jx).toNatClampNeg = jx := nI_clamp (by omega)
        refine X_iconst (v := 0) K0 dX5_sized_33 (by decide) ?_
        refine X_istore (L' := [(4, .int 0), (0, .ref mo), (1, .int (nI jx)), (2, .int n), (3, .int k)]) K0 dX5_sized_34 (by decide) rfl ?_
        refine X_iconst (v := 0) K0 dX5_sized_36 (by decide) ?_
        refine X_istore (L' := [(5, .int 0), (4, .int 0), (0, .ref mo), (1, .int (nI jx)), (2, .int n), (3, .int k)]) K0 dX5_sized_37 (by decide) rfl ?_
        refine X.sub [2, 3, 4, 5, 1, 0] (L' := [(0, .ref mo), (1, .int (nI jx)), (2, .int n), (3, .int k), (4, .int 0), (5, .int 0)]) rfl ?_
        have LOOP : ∀ (dd ii : Nat), ii + dd = (2 ^ (ctF kinds (thM R C op))) → ∀ (tq iq : Nat → Int32), X φ 0 0 (c0 :: c1 :: c2 :: c3 :: c4 :: c5 :: c6 :: c7 :: c8 :: c9 :: c10 :: c11 :: (mo, oModel 0 stt tr (nI R) (nI C) (bI op) mki mel mto mio mwy (bI hwb) mme mhs mso msr mrs mce mcp) :: (mki, aI g 40 kinds) :: (mel, aI g 40 elders) :: (mto, aI g 25 tq) :: (mio, aZ g 40 iq) :: (mwy, aI g 4096 wyf) :: (mme, aZ g 36 mef) :: (mhs, aZ g 3 hsf) :: (mso, aI g 3 sof) :: (msr, aI g 3 srf) :: (mrs, aI g 12 rsf) :: (mce, aI g 480 cef) :: (mcp, aI g 40 cpf) :: rest) [(0, .ref mo), (1, .int (nI jx)), (2, .int n), (3, .int k), (4, .int (cnI (szM R C op kinds elders jx n k) ii)), (5, .int (nI ii))] 39 [] := by
          intro dd
          induction dd with
          | zero =>
            intro ii hii tq iq
            have hii2 : (2 ^ (ctF kinds (thM R C op))) = ii := by omega
            subst hii2
            refine X_iload K0 5 dX5_sized_39 rfl ?_
            refine X_iconst (v := 1) K0 dX5_sized_41 (by decide) ?_
            refine X_aload_n K0 0 dX5_sized_42 rfl rfl ?_
            refine X_callV (As := []) (rest := [.int 1, .int (nI (2 ^ (ctF kinds (thM R C op))))]) K0 12 (m_chances g c0 c1 c2 c3 c4 c5 c6 c7 c8 c9 c10 c11 mo mki mel mto mio mwy mme mhs mso msr mrs mce mcp 0 stt tr R C op hwb kinds elders tq iq wyf mef hsf sof srf rsf cef cpf rest hR hC ) mi_X5_chances rfl rfl rfl ml_RX5_85 rfl (Nat.le_of_ble_eq_true rfl) (by decide) ⟨Nat.le_of_ble_eq_true rfl, Nat.le_of_ble_eq_true rfl⟩ rfl rfl dX5_sized_43 ?_
            intro v w' hr'; obtain ⟨rfl, rfl⟩ := hr'
            show X φ 0 0 (c0 :: c1 :: c2 :: c3 :: c4 :: c5 :: c6 :: c7 :: c8 :: c9 :: c10 :: c11 :: (mo, oModel 0 stt tr (nI R) (nI C) (bI op) mki mel mto mio mwy (bI hwb) mme mhs mso msr mrs mce mcp) :: (mki, aI g 40 kinds) :: (mel, aI g 40 elders) :: (mto, aI g 25 tq) :: (mio, aZ g 40 iq) :: (mwy, aI g 4096 wyf) :: (mme, aZ g 36 mef) :: (mhs, aZ g 3 hsf) :: (mso, aI g 3 sof) :: (msr, aI g 3 srf) :: (mrs, aI g 12 rsf) :: (mce, aI g 480 cef) :: (mcp, aI g 40 cpf) :: rest) [(0, .ref mo), (1, .int (nI jx)), (2, .int n), (3, .int k), (4, .int (cnI (szM R C op kinds elders jx n k) (2 ^ (ctF kinds (thM R C op))))), (5, .int (nI (2 ^ (ctF kinds (thM R C op)))))] 46 [.int (nI (ctF kinds (thM R C op))), .int 1, .int (nI (2 ^ (ctF kinds (thM R C op))))]
            refine X_ishl K0 dX5_sized_46 ?_
            refine X_v (z := (nI (2 ^ (ctF kinds (thM R C op))))) (shl_ct hKI.2) ?_
            refine X_icmp_ge K0 94 dX5_sized_47 (by decide) (fun h47 => ?_) (fun h47 => ?_)
            · refine X_iload K0 4 dX5_sized_94 rfl ?_
              exact hr _ _ _ _ ⟨by rw [szVM, yes_if (p_yy (bI_n0.mp h10) (p_yy (bI_n0.mp h20) (bI_n0.mp h28))), hcljx], tq, iq, wyf, mef, hwb, hWY, rfl⟩ dX5_sized_96
            · exact absurd (nI_le (Nat.le_refl _) (by omega)) h47
          | succ dd ih =>
            intro ii hii tq iq
            have hlt : ii < (2 ^ (ctF kinds (thM R C op))) := by omega
            refine X_iload K0 5 dX5_sized_39 rfl ?_
            refine X_iconst (v := 1) K0 dX5_sized_41 (by decide) ?_
            refine X_aload_n K0 0 dX5_sized_42 rfl rfl ?_
            refine X_callV (As := []) (rest := [.int 1, .int (nI ii)]) K0 12 (m_chances g c0 c1 c2 c3 c4 c5 c6 c7 c8 c9 c10 c11 mo mki mel mto mio mwy mme mhs mso msr mrs mce mcp 0 stt tr R C op hwb kinds elders tq iq wyf mef hsf sof srf rsf cef cpf rest hR hC ) mi_X5_chances rfl rfl rfl ml_RX5_85 rfl (Nat.le_of_ble_eq_true rfl) (by decide) ⟨Nat.le_of_ble_eq_true rfl, Nat.le_of_ble_eq_true rfl⟩ rfl rfl dX5_sized_43 ?_
            intro v w' hr'; obtain ⟨rfl, rfl⟩ := hr'
            show X φ 0 0 (c0 :: c1 :: c2 :: c3 :: c4 :: c5 :: c6 :: c7 :: c8 :: c9 :: c10 :: c11 :: (mo, oModel 0 stt tr (nI R) (nI C) (bI op) mki mel mto mio mwy (bI hwb) mme mhs mso msr mrs mce mcp) :: (mki, aI g 40 kinds) :: (mel, aI g 40 elders) :: (mto, aI g 25 tq) :: (mio, aZ g 40 iq) :: (mwy, aI g 4096 wyf) :: (mme, aZ g 36 mef) :: (mhs, aZ g 3 hsf) :: (mso, aI g 3 sof) :: (msr, aI g 3 srf) :: (mrs, aI g 12 rsf) :: (mce, aI g 480 cef) :: (mcp, aI g 40 cpf) :: rest) [(0, .ref mo), (1, .int (nI jx)), (2, .int n), (3, .int k), (4, .int (cnI (szM R C op kinds elders jx n k) ii)), (5, .int (nI ii))] 46 [.int (nI (ctF kinds (thM R C op))), .int 1, .int (nI ii)]
            refine X_ishl K0 dX5_sized_46 ?_
            refine X_v (z := (nI (2 ^ (ctF kinds (thM R C op))))) (shl_ct hKI.2) ?_
            refine X_icmp_ge K0 94 dX5_sized_47 (by decide) (fun h47 => ?_) (fun h47 => ?_)
            · exact absurd h47 (nI_ge hlt (by omega))
            · refine X_iload K0 5 dX5_sized_50 rfl ?_
              refine X_callS (As := [.int (nI ii)]) (rest := []) K0 (m_bits g (c0 :: c1 :: c2 :: c3 :: c4 :: c5 :: c6 :: c7 :: c8 :: c9 :: c10 :: c11 :: (mo, oModel 0 stt tr (nI R) (nI C) (bI op) mki mel mto mio mwy (bI hwb) mme mhs mso msr mrs mce mcp) :: (mki, aI g 40 kinds) :: (mel, aI g 40 elders) :: (mto, aI g 25 tq) :: (mio, aZ g 40 iq) :: (mwy, aI g 4096 wyf) :: (mme, aZ g 36 mef) :: (mhs, aZ g 3 hsf) :: (mso, aI g 3 sof) :: (msr, aI g 3 srf) :: (mrs, aI g 12 rsf) :: (mce, aI g 480 cef) :: (mcp, aI g 40 cpf) :: rest) (nI ii)) ms_X5_bits rfl ml_RX5_164 rfl (Nat.le_of_ble_eq_true rfl) (by decide) ⟨Nat.le_of_ble_eq_true rfl, Nat.le_of_ble_eq_true rfl⟩ rfl rfl dX5_sized_52 ?_
              intro v w' hr'; obtain ⟨rfl, rfl⟩ := hr'
              show X φ 0 0 (c0 :: c1 :: c2 :: c3 :: c4 :: c5 :: c6 :: c7 :: c8 :: c9 :: c10 :: c11 :: (mo, oModel 0 stt tr (nI R) (nI C) (bI op) mki mel mto mio mwy (bI hwb) mme mhs mso msr mrs mce mcp) :: (mki, aI g 40 kinds) :: (mel, aI g 40 elders) :: (mto, aI g 25 tq) :: (mio, aZ g 40 iq) :: (mwy, aI g 4096 wyf) :: (mme, aZ g 36 mef) :: (mhs, aZ g 3 hsf) :: (mso, aI g 3 sof) :: (msr, aI g 3 srf) :: (mrs, aI g 12 rsf) :: (mce, aI g 480 cef) :: (mcp, aI g 40 cpf) :: rest) [(0, .ref mo), (1, .int (nI jx)), (2, .int n), (3, .int k), (4, .int (cnI (szM R C op kinds elders jx n k) ii)), (5, .int (nI ii))] 55 [.int (bsM (nI ii) 12)]
              refine X_iload_n K0 3 dX5_sized_55 rfl rfl ?_
              refine X_icmp_ne K0 88 dX5_sized_56 (by decide) (fun h56 => ?_) (fun h56 => ?_)
              · refine X_iinc (v := ((nI ii) + 1)) (L' := [(5, .int ((nI ii) + 1)), (0, .ref mo), (1, .int (nI jx)), (2, .int n), (3, .int k), (4, .int (cnI (szM R C op kinds elders jx n k) ii))]) K0 5 dX5_sized_88 rfl (by first | rfl | decide) (by decide) rfl ?_
                refine X_goto K0 39 dX5_sized_91 (by decide) ?_
                refine X.sub [1, 2, 3, 4, 5, 0] (L' := [(0, .ref mo), (1, .int (nI jx)), (2, .int n), (3, .int k), (4, .int (cnI (szM R C op kinds elders jx n k) ii)), (5, .int ((nI ii) + 1))]) rfl ?_
                exact X_eq rfl (by first | (rw [nI_succ, ← cn_n (p := (szM R C op kinds elders jx n k)) (i := ii) (and_n1 h56)]) | (rw [nI_succ, cn_n0 (p := (szM R C op kinds elders jx n k)) (i := ii) (and_n2 (decide_eq_false h77))]) | (rw [nI_succ, cn_y1 (p := (szM R C op kinds elders jx n k)) (i := ii) (and_yy h56 (decide_eq_true h77))])) rfl (ih (ii + 1) (by omega) tq iq)
              · refine X_aload_n K0 0 dX5_sized_59 rfl rfl ?_
                refine X_iload K0 5 dX5_sized_60 rfl ?_
                refine X_callV (As := [.int (nI ii)]) (rest := []) K0 12 (m_joins g c0 c1 c2 c3 c4 c5 c6 c7 c8 c9 c10 c11 mo mki mel mto mio mwy mme mhs mso msr mrs mce mcp 0 stt tr R C op hwb kinds elders tq iq wyf mef hsf sof srf rsf cef cpf rest hR hC hKI (nI ii)) mi_X5_joins rfl rfl rfl ml_RX5_132 rfl (Nat.le_of_ble_eq_true rfl) (by decide) ⟨Nat.le_of_ble_eq_true rfl, Nat.le_of_ble_eq_true rfl⟩ rfl rfl dX5_sized_62 ?_
                intro v w' hr'; obtain ⟨rfl, rfl⟩ := hr'
                show X φ 0 0 (c0 :: c1 :: c2 :: c3 :: c4 :: c5 :: c6 :: c7 :: c8 :: c9 :: c10 :: c11 :: (mo, oModel 0 stt tr (nI R) (nI C) (bI op) mki mel mto mio mwy (bI hwb) mme mhs mso msr mrs mce mcp) :: (mki, aI g 40 kinds) :: (mel, aI g 40 elders) :: (mto, aI g 25 (ovr (R * C) (jC R C op (ioC kinds elders (nI ii)) (rdM R C)) tq)) :: (mio, aZ g 40 (ovr (thM R C op) (ioC kinds elders (nI ii)) iq)) :: (mwy, aI g 4096 wyf) :: (mme, aZ g 36 mef) :: (mhs, aZ g 3 hsf) :: (mso, aI g 3 sof) :: (msr, aI g 3 srf) :: (mrs, aI g 12 rsf) :: (mce, aI g 480 cef) :: (mcp, aI g 40 cpf) :: rest) [(0, .ref mo), (1, .int (nI jx)), (2, .int n), (3, .int k), (4, .int (cnI (szM R C op kinds elders jx n k) ii)), (5, .int (nI ii))] 65 []
                refine X_iload K0 4 dX5_sized_65 rfl ?_
                refine X_aload_n K0 0 dX5_sized_67 rfl rfl ?_
                refine X_aload_n K0 0 dX5_sized_68 rfl rfl ?_
                refine X_iload_n K0 1 dX5_sized_69 rfl rfl ?_
                refine X_callV (As := [.int (nI jx)]) (rest := [.ref mo, .int (cnI (szM R C op kinds elders jx n k) ii)]) K0 12 (m_heapOf g c0 c1 c2 c3 c4 c5 c6 c7 c8 c9 c10 c11 mo mki mel mto mio mwy mme mhs mso msr mrs mce mcp 0 stt tr R C op hwb kinds elders (ovr (R * C) (jC R C op (ioC kinds elders (nI ii)) (rdM R C)) tq) (ovr (thM R C op) (ioC kinds elders (nI ii)) iq) wyf mef hsf sof srf rsf cef cpf rest (pl_M hR hC) (hM R C op kinds elders (nI ii)) (ovr_JH (jC_uf hR hC _ _ _ (Nat.le_refl _)) (pl_M hR hC)) jx (by omega)) mi_X5_heapOf rfl rfl rfl ml_RX5_129 rfl (Nat.le_of_ble_eq_true rfl) (by decide) ⟨Nat.le_of_ble_eq_true rfl, Nat.le_of_ble_eq_true rfl⟩ rfl rfl dX5_sized_70 ?_
                intro v w' hr'; obtain ⟨rfl, rfl⟩ := hr'
                show X φ 0 0 (c0 :: c1 :: c2 :: c3 :: c4 :: c5 :: c6 :: c7 :: c8 :: c9 :: c10 :: c11 :: (mo, oModel 0 stt tr (nI R) (nI C) (bI op) mki mel mto mio mwy (bI hwb) mme mhs mso msr mrs mce mcp) :: (mki, aI g 40 kinds) :: (mel, aI g 40 elders) :: (mto, aI g 25 (ovr (R * C) (jC R C op (ioC kinds elders (nI ii)) (rdM R C)) tq)) :: (mio, aZ g 40 (ovr (thM R C op) (ioC kinds elders (nI ii)) iq)) :: (mwy, aI g 4096 wyf) :: (mme, aZ g 36 mef) :: (mhs, aZ g 3 hsf) :: (mso, aI g 3 sof) :: (msr, aI g 3 srf) :: (mrs, aI g 12 rsf) :: (mce, aI g 480 cef) :: (mcp, aI g 40 cpf) :: rest) [(0, .ref mo), (1, .int (nI jx)), (2, .int n), (3, .int k), (4, .int (cnI (szM R C op kinds elders jx n k) ii)), (5, .int (nI ii))] 73 [.int ((hM R C op kinds elders (nI ii)) jx), .ref mo, .int (cnI (szM R C op kinds elders jx n k) ii)]
                refine X_callV (As := [.int ((hM R C op kinds elders (nI ii)) jx)]) (rest := [.int (cnI (szM R C op kinds elders jx n k) ii)]) K0 12 (m_sizeOf g c0 c1 c2 c3 c4 c5 c6 c7 c8 c9 c10 c11 mo mki mel mto mio mwy mme mhs mso msr mrs mce mcp 0 stt tr R C op hwb kinds elders (ovr (R * C) (jC R C op (ioC kinds elders (nI ii)) (rdM R C)) tq) (ovr (thM R C op) (ioC kinds elders (nI ii)) iq) wyf mef hsf sof srf rsf cef cpf rest hR hC (hM R C op kinds elders (nI ii)) (ovr_JH (jC_uf hR hC _ _ _ (Nat.le_refl _)) (pl_M hR hC)) ((hM R C op kinds elders (nI ii)) jx)) mi_X5_sizeOf rfl rfl rfl ml_RX5_161 rfl (Nat.le_of_ble_eq_true rfl) (by decide) ⟨Nat.le_of_ble_eq_true rfl, Nat.le_of_ble_eq_true rfl⟩ rfl rfl dX5_sized_73 ?_
                intro v w' hr'; obtain ⟨rfl, rfl⟩ := hr'
                show X φ 0 0 (c0 :: c1 :: c2 :: c3 :: c4 :: c5 :: c6 :: c7 :: c8 :: c9 :: c10 :: c11 :: (mo, oModel 0 stt tr (nI R) (nI C) (bI op) mki mel mto mio mwy (bI hwb) mme mhs mso msr mrs mce mcp) :: (mki, aI g 40 kinds) :: (mel, aI g 40 elders) :: (mto, aI g 25 (ovr (R * C) (jC R C op (ioC kinds elders (nI ii)) (rdM R C)) tq)) :: (mio, aZ g 40 (ovr (thM R C op) (ioC kinds elders (nI ii)) iq)) :: (mwy, aI g 4096 wyf) :: (mme, aZ g 36 mef) :: (mhs, aZ g 3 hsf) :: (mso, aI g 3 sof) :: (msr, aI g 3 srf) :: (mrs, aI g 12 rsf) :: (mce, aI g 480 cef) :: (mcp, aI g 40 cpf) :: rest) [(0, .ref mo), (1, .int (nI jx)), (2, .int n), (3, .int k), (4, .int (cnI (szM R C op kinds elders jx n k) ii)), (5, .int (nI ii))] 76 [.int (szN (hM R C op kinds elders (nI ii)) (R * C) ((hM R C op kinds elders (nI ii)) jx)), .int (cnI (szM R C op kinds elders jx n k) ii)]
                refine X_iload_n K0 2 dX5_sized_76 rfl rfl ?_
                refine X_icmp_ne K0 84 dX5_sized_77 (by decide) (fun h77 => ?_) (fun h77 => ?_)
                · refine X_iconst (v := 0) K0 dX5_sized_84 (by decide) ?_
                  refine X_iadd K0 dX5_sized_85 ?_
                  refine X_istore (L' := [(4, .int ((cnI (szM R C op kinds elders jx n k) ii) + 0)), (0, .ref mo), (1, .int (nI jx)), (2, .int n), (3, .int k), (5, .int (nI ii))]) K0 dX5_sized_86 (by decide) rfl ?_
                  refine X_iinc (v := ((nI ii) + 1)) (L' := [(5, .int ((nI ii) + 1)), (4, .int ((cnI (szM R C op kinds elders jx n k) ii) + 0)), (0, .ref mo), (1, .int (nI jx)), (2, .int n), (3, .int k)]) K0 5 dX5_sized_88 rfl (by first | rfl | decide) (by decide) rfl ?_
                  refine X_goto K0 39 dX5_sized_91 (by decide) ?_
                  refine X.sub [2, 3, 4, 5, 1, 0] (L' := [(0, .ref mo), (1, .int (nI jx)), (2, .int n), (3, .int k), (4, .int ((cnI (szM R C op kinds elders jx n k) ii) + 0)), (5, .int ((nI ii) + 1))]) rfl ?_
                  exact X_eq rfl (by first | (rw [nI_succ, ← cn_n (p := (szM R C op kinds elders jx n k)) (i := ii) (and_n1 h56)]) | (rw [nI_succ, cn_n0 (p := (szM R C op kinds elders jx n k)) (i := ii) (and_n2 (decide_eq_false h77))]) | (rw [nI_succ, cn_y1 (p := (szM R C op kinds elders jx n k)) (i := ii) (and_yy h56 (decide_eq_true h77))])) rfl (ih (ii + 1) (by omega) (ovr (R * C) (jC R C op (ioC kinds elders (nI ii)) (rdM R C)) tq) (ovr (thM R C op) (ioC kinds elders (nI ii)) iq))
                · refine X_iconst (v := 1) K0 dX5_sized_80 (by decide) ?_
                  refine X_goto K0 85 dX5_sized_81 (by decide) ?_
                  refine X_iadd K0 dX5_sized_85 ?_
                  refine X_istore (L' := [(4, .int ((cnI (szM R C op kinds elders jx n k) ii) + 1)), (0, .ref mo), (1, .int (nI jx)), (2, .int n), (3, .int k), (5, .int (nI ii))]) K0 dX5_sized_86 (by decide) rfl ?_
                  refine X_iinc (v := ((nI ii) + 1)) (L' := [(5, .int ((nI ii) + 1)), (4, .int ((cnI (szM R C op kinds elders jx n k) ii) + 1)), (0, .ref mo), (1, .int (nI jx)), (2, .int n), (3, .int k)]) K0 5 dX5_sized_88 rfl (by first | rfl | decide) (by decide) rfl ?_
                  refine X_goto K0 39 dX5_sized_91 (by decide) ?_
                  refine X.sub [2, 3, 4, 5, 1, 0] (L' := [(0, .ref mo), (1, .int (nI jx)), (2, .int n), (3, .int k), (4, .int ((cnI (szM R C op kinds elders jx n k) ii) + 1)), (5, .int ((nI ii) + 1))]) rfl ?_
                  exact X_eq rfl (by first | (rw [nI_succ, ← cn_n (p := (szM R C op kinds elders jx n k)) (i := ii) (and_n1 h56)]) | (rw [nI_succ, cn_n0 (p := (szM R C op kinds elders jx n k)) (i := ii) (and_n2 (decide_eq_false h77))]) | (rw [nI_succ, cn_y1 (p := (szM R C op kinds elders jx n k)) (i := ii) (and_yy h56 (decide_eq_true h77))])) rfl (ih (ii + 1) (by omega) (ovr (R * C) (jC R C op (ioC kinds elders (nI ii)) (rdM R C)) tq) (ovr (thM R C op) (ioC kinds elders (nI ii)) iq))
        exact LOOP (2 ^ (ctF kinds (thM R C op))) 0 (by omega) tof iof
      · refine X_iconst (v := (-1)) K0 dX5_sized_31 (by decide) ?_
        exact hr _ _ _ _ ⟨by rw [szVM, no_if (by first | exact p_n (bI_0.mp h10) | exact p_yn (bI_n0.mp h10) (p_n (bI_0.mp h20)) | exact p_yn (bI_n0.mp h10) (p_yn (bI_n0.mp h20) (bI_0.mp h28)))], tof, iof, wyf, mef, hwb, hWY, rfl⟩ dX5_sized_32

set_option maxRecDepth 20000 in
set_option maxHeartbeats 400000 in
theorem m_heapSum (g : Gx) (c0 c1 c2 c3 c4 c5 c6 c7 c8 c9 c10 c11 : Nat × va_E) (mo mki mel mto mio mwy mme mhs mso msr mrs mce mcp : Nat) (tn stt : Int32) (tr : Int64) (R C : Nat) (op hwb : Bool) (kinds elders tof iof wyf mef hsf sof srf rsf cef cpf : Nat → Int32) (rest : va_W) (hR : 1 ≤ R ∧ R ≤ 5) (hC : 1 ≤ C ∧ C ≤ 5) (hKI : KI (thM R C op) kinds elders) (hWY : WY R C op kinds elders hwb wyf) (k : Int32) : Con g yX5_heapSum cX5_heapSum 4 (some .int) 5 103 0 0 [.ref mo, .int k] (c0 :: c1 :: c2 :: c3 :: c4 :: c5 :: c6 :: c7 :: c8 :: c9 :: c10 :: c11 :: (mo, oModel tn stt tr (nI R) (nI C) (bI op) mki mel mto mio mwy (bI hwb) mme mhs mso msr mrs mce mcp) :: (mki, aI g 40 kinds) :: (mel, aI g 40 elders) :: (mto, aI g 25 tof) :: (mio, aZ g 40 iof) :: (mwy, aI g 4096 wyf) :: (mme, aZ g 36 mef) :: (mhs, aZ g 3 hsf) :: (mso, aI g 3 sof) :: (msr, aI g 3 srf) :: (mrs, aI g 12 rsf) :: (mce, aI g 480 cef) :: (mcp, aI g 40 cpf) :: rest) (fun v w' => v = some (.int (hmVM R C op kinds elders k)) ∧ ∃ (tq iq wq mq : Nat → Int32) (hq : Bool), WY R C op kinds elders hq wq ∧ (c0 :: c1 :: c2 :: c3 :: c4 :: c5 :: c6 :: c7 :: c8 :: c9 :: c10 :: c11 :: (mo, oModel 0 stt tr (nI R) (nI C) (bI op) mki mel mto mio mwy (bI hq) mme mhs mso msr mrs mce mcp) :: (mki, aI g 40 kinds) :: (mel, aI g 40 elders) :: (mto, aI g 25 tq) :: (mio, aZ g 40 iq) :: (mwy, aI g 4096 wq) :: (mme, aZ g 36 mq) :: (mhs, aZ g 3 hsf) :: (mso, aI g 3 sof) :: (msr, aI g 3 srf) :: (mrs, aI g 12 rsf) :: (mce, aI g 480 cef) :: (mcp, aI g 40 cpf) :: rest) = w') := by
  have hTM := th_M (op := op) hR hC
  have hPM := pl_M hR hC
  have hRM := rd_M hR hC
  have hN := pow_m hKI.2
  have hM12 := hKI.2
  refine Con.ofI (by decide +kernel) (Nat.le_of_ble_eq_true rfl) (fun φ K0 hr => ?_)
  show X φ 0 0 (c0 :: c1 :: c2 :: c3 :: c4 :: c5 :: c6 :: c7 :: c8 :: c9 :: c10 :: c11 :: (mo, oModel tn stt tr (nI R) (nI C) (bI op) mki mel mto mio mwy (bI hwb) mme mhs mso msr mrs mce mcp) :: (mki, aI g 40 kinds) :: (mel, aI g 40 elders) :: (mto, aI g 25 tof) :: (mio, aZ g 40 iof) :: (mwy, aI g 4096 wyf) :: (mme, aZ g 36 mef) :: (mhs, aZ g 3 hsf) :: (mso, aI g 3 sof) :: (msr, aI g 3 srf) :: (mrs, aI g 12 rsf) :: (mce, aI g 480 cef) :: (mcp, aI g 40 cpf) :: rest) [(0, .ref mo), (1, .int k)] 0 []
  refine X_aload_n K0 0 dX5_heapSum_0 rfl rfl ?_
  refine X_iconst (v := 0) K0 dX5_heapSum_1 (by decide) ?_
  refine X_put (w' := (c0 :: c1 :: c2 :: c3 :: c4 :: c5 :: c6 :: c7 :: c8 :: c9 :: c10 :: c11 :: (mo, oModel 0 stt tr (nI R) (nI C) (bI op) mki mel mto mio mwy (bI hwb) mme mhs mso msr mrs mce mcp) :: (mki, aI g 40 kinds) :: (mel, aI g 40 elders) :: (mto, aI g 25 tof) :: (mio, aZ g 40 iof) :: (mwy, aI g 4096 wyf) :: (mme, aZ g 36 mef) :: (mhs, aZ g 3 hsf) :: (mso, aI g 3 sof) :: (msr, aI g 3 srf) :: (mrs, aI g 12 rsf) :: (mce, aI g 480 cef) :: (mcp, aI g 40 cpf) :: rest)) K0 12 rfl rfl hin5 tyX5 tyX5_ok nmX5 0 (by decide) fl_RX5_58 rfl (tyX5_ok 0 (by decide)) rfl rfl (Nat.le_of_ble_eq_true rfl) dX5_heapSum_2 rfl ?_
  refine X_aload_n K0 0 dX5_heapSum_5 rfl rfl ?_
  refine X_iload_n K0 1 dX5_heapSum_6 rfl rfl ?_
  refine X_callV (As := [.int k]) (rest := []) K0 12 (m_isSize g c0 c1 c2 c3 c4 c5 c6 c7 c8 c9 c10 c11 mo mki mel mto mio mwy mme mhs mso msr mrs mce mcp 0 stt tr R C op hwb kinds elders tof iof wyf mef hsf sof srf rsf cef cpf rest hR hC k) mi_X5_isSize rfl rfl rfl ml_RX5_167 rfl (Nat.le_of_ble_eq_true rfl) (by decide) ⟨Nat.le_of_ble_eq_true rfl, Nat.le_of_ble_eq_true rfl⟩ rfl rfl dX5_heapSum_7 ?_
  intro v w' hr'; obtain ⟨rfl, rfl⟩ := hr'
  show X φ 0 0 (c0 :: c1 :: c2 :: c3 :: c4 :: c5 :: c6 :: c7 :: c8 :: c9 :: c10 :: c11 :: (mo, oModel 0 stt tr (nI R) (nI C) (bI op) mki mel mto mio mwy (bI hwb) mme mhs mso msr mrs mce mcp) :: (mki, aI g 40 kinds) :: (mel, aI g 40 elders) :: (mto, aI g 25 tof) :: (mio, aZ g 40 iof) :: (mwy, aI g 4096 wyf) :: (mme, aZ g 36 mef) :: (mhs, aZ g 3 hsf) :: (mso, aI g 3 sof) :: (msr, aI g 3 srf) :: (mrs, aI g 12 rsf) :: (mce, aI g 480 cef) :: (mcp, aI g 40 cpf) :: rest) [(0, .ref mo), (1, .int k)] 10 [.int (bI (wiB k 0 (nI (ctF kinds (thM R C op)))))]
  refine X_if_ne K0 15 dX5_heapSum_10 (by decide) (fun h10 => ?_) (fun h10 => ?_)
  · refine X_iconst (v := 0) K0 dX5_heapSum_15 (by decide) ?_
    refine X_istore_n (L' := [(2, .int 0), (0, .ref mo), (1, .int k)]) K0 dX5_heapSum_16 rfl (by decide) rfl ?_
    refine X_iconst (v := 0) K0 dX5_heapSum_17 (by decide) ?_
    refine X_istore_n (L' := [(3, .int 0), (2, .int 0), (0, .ref mo), (1, .int k)]) K0 dX5_heapSum_18 rfl (by decide) rfl ?_
    refine X.sub [2, 3, 1, 0] (L' := [(0, .ref mo), (1, .int k), (2, .int 0), (3, .int 0)]) rfl ?_
    have LOOP : ∀ (dd ii : Nat), ii + dd = (2 ^ (ctF kinds (thM R C op))) → ∀ (tq iq : Nat → Int32), X φ 0 0 (c0 :: c1 :: c2 :: c3 :: c4 :: c5 :: c6 :: c7 :: c8 :: c9 :: c10 :: c11 :: (mo, oModel 0 stt tr (nI R) (nI C) (bI op) mki mel mto mio mwy (bI hwb) mme mhs mso msr mrs mce mcp) :: (mki, aI g 40 kinds) :: (mel, aI g 40 elders) :: (mto, aI g 25 tq) :: (mio, aZ g 40 iq) :: (mwy, aI g 4096 wyf) :: (mme, aZ g 36 mef) :: (mhs, aZ g 3 hsf) :: (mso, aI g 3 sof) :: (msr, aI g 3 srf) :: (mrs, aI g 12 rsf) :: (mce, aI g 480 cef) :: (mcp, aI g 40 cpf) :: rest) [(0, .ref mo), (1, .int k), (2, .int (smI (fun s => decide (bsM (nI s) 12 = k)) (fun s => cnI (hcQ (hM R C op kinds elders (nI s))) (R * C)) ii)), (3, .int (nI ii))] 19 [] := by
      intro dd
      induction dd with
      | zero =>
        intro ii hii tq iq
        have hii2 : (2 ^ (ctF kinds (thM R C op))) = ii := by omega
        subst hii2
        refine X_iload_n K0 3 dX5_heapSum_19 rfl rfl ?_
        refine X_iconst (v := 1) K0 dX5_heapSum_20 (by decide) ?_
        refine X_aload_n K0 0 dX5_heapSum_21 rfl rfl ?_
        refine X_callV (As := []) (rest := [.int 1, .int (nI (2 ^ (ctF kinds (thM R C op))))]) K0 12 (m_chances g c0 c1 c2 c3 c4 c5 c6 c7 c8 c9 c10 c11 mo mki mel mto mio mwy mme mhs mso msr mrs mce mcp 0 stt tr R C op hwb kinds elders tq iq wyf mef hsf sof srf rsf cef cpf rest hR hC ) mi_X5_chances rfl rfl rfl ml_RX5_85 rfl (Nat.le_of_ble_eq_true rfl) (by decide) ⟨Nat.le_of_ble_eq_true rfl, Nat.le_of_ble_eq_true rfl⟩ rfl rfl dX5_heapSum_22 ?_
        intro v w' hr'; obtain ⟨rfl, rfl⟩ := hr'
        show X φ 0 0 (c0 :: c1 :: c2 :: c3 :: c4 :: c5 :: c6 :: c7 :: c8 :: c9 :: c10 :: c11 :: (mo, oModel 0 stt tr (nI R) (nI C) (bI op) mki mel mto mio mwy (bI hwb) mme mhs mso msr mrs mce mcp) :: (mki, aI g 40 kinds) :: (mel, aI g 40 elders) :: (mto, aI g 25 tq) :: (mio, aZ g 40 iq) :: (mwy, aI g 4096 wyf) :: (mme, aZ g 36 mef) :: (mhs, aZ g 3 hsf) :: (mso, aI g 3 sof) :: (msr, aI g 3 srf) :: (mrs, aI g 12 rsf) :: (mce, aI g 480 cef) :: (mcp, aI g 40 cpf) :: rest) [(0, .ref mo), (1, .int k), (2, .int (smI (fun s => decide (bsM (nI s) 12 = k)) (fun s => cnI (hcQ (hM R C op kinds elders (nI s))) (R * C)) (2 ^ (ctF kinds (thM R C op))))), (3, .int (nI (2 ^ (ctF kinds (thM R C op)))))] 25 [.int (nI (ctF kinds (thM R C op))), .int 1, .int (nI (2 ^ (ctF kinds (thM R C op))))]
        refine X_ishl K0 dX5_heapSum_25 ?_
        refine X_v (z := (nI (2 ^ (ctF kinds (thM R C op))))) (shl_ct hKI.2) ?_
        refine X_icmp_ge K0 55 dX5_heapSum_26 (by decide) (fun h26 => ?_) (fun h26 => ?_)
        · refine X_iload_n K0 2 dX5_heapSum_55 rfl rfl ?_
          exact hr _ _ _ _ ⟨by rw [hmVM, yes_if (bI_n0.mp h10)], tq, iq, wyf, mef, hwb, hWY, rfl⟩ dX5_heapSum_56
        · exact absurd (nI_le (Nat.le_refl _) (by omega)) h26
      | succ dd ih =>
        intro ii hii tq iq
        have hlt : ii < (2 ^ (ctF kinds (thM R C op))) := by omega
        refine X_iload_n K0 3 dX5_heapSum_19 rfl rfl ?_
        refine X_iconst (v := 1) K0 dX5_heapSum_20 (by decide) ?_
        refine X_aload_n K0 0 dX5_heapSum_21 rfl rfl ?_
        refine X_callV (As := []) (rest := [.int 1, .int (nI ii)]) K0 12 (m_chances g c0 c1 c2 c3 c4 c5 c6 c7 c8 c9 c10 c11 mo mki mel mto mio mwy mme mhs mso msr mrs mce mcp 0 stt tr R C op hwb kinds elders tq iq wyf mef hsf sof srf rsf cef cpf rest hR hC ) mi_X5_chances rfl rfl rfl ml_RX5_85 rfl (Nat.le_of_ble_eq_true rfl) (by decide) ⟨Nat.le_of_ble_eq_true rfl, Nat.le_of_ble_eq_true rfl⟩ rfl rfl dX5_heapSum_22 ?_
        intro v w' hr'; obtain ⟨rfl, rfl⟩ := hr'
        show X φ 0 0 (c0 :: c1 :: c2 :: c3 :: c4 :: c5 :: c6 :: c7 :: c8 :: c9 :: c10 :: c11 :: (mo, oModel 0 stt tr (nI R) (nI C) (bI op) mki mel mto mio mwy (bI hwb) mme mhs mso msr mrs mce mcp) :: (mki, aI g 40 kinds) :: (mel, aI g 40 elders) :: (mto, aI g 25 tq) :: (mio, aZ g 40 iq) :: (mwy, aI g 4096 wyf) :: (mme, aZ g 36 mef) :: (mhs, aZ g 3 hsf) :: (mso, aI g 3 sof) :: (msr, aI g 3 srf) :: (mrs, aI g 12 rsf) :: (mce, aI g 480 cef) :: (mcp, aI g 40 cpf) :: rest) [(0, .ref mo), (1, .int k), (2, .int (smI (fun s => decide (bsM (nI s) 12 = k)) (fun s => cnI (hcQ (hM R C op kinds elders (nI s))) (R * C)) ii)), (3, .int (nI ii))] 25 [.int (nI (ctF kinds (thM R C op))), .int 1, .int (nI ii)]
        refine X_ishl K0 dX5_heapSum_25 ?_
        refine X_v (z := (nI (2 ^ (ctF kinds (thM R C op))))) (shl_ct hKI.2) ?_
        refine X_icmp_ge K0 55 dX5_heapSum_26 (by decide) (fun h26 => ?_) (fun h26 => ?_)
        · exact absurd h26 (nI_ge hlt (by omega))
        · refine X_iload_n K0 3 dX5_heapSum_29 rfl rfl ?_
          refine X_callS (As := [.int (nI ii)]) (rest := []) K0 (m_bits g (c0 :: c1 :: c2 :: c3 :: c4 :: c5 :: c6 :: c7 :: c8 :: c9 :: c10 :: c11 :: (mo, oModel 0 stt tr (nI R) (nI C) (bI op) mki mel mto mio mwy (bI hwb) mme mhs mso msr mrs mce mcp) :: (mki, aI g 40 kinds) :: (mel, aI g 40 elders) :: (mto, aI g 25 tq) :: (mio, aZ g 40 iq) :: (mwy, aI g 4096 wyf) :: (mme, aZ g 36 mef) :: (mhs, aZ g 3 hsf) :: (mso, aI g 3 sof) :: (msr, aI g 3 srf) :: (mrs, aI g 12 rsf) :: (mce, aI g 480 cef) :: (mcp, aI g 40 cpf) :: rest) (nI ii)) ms_X5_bits rfl ml_RX5_164 rfl (Nat.le_of_ble_eq_true rfl) (by decide) ⟨Nat.le_of_ble_eq_true rfl, Nat.le_of_ble_eq_true rfl⟩ rfl rfl dX5_heapSum_30 ?_
          intro v w' hr'; obtain ⟨rfl, rfl⟩ := hr'
          show X φ 0 0 (c0 :: c1 :: c2 :: c3 :: c4 :: c5 :: c6 :: c7 :: c8 :: c9 :: c10 :: c11 :: (mo, oModel 0 stt tr (nI R) (nI C) (bI op) mki mel mto mio mwy (bI hwb) mme mhs mso msr mrs mce mcp) :: (mki, aI g 40 kinds) :: (mel, aI g 40 elders) :: (mto, aI g 25 tq) :: (mio, aZ g 40 iq) :: (mwy, aI g 4096 wyf) :: (mme, aZ g 36 mef) :: (mhs, aZ g 3 hsf) :: (mso, aI g 3 sof) :: (msr, aI g 3 srf) :: (mrs, aI g 12 rsf) :: (mce, aI g 480 cef) :: (mcp, aI g 40 cpf) :: rest) [(0, .ref mo), (1, .int k), (2, .int (smI (fun s => decide (bsM (nI s) 12 = k)) (fun s => cnI (hcQ (hM R C op kinds elders (nI s))) (R * C)) ii)), (3, .int (nI ii))] 33 [.int (bsM (nI ii) 12)]
          refine X_iload_n K0 1 dX5_heapSum_33 rfl rfl ?_
          refine X_icmp_ne K0 49 dX5_heapSum_34 (by decide) (fun h34 => ?_) (fun h34 => ?_)
          · refine X_iinc (v := ((nI ii) + 1)) (L' := [(3, .int ((nI ii) + 1)), (0, .ref mo), (1, .int k), (2, .int (smI (fun s => decide (bsM (nI s) 12 = k)) (fun s => cnI (hcQ (hM R C op kinds elders (nI s))) (R * C)) ii))]) K0 3 dX5_heapSum_49 rfl (by first | rfl | decide) (by decide) rfl ?_
            refine X_goto K0 19 dX5_heapSum_52 (by decide) ?_
            refine X.sub [1, 2, 3, 0] (L' := [(0, .ref mo), (1, .int k), (2, .int (smI (fun s => decide (bsM (nI s) 12 = k)) (fun s => cnI (hcQ (hM R C op kinds elders (nI s))) (R * C)) ii)), (3, .int ((nI ii) + 1))]) rfl ?_
            exact X_eq rfl (by first | (rw [nI_succ, sm1_n (p := (fun s => decide (bsM (nI s) 12 = k))) (v := (fun s => cnI (hcQ (hM R C op kinds elders (nI s))) (R * C))) (i := ii) rfl h34]) | (rw [nI_succ, sm1_y (p := (fun s => decide (bsM (nI s) 12 = k))) (v := (fun s => cnI (hcQ (hM R C op kinds elders (nI s))) (R * C))) (i := ii) rfl h34])) rfl (ih (ii + 1) (by omega) tq iq)
          · refine X_aload_n K0 0 dX5_heapSum_37 rfl rfl ?_
            refine X_iload_n K0 3 dX5_heapSum_38 rfl rfl ?_
            refine X_callV (As := [.int (nI ii)]) (rest := []) K0 12 (m_joins g c0 c1 c2 c3 c4 c5 c6 c7 c8 c9 c10 c11 mo mki mel mto mio mwy mme mhs mso msr mrs mce mcp 0 stt tr R C op hwb kinds elders tq iq wyf mef hsf sof srf rsf cef cpf rest hR hC hKI (nI ii)) mi_X5_joins rfl rfl rfl ml_RX5_132 rfl (Nat.le_of_ble_eq_true rfl) (by decide) ⟨Nat.le_of_ble_eq_true rfl, Nat.le_of_ble_eq_true rfl⟩ rfl rfl dX5_heapSum_39 ?_
            intro v w' hr'; obtain ⟨rfl, rfl⟩ := hr'
            show X φ 0 0 (c0 :: c1 :: c2 :: c3 :: c4 :: c5 :: c6 :: c7 :: c8 :: c9 :: c10 :: c11 :: (mo, oModel 0 stt tr (nI R) (nI C) (bI op) mki mel mto mio mwy (bI hwb) mme mhs mso msr mrs mce mcp) :: (mki, aI g 40 kinds) :: (mel, aI g 40 elders) :: (mto, aI g 25 (ovr (R * C) (jC R C op (ioC kinds elders (nI ii)) (rdM R C)) tq)) :: (mio, aZ g 40 (ovr (thM R C op) (ioC kinds elders (nI ii)) iq)) :: (mwy, aI g 4096 wyf) :: (mme, aZ g 36 mef) :: (mhs, aZ g 3 hsf) :: (mso, aI g 3 sof) :: (msr, aI g 3 srf) :: (mrs, aI g 12 rsf) :: (mce, aI g 480 cef) :: (mcp, aI g 40 cpf) :: rest) [(0, .ref mo), (1, .int k), (2, .int (smI (fun s => decide (bsM (nI s) 12 = k)) (fun s => cnI (hcQ (hM R C op kinds elders (nI s))) (R * C)) ii)), (3, .int (nI ii))] 42 []
            refine X_iload_n K0 2 dX5_heapSum_42 rfl rfl ?_
            refine X_aload_n K0 0 dX5_heapSum_43 rfl rfl ?_
            refine X_callV (As := []) (rest := [.int (smI (fun s => decide (bsM (nI s) 12 = k)) (fun s => cnI (hcQ (hM R C op kinds elders (nI s))) (R * C)) ii)]) K0 12 (m_heapCount g c0 c1 c2 c3 c4 c5 c6 c7 c8 c9 c10 c11 mo mki mel mto mio mwy mme mhs mso msr mrs mce mcp 0 stt tr R C op hwb kinds elders (ovr (R * C) (jC R C op (ioC kinds elders (nI ii)) (rdM R C)) tq) (ovr (thM R C op) (ioC kinds elders (nI ii)) iq) wyf mef hsf sof srf rsf cef cpf rest hR hC (hM R C op kinds elders (nI ii)) (ovr_JH (jC_uf hR hC _ _ _ (Nat.le_refl _)) (pl_M hR hC))) mi_X5_heapCount rfl rfl rfl ml_RX5_158 rfl (Nat.le_of_ble_eq_true rfl) (by decide) ⟨Nat.le_of_ble_eq_true rfl, Nat.le_of_ble_eq_true rfl⟩ rfl rfl dX5_heapSum_44 ?_
            intro v w' hr'; obtain ⟨rfl, rfl⟩ := hr'
            show X φ 0 0 (c0 :: c1 :: c2 :: c3 :: c4 :: c5 :: c6 :: c7 :: c8 :: c9 :: c10 :: c11 :: (mo, oModel 0 stt tr (nI R) (nI C) (bI op) mki mel mto mio mwy (bI hwb) mme mhs mso msr mrs mce mcp) :: (mki, aI g 40 kinds) :: (mel, aI g 40 elders) :: (mto, aI g 25 (ovr (R * C) (jC R C op (ioC kinds elders (nI ii)) (rdM R C)) tq)) :: (mio, aZ g 40 (ovr (thM R C op) (ioC kinds elders (nI ii)) iq)) :: (mwy, aI g 4096 wyf) :: (mme, aZ g 36 mef) :: (mhs, aZ g 3 hsf) :: (mso, aI g 3 sof) :: (msr, aI g 3 srf) :: (mrs, aI g 12 rsf) :: (mce, aI g 480 cef) :: (mcp, aI g 40 cpf) :: rest) [(0, .ref mo), (1, .int k), (2, .int (smI (fun s => decide (bsM (nI s) 12 = k)) (fun s => cnI (hcQ (hM R C op kinds elders (nI s))) (R * C)) ii)), (3, .int (nI ii))] 47 [.int (cnI (hcQ (hM R C op kinds elders (nI ii))) (R * C)), .int (smI (fun s => decide (bsM (nI s) 12 = k)) (fun s => cnI (hcQ (hM R C op kinds elders (nI s))) (R * C)) ii)]
            refine X_iadd K0 dX5_heapSum_47 ?_
            refine X_istore_n (L' := [(2, .int ((smI (fun s => decide (bsM (nI s) 12 = k)) (fun s => cnI (hcQ (hM R C op kinds elders (nI s))) (R * C)) ii) + (cnI (hcQ (hM R C op kinds elders (nI ii))) (R * C)))), (0, .ref mo), (1, .int k), (3, .int (nI ii))]) K0 dX5_heapSum_48 rfl (by decide) rfl ?_
            refine X_iinc (v := ((nI ii) + 1)) (L' := [(3, .int ((nI ii) + 1)), (2, .int ((smI (fun s => decide (bsM (nI s) 12 = k)) (fun s => cnI (hcQ (hM R C op kinds elders (nI s))) (R * C)) ii) + (cnI (hcQ (hM R C op kinds elders (nI ii))) (R * C)))), (0, .ref mo), (1, .int k)]) K0 3 dX5_heapSum_49 rfl (by first | rfl | decide) (by decide) rfl ?_
            refine X_goto K0 19 dX5_heapSum_52 (by decide) ?_
            refine X.sub [2, 3, 1, 0] (L' := [(0, .ref mo), (1, .int k), (2, .int ((smI (fun s => decide (bsM (nI s) 12 = k)) (fun s => cnI (hcQ (hM R C op kinds elders (nI s))) (R * C)) ii) + (cnI (hcQ (hM R C op kinds elders (nI ii))) (R * C)))), (3, .int ((nI ii) + 1))]) rfl ?_
            exact X_eq rfl (by first | (rw [nI_succ, sm1_n (p := (fun s => decide (bsM (nI s) 12 = k))) (v := (fun s => cnI (hcQ (hM R C op kinds elders (nI s))) (R * C))) (i := ii) rfl h34]) | (rw [nI_succ, sm1_y (p := (fun s => decide (bsM (nI s) 12 = k))) (v := (fun s => cnI (hcQ (hM R C op kinds elders (nI s))) (R * C))) (i := ii) rfl h34])) rfl (ih (ii + 1) (by omega) (ovr (R * C) (jC R C op (ioC kinds elders (nI ii)) (rdM R C)) tq) (ovr (thM R C op) (ioC kinds elders (nI ii)) iq))
    exact LOOP (2 ^ (ctF kinds (thM R C op))) 0 (by omega) tof iof
  · refine X_iconst (v := (-1)) K0 dX5_heapSum_13 (by decide) ?_
    exact hr _ _ _ _ ⟨by rw [hmVM, no_if (bI_0.mp h10)], tof, iof, wyf, mef, hwb, hWY, rfl⟩ dX5_heapSum_14
