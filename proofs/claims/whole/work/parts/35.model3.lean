set_option maxRecDepth 20000 in
set_option maxHeartbeats 400000 in
theorem m_root (g : Gx) (c0 c1 c2 c3 c4 c5 c6 c7 c8 c9 c10 c11 : Nat × va_E) (mo mki mel mto mio mwy mme mhs mso msr mrs mce mcp : Nat) (tn stt : Int32) (tr : Int64) (R C : Nat) (op hwb : Bool) (kinds elders tof iof wyf mef hsf sof srf rsf cef cpf : Nat → Int32) (rest : va_W) {P : Nat} (hP : P ≤ 25) (hU : UF tof P) (p : Nat) (hp : p < P) (hne : ¬ tof p = -9) : Con g yX5_root cX5_root 3 (some .int) 0 0 0 0 [.ref mo, .int (nI p)] (c0 :: c1 :: c2 :: c3 :: c4 :: c5 :: c6 :: c7 :: c8 :: c9 :: c10 :: c11 :: (mo, oModel tn stt tr (nI R) (nI C) (bI op) mki mel mto mio mwy (bI hwb) mme mhs mso msr mrs mce mcp) :: (mki, aI g 40 kinds) :: (mel, aI g 40 elders) :: (mto, aI g 25 tof) :: (mio, aZ g 40 iof) :: (mwy, aI g 4096 wyf) :: (mme, aZ g 36 mef) :: (mhs, aZ g 3 hsf) :: (mso, aI g 3 sof) :: (msr, aI g 3 srf) :: (mrs, aI g 12 rsf) :: (mce, aI g 480 cef) :: (mcp, aI g 40 cpf) :: rest) (Rs (some (.int (nI (rt tof p)))) (c0 :: c1 :: c2 :: c3 :: c4 :: c5 :: c6 :: c7 :: c8 :: c9 :: c10 :: c11 :: (mo, oModel tn stt tr (nI R) (nI C) (bI op) mki mel mto mio mwy (bI hwb) mme mhs mso msr mrs mce mcp) :: (mki, aI g 40 kinds) :: (mel, aI g 40 elders) :: (mto, aI g 25 tof) :: (mio, aZ g 40 iof) :: (mwy, aI g 4096 wyf) :: (mme, aZ g 36 mef) :: (mhs, aZ g 3 hsf) :: (mso, aI g 3 sof) :: (msr, aI g 3 srf) :: (mrs, aI g 12 rsf) :: (mce, aI g 480 cef) :: (mcp, aI g 40 cpf) :: rest)) := by
  refine Con.ofI (by decide +kernel) (Nat.le_of_ble_eq_true rfl) (fun φ K0 hr => ?_)
  show X φ 0 0 (c0 :: c1 :: c2 :: c3 :: c4 :: c5 :: c6 :: c7 :: c8 :: c9 :: c10 :: c11 :: (mo, oModel tn stt tr (nI R) (nI C) (bI op) mki mel mto mio mwy (bI hwb) mme mhs mso msr mrs mce mcp) :: (mki, aI g 40 kinds) :: (mel, aI g 40 elders) :: (mto, aI g 25 tof) :: (mio, aZ g 40 iof) :: (mwy, aI g 4096 wyf) :: (mme, aZ g 36 mef) :: (mhs, aZ g 3 hsf) :: (mso, aI g 3 sof) :: (msr, aI g 3 srf) :: (mrs, aI g 12 rsf) :: (mce, aI g 480 cef) :: (mcp, aI g 40 cpf) :: rest) [(0, .ref mo), (1, .int (nI p))] 0 []
  refine X_iload_n K0 1 dX5_root_0 rfl rfl ?_
  refine X_istore_n (L' := [(2, .int (nI p)), (0, .ref mo), (1, .int (nI p))]) K0 dX5_root_1 rfl (by decide) rfl ?_
  refine X.sub [1, 2, 0] (L' := [(0, .ref mo), (1, .int (nI p)), (2, .int (nI p))]) rfl ?_
  have LOOP : ∀ (n q : Nat), q ≤ n → q < P → ¬ tof q = -9 → rt tof q = rt tof p → X φ 0 0 (c0 :: c1 :: c2 :: c3 :: c4 :: c5 :: c6 :: c7 :: c8 :: c9 :: c10 :: c11 :: (mo, oModel tn stt tr (nI R) (nI C) (bI op) mki mel mto mio mwy (bI hwb) mme mhs mso msr mrs mce mcp) :: (mki, aI g 40 kinds) :: (mel, aI g 40 elders) :: (mto, aI g 25 tof) :: (mio, aZ g 40 iof) :: (mwy, aI g 4096 wyf) :: (mme, aZ g 36 mef) :: (mhs, aZ g 3 hsf) :: (mso, aI g 3 sof) :: (msr, aI g 3 srf) :: (mrs, aI g 12 rsf) :: (mce, aI g 480 cef) :: (mcp, aI g 40 cpf) :: rest) [(0, .ref mo), (1, .int (nI p)), (2, .int (nI q))] 2 [] := by
    intro n
    induction n with
    | zero =>
      intro q hqn hqP hq9 hqr
      have hfix : tof q = nI q := by rcases hU q hqP with e | ⟨z, z1, z2, z3⟩; exact absurd e hq9; (rw [z2, show z = q by omega])
      refine X_aload_n K0 0 dX5_root_2 rfl rfl ?_
      refine X_get K0 12 rfl rfl hin5 8 (by decide) fl_RX5_23 rfl dX5_root_3 ?_
      refine X_iload_n K0 2 dX5_root_6 rfl rfl ?_
      refine X_ialdN K0 15 rfl (by omega) (by first | decide | omega) dX5_root_7 ?_
      refine X_iload_n K0 2 dX5_root_8 rfl rfl ?_
      refine X_icmp_eq K0 22 dX5_root_9 (by decide) (fun h9 => ?_) (fun h9 => ?_)
      · refine X_iload_n K0 2 dX5_root_22 rfl rfl ?_
        exact hr _ _ _ _ ⟨by rw [← hqr, rt_fix h9], rfl⟩ dX5_root_23
      · exact absurd hfix h9
    | succ n ih =>
      intro q hqn hqP hq9 hqr
      refine X_aload_n K0 0 dX5_root_2 rfl rfl ?_
      refine X_get K0 12 rfl rfl hin5 8 (by decide) fl_RX5_23 rfl dX5_root_3 ?_
      refine X_iload_n K0 2 dX5_root_6 rfl rfl ?_
      refine X_ialdN K0 15 rfl (by omega) (by first | decide | omega) dX5_root_7 ?_
      refine X_iload_n K0 2 dX5_root_8 rfl rfl ?_
      refine X_icmp_eq K0 22 dX5_root_9 (by decide) (fun h9 => ?_) (fun h9 => ?_)
      · refine X_iload_n K0 2 dX5_root_22 rfl rfl ?_
        exact hr _ _ _ _ ⟨by rw [← hqr, rt_fix h9], rfl⟩ dX5_root_23
      · obtain ⟨z, z1, z2, z3⟩ := uf_at hU hqP hq9 h9
        refine X_aload_n K0 0 dX5_root_12 rfl rfl ?_
        refine X_get K0 12 rfl rfl hin5 8 (by decide) fl_RX5_23 rfl dX5_root_13 ?_
        refine X_iload_n K0 2 dX5_root_16 rfl rfl ?_
        refine X_ialdN K0 15 rfl (by omega) (by first | decide | omega) dX5_root_17 ?_
        refine X_v z2 ?_
        refine X_istore_n (L' := [(2, .int (nI z)), (0, .ref mo), (1, .int (nI p))]) K0 dX5_root_18 rfl (by decide) rfl ?_
        refine X_goto K0 2 dX5_root_19 (by decide) ?_
        refine X.sub [1, 2, 0] (L' := [(0, .ref mo), (1, .int (nI p)), (2, .int (nI z))]) rfl ?_
        exact ih z (by omega) (by omega) z3 ((rt_step hU hP hqP z1 z2 z3).symm.trans hqr)
  exact LOOP p p (Nat.le_refl p) hp hne rfl

set_option maxRecDepth 20000 in
set_option maxHeartbeats 400000 in
theorem m_heapOf (g : Gx) (c0 c1 c2 c3 c4 c5 c6 c7 c8 c9 c10 c11 : Nat × va_E) (mo mki mel mto mio mwy mme mhs mso msr mrs mce mcp : Nat) (tn stt : Int32) (tr : Int64) (R C : Nat) (op hwb : Bool) (kinds elders tof iof wyf mef hsf sof srf rsf cef cpf : Nat → Int32) (rest : va_W) {P : Nat} (hP : P ≤ 25) (hf : Nat → Int32) (hJ : JH tof P hf) (p : Nat) (hp : p < P) : Con g yX5_heapOf cX5_heapOf 2 (some .int) 1 22 0 0 [.ref mo, .int (nI p)] (c0 :: c1 :: c2 :: c3 :: c4 :: c5 :: c6 :: c7 :: c8 :: c9 :: c10 :: c11 :: (mo, oModel tn stt tr (nI R) (nI C) (bI op) mki mel mto mio mwy (bI hwb) mme mhs mso msr mrs mce mcp) :: (mki, aI g 40 kinds) :: (mel, aI g 40 elders) :: (mto, aI g 25 tof) :: (mio, aZ g 40 iof) :: (mwy, aI g 4096 wyf) :: (mme, aZ g 36 mef) :: (mhs, aZ g 3 hsf) :: (mso, aI g 3 sof) :: (msr, aI g 3 srf) :: (mrs, aI g 12 rsf) :: (mce, aI g 480 cef) :: (mcp, aI g 40 cpf) :: rest) (Rs (some (.int (hf p))) (c0 :: c1 :: c2 :: c3 :: c4 :: c5 :: c6 :: c7 :: c8 :: c9 :: c10 :: c11 :: (mo, oModel tn stt tr (nI R) (nI C) (bI op) mki mel mto mio mwy (bI hwb) mme mhs mso msr mrs mce mcp) :: (mki, aI g 40 kinds) :: (mel, aI g 40 elders) :: (mto, aI g 25 tof) :: (mio, aZ g 40 iof) :: (mwy, aI g 4096 wyf) :: (mme, aZ g 36 mef) :: (mhs, aZ g 3 hsf) :: (mso, aI g 3 sof) :: (msr, aI g 3 srf) :: (mrs, aI g 12 rsf) :: (mce, aI g 480 cef) :: (mcp, aI g 40 cpf) :: rest)) := by
  refine Con.ofI (by decide +kernel) (Nat.le_of_ble_eq_true rfl) (fun φ K0 hr => ?_)
  show X φ 0 0 (c0 :: c1 :: c2 :: c3 :: c4 :: c5 :: c6 :: c7 :: c8 :: c9 :: c10 :: c11 :: (mo, oModel tn stt tr (nI R) (nI C) (bI op) mki mel mto mio mwy (bI hwb) mme mhs mso msr mrs mce mcp) :: (mki, aI g 40 kinds) :: (mel, aI g 40 elders) :: (mto, aI g 25 tof) :: (mio, aZ g 40 iof) :: (mwy, aI g 4096 wyf) :: (mme, aZ g 36 mef) :: (mhs, aZ g 3 hsf) :: (mso, aI g 3 sof) :: (msr, aI g 3 srf) :: (mrs, aI g 12 rsf) :: (mce, aI g 480 cef) :: (mcp, aI g 40 cpf) :: rest) [(0, .ref mo), (1, .int (nI p))] 0 []
  refine X_aload_n K0 0 dX5_heapOf_0 rfl rfl ?_
  refine X_get K0 12 rfl rfl hin5 8 (by decide) fl_RX5_23 rfl dX5_heapOf_1 ?_
  refine X_iload_n K0 1 dX5_heapOf_4 rfl rfl ?_
  refine X_ialdN K0 15 rfl (by omega) (by first | decide | omega) dX5_heapOf_5 ?_
  refine X_bipush (v := (-9)) K0 dX5_heapOf_6 (by decide) ?_
  refine X_icmp_ne K0 16 dX5_heapOf_8 (by decide) (fun h8 => ?_) (fun h8 => ?_)
  · refine X_aload_n K0 0 dX5_heapOf_16 rfl rfl ?_
    refine X_iload_n K0 1 dX5_heapOf_17 rfl rfl ?_
    refine X_callV (As := [.int (nI p)]) (rest := []) K0 12 (m_root g c0 c1 c2 c3 c4 c5 c6 c7 c8 c9 c10 c11 mo mki mel mto mio mwy mme mhs mso msr mrs mce mcp tn stt tr R C op hwb kinds elders tof iof wyf mef hsf sof srf rsf cef cpf rest hP hJ.1 p hp h8) mi_X5_root rfl rfl rfl ml_RX5_126 rfl (Nat.le_of_ble_eq_true rfl) (by decide) ⟨Nat.le_of_ble_eq_true rfl, Nat.le_of_ble_eq_true rfl⟩ rfl rfl dX5_heapOf_18 ?_
    intro v w' hr'; obtain ⟨rfl, rfl⟩ := hr'
    show X φ 0 0 (c0 :: c1 :: c2 :: c3 :: c4 :: c5 :: c6 :: c7 :: c8 :: c9 :: c10 :: c11 :: (mo, oModel tn stt tr (nI R) (nI C) (bI op) mki mel mto mio mwy (bI hwb) mme mhs mso msr mrs mce mcp) :: (mki, aI g 40 kinds) :: (mel, aI g 40 elders) :: (mto, aI g 25 tof) :: (mio, aZ g 40 iof) :: (mwy, aI g 4096 wyf) :: (mme, aZ g 36 mef) :: (mhs, aZ g 3 hsf) :: (mso, aI g 3 sof) :: (msr, aI g 3 srf) :: (mrs, aI g 12 rsf) :: (mce, aI g 480 cef) :: (mcp, aI g 40 cpf) :: rest) [(0, .ref mo), (1, .int (nI p))] 21 [.int (nI (rt tof p))]
    exact hr _ _ _ _ ⟨by first | (rw [← hJ.2 p hp, hoF, if_neg h8]) | (rw [← hJ.2 p hp, hoF, if_pos h8]), rfl⟩ dX5_heapOf_21
  · refine X_bipush (v := (-9)) K0 dX5_heapOf_11 (by decide) ?_
    refine X_goto K0 21 dX5_heapOf_13 (by decide) ?_
    exact hr _ _ _ _ ⟨by first | (rw [← hJ.2 p hp, hoF, if_neg h8]) | (rw [← hJ.2 p hp, hoF, if_pos h8]), rfl⟩ dX5_heapOf_21

set_option maxRecDepth 20000 in
set_option maxHeartbeats 400000 in
theorem m_joins (g : Gx) (c0 c1 c2 c3 c4 c5 c6 c7 c8 c9 c10 c11 : Nat × va_E) (mo mki mel mto mio mwy mme mhs mso msr mrs mce mcp : Nat) (tn stt : Int32) (tr : Int64) (R C : Nat) (op hwb : Bool) (kinds elders tof iof wyf mef hsf sof srf rsf cef cpf : Nat → Int32) (rest : va_W) (hR : 1 ≤ R ∧ R ≤ 5) (hC : 1 ≤ C ∧ C ≤ 5) (hKI : KI (thM R C op) kinds elders) (se : Int32) : Con g yX5_joins cX5_joins 7 none 3 60 0 0 [.ref mo, .int se] (c0 :: c1 :: c2 :: c3 :: c4 :: c5 :: c6 :: c7 :: c8 :: c9 :: c10 :: c11 :: (mo, oModel tn stt tr (nI R) (nI C) (bI op) mki mel mto mio mwy (bI hwb) mme mhs mso msr mrs mce mcp) :: (mki, aI g 40 kinds) :: (mel, aI g 40 elders) :: (mto, aI g 25 tof) :: (mio, aZ g 40 iof) :: (mwy, aI g 4096 wyf) :: (mme, aZ g 36 mef) :: (mhs, aZ g 3 hsf) :: (mso, aI g 3 sof) :: (msr, aI g 3 srf) :: (mrs, aI g 12 rsf) :: (mce, aI g 480 cef) :: (mcp, aI g 40 cpf) :: rest) (Rs none (c0 :: c1 :: c2 :: c3 :: c4 :: c5 :: c6 :: c7 :: c8 :: c9 :: c10 :: c11 :: (mo, oModel tn stt tr (nI R) (nI C) (bI op) mki mel mto mio mwy (bI hwb) mme mhs mso msr mrs mce mcp) :: (mki, aI g 40 kinds) :: (mel, aI g 40 elders) :: (mto, aI g 25 (ovr (R * C) (jC R C op (ioC kinds elders se) (rdM R C)) tof)) :: (mio, aZ g 40 (ovr (thM R C op) (ioC kinds elders se) iof)) :: (mwy, aI g 4096 wyf) :: (mme, aZ g 36 mef) :: (mhs, aZ g 3 hsf) :: (mso, aI g 3 sof) :: (msr, aI g 3 srf) :: (mrs, aI g 12 rsf) :: (mce, aI g 480 cef) :: (mcp, aI g 40 cpf) :: rest)) := by
  have hTM := th_M (op := op) hR hC
  have hPM := pl_M hR hC
  have hRM := rd_M hR hC
  refine Con.ofV (by decide +kernel) (Nat.le_of_ble_eq_true rfl) (fun φ K0 hr => ?_)
  show X φ 0 0 (c0 :: c1 :: c2 :: c3 :: c4 :: c5 :: c6 :: c7 :: c8 :: c9 :: c10 :: c11 :: (mo, oModel tn stt tr (nI R) (nI C) (bI op) mki mel mto mio mwy (bI hwb) mme mhs mso msr mrs mce mcp) :: (mki, aI g 40 kinds) :: (mel, aI g 40 elders) :: (mto, aI g 25 tof) :: (mio, aZ g 40 iof) :: (mwy, aI g 4096 wyf) :: (mme, aZ g 36 mef) :: (mhs, aZ g 3 hsf) :: (mso, aI g 3 sof) :: (msr, aI g 3 srf) :: (mrs, aI g 12 rsf) :: (mce, aI g 480 cef) :: (mcp, aI g 40 cpf) :: rest) [(0, .ref mo), (1, .int se)] 0 []
  refine X_iconst (v := 0) K0 dX5_joins_0 (by decide) ?_
  refine X_istore_n (L' := [(2, .int 0), (0, .ref mo), (1, .int se)]) K0 dX5_joins_1 rfl (by decide) rfl ?_
  refine X.sub [1, 2, 0] (L' := [(0, .ref mo), (1, .int se), (2, .int 0)]) rfl ?_
  have LOOPa : ∀ (dda iia : Nat), iia + dda = (thM R C op) → X φ 0 0 (c0 :: c1 :: c2 :: c3 :: c4 :: c5 :: c6 :: c7 :: c8 :: c9 :: c10 :: c11 :: (mo, oModel tn stt tr (nI R) (nI C) (bI op) mki mel mto mio mwy (bI hwb) mme mhs mso msr mrs mce mcp) :: (mki, aI g 40 kinds) :: (mel, aI g 40 elders) :: (mto, aI g 25 tof) :: (mio, aZ g 40 (ovr iia (ioC kinds elders se) iof)) :: (mwy, aI g 4096 wyf) :: (mme, aZ g 36 mef) :: (mhs, aZ g 3 hsf) :: (mso, aI g 3 sof) :: (msr, aI g 3 srf) :: (mrs, aI g 12 rsf) :: (mce, aI g 480 cef) :: (mcp, aI g 40 cpf) :: rest) [(0, .ref mo), (1, .int se), (2, .int (nI iia))] 2 [] := by
    intro dda
    induction dda with
    | zero =>
      intro iia hiia 
      have hii2a : (thM R C op) = iia := by omega
      subst hii2a
      refine X_iload_n K0 2 dX5_joins_2 rfl rfl ?_
      refine X_aload_n K0 0 dX5_joins_3 rfl rfl ?_
      refine X_callV (As := []) (rest := [.int (nI (thM R C op))]) K0 12 (m_things g c0 c1 c2 c3 c4 c5 c6 c7 c8 c9 c10 c11 mo mki mel mto mio mwy mme mhs mso msr mrs mce mcp tn stt tr R C op hwb kinds elders tof (ovr (thM R C op) (ioC kinds elders se) iof) wyf mef hsf sof srf rsf cef cpf rest hR hC ) mi_X5_things rfl rfl rfl ml_RX5_78 rfl (Nat.le_of_ble_eq_true rfl) (by decide) ⟨Nat.le_of_ble_eq_true rfl, Nat.le_of_ble_eq_true rfl⟩ rfl rfl dX5_joins_4 ?_
      intro v w' hr'; obtain ⟨rfl, rfl⟩ := hr'
      show X φ 0 0 (c0 :: c1 :: c2 :: c3 :: c4 :: c5 :: c6 :: c7 :: c8 :: c9 :: c10 :: c11 :: (mo, oModel tn stt tr (nI R) (nI C) (bI op) mki mel mto mio mwy (bI hwb) mme mhs mso msr mrs mce mcp) :: (mki, aI g 40 kinds) :: (mel, aI g 40 elders) :: (mto, aI g 25 tof) :: (mio, aZ g 40 (ovr (thM R C op) (ioC kinds elders se) iof)) :: (mwy, aI g 4096 wyf) :: (mme, aZ g 36 mef) :: (mhs, aZ g 3 hsf) :: (mso, aI g 3 sof) :: (msr, aI g 3 srf) :: (mrs, aI g 12 rsf) :: (mce, aI g 480 cef) :: (mcp, aI g 40 cpf) :: rest) [(0, .ref mo), (1, .int se), (2, .int (nI (thM R C op)))] 7 [.int (nI (thM R C op)), .int (nI (thM R C op))]
      refine X_icmp_ge K0 28 dX5_joins_7 (by decide) (fun h7 => ?_) (fun h7 => ?_)
      · refine X_iconst (v := 0) K0 dX5_joins_28 (by decide) ?_
        refine X_istore_n (L' := [(2, .int 0), (0, .ref mo), (1, .int se)]) K0 dX5_joins_29 rfl (by decide) rfl ?_
        refine X.sub [1, 2, 0] (L' := [(0, .ref mo), (1, .int se), (2, .int 0)]) rfl ?_
        have LOOPb : ∀ (ddb iib : Nat), iib + ddb = (R * C) → X φ 0 0 (c0 :: c1 :: c2 :: c3 :: c4 :: c5 :: c6 :: c7 :: c8 :: c9 :: c10 :: c11 :: (mo, oModel tn stt tr (nI R) (nI C) (bI op) mki mel mto mio mwy (bI hwb) mme mhs mso msr mrs mce mcp) :: (mki, aI g 40 kinds) :: (mel, aI g 40 elders) :: (mto, aI g 25 (ovr iib (to0 op (ioC kinds elders se)) tof)) :: (mio, aZ g 40 (ovr (thM R C op) (ioC kinds elders se) iof)) :: (mwy, aI g 4096 wyf) :: (mme, aZ g 36 mef) :: (mhs, aZ g 3 hsf) :: (mso, aI g 3 sof) :: (msr, aI g 3 srf) :: (mrs, aI g 12 rsf) :: (mce, aI g 480 cef) :: (mcp, aI g 40 cpf) :: rest) [(0, .ref mo), (1, .int se), (2, .int (nI iib))] 30 [] := by
          intro ddb
          induction ddb with
          | zero =>
            intro iib hiib 
            have hii2b : (R * C) = iib := by omega
            subst hii2b
            refine X_iload_n K0 2 dX5_joins_30 rfl rfl ?_
            refine X_aload_n K0 0 dX5_joins_31 rfl rfl ?_
            refine X_callV (As := []) (rest := [.int (nI (R * C))]) K0 12 (m_places g c0 c1 c2 c3 c4 c5 c6 c7 c8 c9 c10 c11 mo mki mel mto mio mwy mme mhs mso msr mrs mce mcp tn stt tr R C op hwb kinds elders (ovr (R * C) (to0 op (ioC kinds elders se)) tof) (ovr (thM R C op) (ioC kinds elders se) iof) wyf mef hsf sof srf rsf cef cpf rest hR hC ) mi_X5_places rfl rfl rfl ml_RX5_72 rfl (Nat.le_of_ble_eq_true rfl) (by decide) ⟨Nat.le_of_ble_eq_true rfl, Nat.le_of_ble_eq_true rfl⟩ rfl rfl dX5_joins_32 ?_
            intro v w' hr'; obtain ⟨rfl, rfl⟩ := hr'
            show X φ 0 0 (c0 :: c1 :: c2 :: c3 :: c4 :: c5 :: c6 :: c7 :: c8 :: c9 :: c10 :: c11 :: (mo, oModel tn stt tr (nI R) (nI C) (bI op) mki mel mto mio mwy (bI hwb) mme mhs mso msr mrs mce mcp) :: (mki, aI g 40 kinds) :: (mel, aI g 40 elders) :: (mto, aI g 25 (ovr (R * C) (to0 op (ioC kinds elders se)) tof)) :: (mio, aZ g 40 (ovr (thM R C op) (ioC kinds elders se) iof)) :: (mwy, aI g 4096 wyf) :: (mme, aZ g 36 mef) :: (mhs, aZ g 3 hsf) :: (mso, aI g 3 sof) :: (msr, aI g 3 srf) :: (mrs, aI g 12 rsf) :: (mce, aI g 480 cef) :: (mcp, aI g 40 cpf) :: rest) [(0, .ref mo), (1, .int se), (2, .int (nI (R * C)))] 35 [.int (nI (R * C)), .int (nI (R * C))]
            refine X_icmp_ge K0 72 dX5_joins_35 (by decide) (fun h35 => ?_) (fun h35 => ?_)
            · refine X_iconst (v := 0) K0 dX5_joins_72 (by decide) ?_
              refine X_istore_n (L' := [(2, .int 0), (0, .ref mo), (1, .int se)]) K0 dX5_joins_73 rfl (by decide) rfl ?_
              refine X.sub [1, 2, 0] (L' := [(0, .ref mo), (1, .int se), (2, .int 0)]) rfl ?_
              have LOOPc : ∀ (ddc iic : Nat), iic + ddc = (rdM R C) → X φ 0 0 (c0 :: c1 :: c2 :: c3 :: c4 :: c5 :: c6 :: c7 :: c8 :: c9 :: c10 :: c11 :: (mo, oModel tn stt tr (nI R) (nI C) (bI op) mki mel mto mio mwy (bI hwb) mme mhs mso msr mrs mce mcp) :: (mki, aI g 40 kinds) :: (mel, aI g 40 elders) :: (mto, aI g 25 (ovr (R * C) (jC R C op (ioC kinds elders se) iic) tof)) :: (mio, aZ g 40 (ovr (thM R C op) (ioC kinds elders se) iof)) :: (mwy, aI g 4096 wyf) :: (mme, aZ g 36 mef) :: (mhs, aZ g 3 hsf) :: (mso, aI g 3 sof) :: (msr, aI g 3 srf) :: (mrs, aI g 12 rsf) :: (mce, aI g 480 cef) :: (mcp, aI g 40 cpf) :: rest) [(0, .ref mo), (1, .int se), (2, .int (nI iic))] 74 [] := by
                intro ddc
                induction ddc with
                | zero =>
                  intro iic hiic 
                  have hii2c : (rdM R C) = iic := by omega
                  subst hii2c
                  refine X_iload_n K0 2 dX5_joins_74 rfl rfl ?_
                  refine X_aload_n K0 0 dX5_joins_75 rfl rfl ?_
                  refine X_callV (As := []) (rest := [.int (nI (rdM R C))]) K0 12 (m_roads g c0 c1 c2 c3 c4 c5 c6 c7 c8 c9 c10 c11 mo mki mel mto mio mwy mme mhs mso msr mrs mce mcp tn stt tr R C op hwb kinds elders (ovr (R * C) (jC R C op (ioC kinds elders se) (rdM R C)) tof) (ovr (thM R C op) (ioC kinds elders se) iof) wyf mef hsf sof srf rsf cef cpf rest hR hC ) mi_X5_roads rfl rfl rfl ml_RX5_75 rfl (Nat.le_of_ble_eq_true rfl) (by decide) ⟨Nat.le_of_ble_eq_true rfl, Nat.le_of_ble_eq_true rfl⟩ rfl rfl dX5_joins_76 ?_
                  intro v w' hr'; obtain ⟨rfl, rfl⟩ := hr'
                  show X φ 0 0 (c0 :: c1 :: c2 :: c3 :: c4 :: c5 :: c6 :: c7 :: c8 :: c9 :: c10 :: c11 :: (mo, oModel tn stt tr (nI R) (nI C) (bI op) mki mel mto mio mwy (bI hwb) mme mhs mso msr mrs mce mcp) :: (mki, aI g 40 kinds) :: (mel, aI g 40 elders) :: (mto, aI g 25 (ovr (R * C) (jC R C op (ioC kinds elders se) (rdM R C)) tof)) :: (mio, aZ g 40 (ovr (thM R C op) (ioC kinds elders se) iof)) :: (mwy, aI g 4096 wyf) :: (mme, aZ g 36 mef) :: (mhs, aZ g 3 hsf) :: (mso, aI g 3 sof) :: (msr, aI g 3 srf) :: (mrs, aI g 12 rsf) :: (mce, aI g 480 cef) :: (mcp, aI g 40 cpf) :: rest) [(0, .ref mo), (1, .int se), (2, .int (nI (rdM R C)))] 79 [.int (nI (rdM R C)), .int (nI (rdM R C))]
                  refine X_icmp_ge K0 197 dX5_joins_79 (by decide) (fun h79 => ?_) (fun h79 => ?_)
                  · exact hr _ _ _ ⟨rfl, rfl⟩ dX5_joins_197
                  · exact absurd (nI_le (Nat.le_refl _) (by omega)) h79
                | succ ddc ihc =>
                  intro iic hiic 
                  have hltc : iic < (rdM R C) := by omega
                  refine X_iload_n K0 2 dX5_joins_74 rfl rfl ?_
                  refine X_aload_n K0 0 dX5_joins_75 rfl rfl ?_
                  refine X_callV (As := []) (rest := [.int (nI iic)]) K0 12 (m_roads g c0 c1 c2 c3 c4 c5 c6 c7 c8 c9 c10 c11 mo mki mel mto mio mwy mme mhs mso msr mrs mce mcp tn stt tr R C op hwb kinds elders (ovr (R * C) (jC R C op (ioC kinds elders se) iic) tof) (ovr (thM R C op) (ioC kinds elders se) iof) wyf mef hsf sof srf rsf cef cpf rest hR hC ) mi_X5_roads rfl rfl rfl ml_RX5_75 rfl (Nat.le_of_ble_eq_true rfl) (by decide) ⟨Nat.le_of_ble_eq_true rfl, Nat.le_of_ble_eq_true rfl⟩ rfl rfl dX5_joins_76 ?_
                  intro v w' hr'; obtain ⟨rfl, rfl⟩ := hr'
                  show X φ 0 0 (c0 :: c1 :: c2 :: c3 :: c4 :: c5 :: c6 :: c7 :: c8 :: c9 :: c10 :: c11 :: (mo, oModel tn stt tr (nI R) (nI C) (bI op) mki mel mto mio mwy (bI hwb) mme mhs mso msr mrs mce mcp) :: (mki, aI g 40 kinds) :: (mel, aI g 40 elders) :: (mto, aI g 25 (ovr (R * C) (jC R C op (ioC kinds elders se) iic) tof)) :: (mio, aZ g 40 (ovr (thM R C op) (ioC kinds elders se) iof)) :: (mwy, aI g 4096 wyf) :: (mme, aZ g 36 mef) :: (mhs, aZ g 3 hsf) :: (mso, aI g 3 sof) :: (msr, aI g 3 srf) :: (mrs, aI g 12 rsf) :: (mce, aI g 480 cef) :: (mcp, aI g 40 cpf) :: rest) [(0, .ref mo), (1, .int se), (2, .int (nI iic))] 79 [.int (nI (rdM R C)), .int (nI iic)]
                  refine X_icmp_ge K0 197 dX5_joins_79 (by decide) (fun h79 => ?_) (fun h79 => ?_)
                  · exact absurd h79 (nI_ge hltc (by omega))
                  · refine X_aload_n K0 0 dX5_joins_82 rfl rfl ?_
                    refine X_iload_n K0 2 dX5_joins_83 rfl rfl ?_
                    refine X_iconst (v := 0) K0 dX5_joins_84 (by decide) ?_
                    refine X_callV (As := [.int (nI iic), .int 0]) (rest := []) K0 12 (m_end g c0 c1 c2 c3 c4 c5 c6 c7 c8 c9 c10 c11 mo mki mel mto mio mwy mme mhs mso msr mrs mce mcp tn stt tr R C op hwb kinds elders (ovr (R * C) (jC R C op (ioC kinds elders se) iic) tof) (ovr (thM R C op) (ioC kinds elders se) iof) wyf mef hsf sof srf rsf cef cpf rest hR hC iic (by omega) false) mi_X5_end rfl rfl rfl ml_RX5_103 rfl (Nat.le_of_ble_eq_true rfl) (by decide) ⟨Nat.le_of_ble_eq_true rfl, Nat.le_of_ble_eq_true rfl⟩ rfl rfl dX5_joins_85 ?_
                    intro v w' hr'; obtain ⟨rfl, rfl⟩ := hr'
                    show X φ 0 0 (c0 :: c1 :: c2 :: c3 :: c4 :: c5 :: c6 :: c7 :: c8 :: c9 :: c10 :: c11 :: (mo, oModel tn stt tr (nI R) (nI C) (bI op) mki mel mto mio mwy (bI hwb) mme mhs mso msr mrs mce mcp) :: (mki, aI g 40 kinds) :: (mel, aI g 40 elders) :: (mto, aI g 25 (ovr (R * C) (jC R C op (ioC kinds elders se) iic) tof)) :: (mio, aZ g 40 (ovr (thM R C op) (ioC kinds elders se) iof)) :: (mwy, aI g 4096 wyf) :: (mme, aZ g 36 mef) :: (mhs, aZ g 3 hsf) :: (mso, aI g 3 sof) :: (msr, aI g 3 srf) :: (mrs, aI g 12 rsf) :: (mce, aI g 480 cef) :: (mcp, aI g 40 cpf) :: rest) [(0, .ref mo), (1, .int se), (2, .int (nI iic))] 88 [.int (nI (enM R C iic false))]
                    refine X_istore_n (L' := [(3, .int (nI (enM R C iic false))), (0, .ref mo), (1, .int se), (2, .int (nI iic))]) K0 dX5_joins_88 rfl (by decide) rfl ?_
                    refine X_aload_n K0 1 dX5_joins_89 rfl rfl ?_
                    refine X_iload_n K0 3 dX5_joins_90 rfl rfl ?_
                    refine X_iconst (v := 1) K0 dX5_joins_91 (by decide) ?_
                    refine X_callV (As := [.int (nI iic), .int 1]) (rest := []) K0 12 (m_end g c0 c1 c2 c3 c4 c5 c6 c7 c8 c9 c10 c11 mo mki mel mto mio mwy mme mhs mso msr mrs mce mcp tn stt tr R C op hwb kinds elders (ovr (R * C) (jC R C op (ioC kinds elders se) iic) tof) (ovr (thM R C op) (ioC kinds elders se) iof) wyf mef hsf sof srf rsf cef cpf rest hR hC iic (by omega) true) mi_X5_end rfl rfl rfl ml_RX5_103 rfl (Nat.le_of_ble_eq_true rfl) (by decide) ⟨Nat.le_of_ble_eq_true rfl, Nat.le_of_ble_eq_true rfl⟩ rfl rfl dX5_joins_92 ?_
                    intro v w' hr'; obtain ⟨rfl, rfl⟩ := hr'
                    show X φ 0 0 (c0 :: c1 :: c2 :: c3 :: c4 :: c5 :: c6 :: c7 :: c8 :: c9 :: c10 :: c11 :: (mo, oModel tn stt tr (nI R) (nI C) (bI op) mki mel mto mio mwy (bI hwb) mme mhs mso msr mrs mce mcp) :: (mki, aI g 40 kinds) :: (mel, aI g 40 elders) :: (mto, aI g 25 (ovr (R * C) (jC R C op (ioC kinds elders se) iic) tof)) :: (mio, aZ g 40 (ovr (thM R C op) (ioC kinds elders se) iof)) :: (mwy, aI g 4096 wyf) :: (mme, aZ g 36 mef) :: (mhs, aZ g 3 hsf) :: (mso, aI g 3 sof) :: (msr, aI g 3 srf) :: (mrs, aI g 12 rsf) :: (mce, aI g 480 cef) :: (mcp, aI g 40 cpf) :: rest) [(3, .int (nI (enM R C iic false))), (0, .ref mo), (1, .int se), (2, .int (nI iic))] 95 [.int (nI (enM R C iic true))]
                    refine X_istore (L' := [(4, .int (nI (enM R C iic true))), (3, .int (nI (enM R C iic false))), (0, .ref mo), (1, .int se), (2, .int (nI iic))]) K0 dX5_joins_95 (by decide) rfl ?_
                    refine X_aload_n K0 2 dX5_joins_97 rfl rfl ?_
                    refine X_get K0 12 rfl rfl hin5 8 (by decide) fl_RX5_23 rfl dX5_joins_98 ?_
                    refine X_iload_n K0 1 dX5_joins_101 rfl rfl ?_
                    refine X_ialdN K0 15 rfl (Nat.lt_of_lt_of_le (en_lt hR hC hltc _) (pl_M hR hC)) (by first | decide | omega) dX5_joins_102 ?_
                    refine X_bipush (v := (-9)) K0 dX5_joins_103 (by decide) ?_
                    refine X_icmp_eq K0 191 dX5_joins_105 (by decide) (fun h105 => ?_) (fun h105 => ?_)
                    · refine X_iinc (v := ((nI iic) + 1)) (L' := [(2, .int ((nI iic) + 1)), (4, .int (nI (enM R C iic true))), (3, .int (nI (enM R C iic false))), (0, .ref mo), (1, .int se)]) K0 4 dX5_joins_191 rfl (by first | rfl | decide) (by decide) rfl ?_
                      refine X_goto K0 74 dX5_joins_194 (by decide) ?_
                      refine X.sub [3, 4, 0] (L' := [(0, .ref mo), (1, .int se), (2, .int ((nI iic) + 1))]) rfl ?_
                      exact X_eq (by first | rfl | (rw [show jC R C op (ioC kinds elders se) (iic + 1) = jC R C op (ioC kinds elders se) iic from jS_n1 (ovr_e (en_lt hR hC hltc false) h105)]) | (rw [show jC R C op (ioC kinds elders se) (iic + 1) = jC R C op (ioC kinds elders se) iic from jS_n2 (ovr_e (en_lt hR hC hltc true) h117)]) | (rw [show jC R C op (ioC kinds elders se) (iic + 1) = jC R C op (ioC kinds elders se) iic from jS_n3 (bI_0.mp h124) h133]) | (rw [show jC R C op (ioC kinds elders se) (iic + 1) = jC R C op (ioC kinds elders se) iic from jS_e (hx.trans (((nI_eq hx31 hy31).mp h155).trans hy.symm))])) (by rw [nI_succ] <;> rfl) rfl (ihc (iic + 1) (by omega))
                    · refine X_aload_n K0 2 dX5_joins_108 rfl rfl ?_
                      refine X_get K0 12 rfl rfl hin5 8 (by decide) fl_RX5_23 rfl dX5_joins_109 ?_
                      refine X_iload K0 0 dX5_joins_112 rfl ?_
                      refine X_ialdN K0 15 rfl (Nat.lt_of_lt_of_le (en_lt hR hC hltc _) (pl_M hR hC)) (by first | decide | omega) dX5_joins_114 ?_
                      refine X_bipush (v := (-9)) K0 dX5_joins_115 (by decide) ?_
                      refine X_icmp_eq K0 191 dX5_joins_117 (by decide) (fun h117 => ?_) (fun h117 => ?_)
                      · refine X_iinc (v := ((nI iic) + 1)) (L' := [(2, .int ((nI iic) + 1)), (4, .int (nI (enM R C iic true))), (3, .int (nI (enM R C iic false))), (0, .ref mo), (1, .int se)]) K0 4 dX5_joins_191 rfl (by first | rfl | decide) (by decide) rfl ?_
                        refine X_goto K0 74 dX5_joins_194 (by decide) ?_
                        refine X.sub [3, 4, 0] (L' := [(0, .ref mo), (1, .int se), (2, .int ((nI iic) + 1))]) rfl ?_
                        exact X_eq (by first | rfl | (rw [show jC R C op (ioC kinds elders se) (iic + 1) = jC R C op (ioC kinds elders se) iic from jS_n1 (ovr_e (en_lt hR hC hltc false) h105)]) | (rw [show jC R C op (ioC kinds elders se) (iic + 1) = jC R C op (ioC kinds elders se) iic from jS_n2 (ovr_e (en_lt hR hC hltc true) h117)]) | (rw [show jC R C op (ioC kinds elders se) (iic + 1) = jC R C op (ioC kinds elders se) iic from jS_n3 (bI_0.mp h124) h133]) | (rw [show jC R C op (ioC kinds elders se) (iic + 1) = jC R C op (ioC kinds elders se) iic from jS_e (hx.trans (((nI_eq hx31 hy31).mp h155).trans hy.symm))])) (by rw [nI_succ] <;> rfl) rfl (ihc (iic + 1) (by omega))
                      · refine X_aload_n K0 2 dX5_joins_120 rfl rfl ?_
                        refine X_get K0 12 rfl rfl hin5 5 (by decide) fl_RX5_69 rfl dX5_joins_121 ?_
                        refine X_if_ne K0 136 dX5_joins_124 (by decide) (fun h124 => ?_) (fun h124 => ?_)
                        · refine X_aload_n K0 2 dX5_joins_136 rfl rfl ?_
                          refine X_iload_n K0 1 dX5_joins_137 rfl rfl ?_
                          refine X_callV (As := [.int (nI (enM R C iic false))]) (rest := []) K0 12 (m_root g c0 c1 c2 c3 c4 c5 c6 c7 c8 c9 c10 c11 mo mki mel mto mio mwy mme mhs mso msr mrs mce mcp tn stt tr R C op hwb kinds elders (ovr (R * C) (jC R C op (ioC kinds elders se) iic) tof) (ovr (thM R C op) (ioC kinds elders se) iof) wyf mef hsf sof srf rsf cef cpf rest (pl_M hR hC) (ovr_uf (jC_uf hR hC op _ iic (by omega))) (enM R C iic false) (en_lt hR hC hltc _) (by first | exact h105 | exact h117)) mi_X5_root rfl rfl rfl ml_RX5_126 rfl (Nat.le_of_ble_eq_true rfl) (by decide) ⟨Nat.le_of_ble_eq_true rfl, Nat.le_of_ble_eq_true rfl⟩ rfl rfl dX5_joins_138 ?_
                          intro v w' hr'; obtain ⟨rfl, rfl⟩ := hr'
                          show X φ 0 0 (c0 :: c1 :: c2 :: c3 :: c4 :: c5 :: c6 :: c7 :: c8 :: c9 :: c10 :: c11 :: (mo, oModel tn stt tr (nI R) (nI C) (bI op) mki mel mto mio mwy (bI hwb) mme mhs mso msr mrs mce mcp) :: (mki, aI g 40 kinds) :: (mel, aI g 40 elders) :: (mto, aI g 25 (ovr (R * C) (jC R C op (ioC kinds elders se) iic) tof)) :: (mio, aZ g 40 (ovr (thM R C op) (ioC kinds elders se) iof)) :: (mwy, aI g 4096 wyf) :: (mme, aZ g 36 mef) :: (mhs, aZ g 3 hsf) :: (mso, aI g 3 sof) :: (msr, aI g 3 srf) :: (mrs, aI g 12 rsf) :: (mce, aI g 480 cef) :: (mcp, aI g 40 cpf) :: rest) [(4, .int (nI (enM R C iic true))), (3, .int (nI (enM R C iic false))), (0, .ref mo), (1, .int se), (2, .int (nI iic))] 141 [.int (nI (rt (ovr (R * C) (jC R C op (ioC kinds elders se) iic) tof) (enM R C iic false)))]
                          obtain ⟨x, hx⟩ : ∃ z, rt (jC R C op (ioC kinds elders se) iic) (enM R C iic false) = z := ⟨_, rfl⟩
                          have hxr := rt_spec (jC_uf hR hC op (ioC kinds elders se) iic (by omega)) (pl_M hR hC) (enM R C iic false) (en_lt hR hC hltc _) (ovr_ne (en_lt hR hC hltc false) h105)
                          rw [hx] at hxr
                          have hxl := en_lt hR hC hltc false
                          have hx31 : x < 2 ^ 31 := by omega
                          refine X_v (z := (nI x)) (congrArg nI ((ovr_rt (jC_uf hR hC op (ioC kinds elders se) iic (by omega)) (pl_M hR hC) _ (en_lt hR hC hltc _) (ovr_ne (en_lt hR hC hltc false) h105)).trans hx)) ?_
                          refine X_istore (L' := [(5, .int (nI x)), (4, .int (nI (enM R C iic true))), (3, .int (nI (enM R C iic false))), (0, .ref mo), (1, .int se), (2, .int (nI iic))]) K0 dX5_joins_141 (by decide) rfl ?_
                          refine X_aload_n K0 3 dX5_joins_143 rfl rfl ?_
                          refine X_iload K0 1 dX5_joins_144 rfl ?_
                          refine X_callV (As := [.int (nI (enM R C iic true))]) (rest := []) K0 12 (m_root g c0 c1 c2 c3 c4 c5 c6 c7 c8 c9 c10 c11 mo mki mel mto mio mwy mme mhs mso msr mrs mce mcp tn stt tr R C op hwb kinds elders (ovr (R * C) (jC R C op (ioC kinds elders se) iic) tof) (ovr (thM R C op) (ioC kinds elders se) iof) wyf mef hsf sof srf rsf cef cpf rest (pl_M hR hC) (ovr_uf (jC_uf hR hC op _ iic (by omega))) (enM R C iic true) (en_lt hR hC hltc _) (by first | exact h105 | exact h117)) mi_X5_root rfl rfl rfl ml_RX5_126 rfl (Nat.le_of_ble_eq_true rfl) (by decide) ⟨Nat.le_of_ble_eq_true rfl, Nat.le_of_ble_eq_true rfl⟩ rfl rfl dX5_joins_146 ?_
                          intro v w' hr'; obtain ⟨rfl, rfl⟩ := hr'
                          show X φ 0 0 (c0 :: c1 :: c2 :: c3 :: c4 :: c5 :: c6 :: c7 :: c8 :: c9 :: c10 :: c11 :: (mo, oModel tn stt tr (nI R) (nI C) (bI op) mki mel mto mio mwy (bI hwb) mme mhs mso msr mrs mce mcp) :: (mki, aI g 40 kinds) :: (mel, aI g 40 elders) :: (mto, aI g 25 (ovr (R * C) (jC R C op (ioC kinds elders se) iic) tof)) :: (mio, aZ g 40 (ovr (thM R C op) (ioC kinds elders se) iof)) :: (mwy, aI g 4096 wyf) :: (mme, aZ g 36 mef) :: (mhs, aZ g 3 hsf) :: (mso, aI g 3 sof) :: (msr, aI g 3 srf) :: (mrs, aI g 12 rsf) :: (mce, aI g 480 cef) :: (mcp, aI g 40 cpf) :: rest) [(5, .int (nI x)), (4, .int (nI (enM R C iic true))), (3, .int (nI (enM R C iic false))), (0, .ref mo), (1, .int se), (2, .int (nI iic))] 149 [.int (nI (rt (ovr (R * C) (jC R C op (ioC kinds elders se) iic) tof) (enM R C iic true)))]
                          obtain ⟨y, hy⟩ : ∃ z, rt (jC R C op (ioC kinds elders se) iic) (enM R C iic true) = z := ⟨_, rfl⟩
                          have hyr := rt_spec (jC_uf hR hC op (ioC kinds elders se) iic (by omega)) (pl_M hR hC) (enM R C iic true) (en_lt hR hC hltc _) (ovr_ne (en_lt hR hC hltc true) h117)
                          rw [hy] at hyr
                          have hyl := en_lt hR hC hltc true
                          have hy31 : y < 2 ^ 31 := by omega
                          refine X_v (z := (nI y)) (congrArg nI ((ovr_rt (jC_uf hR hC op (ioC kinds elders se) iic (by omega)) (pl_M hR hC) _ (en_lt hR hC hltc _) (ovr_ne (en_lt hR hC hltc true) h117)).trans hy)) ?_
                          refine X_istore (L' := [(6, .int (nI y)), (5, .int (nI x)), (4, .int (nI (enM R C iic true))), (3, .int (nI (enM R C iic false))), (0, .ref mo), (1, .int se), (2, .int (nI iic))]) K0 dX5_joins_149 (by decide) rfl ?_
                          refine X_iload K0 1 dX5_joins_151 rfl ?_
                          refine X_iload K0 0 dX5_joins_153 rfl ?_
                          refine X_icmp_eq K0 191 dX5_joins_155 (by decide) (fun h155 => ?_) (fun h155 => ?_)
                          · refine X_iinc (v := ((nI iic) + 1)) (L' := [(2, .int ((nI iic) + 1)), (6, .int (nI y)), (5, .int (nI x)), (4, .int (nI (enM R C iic true))), (3, .int (nI (enM R C iic false))), (0, .ref mo), (1, .int se)]) K0 6 dX5_joins_191 rfl (by first | rfl | decide) (by decide) rfl ?_
                            refine X_goto K0 74 dX5_joins_194 (by decide) ?_
                            refine X.sub [5, 6, 0] (L' := [(0, .ref mo), (1, .int se), (2, .int ((nI iic) + 1))]) rfl ?_
                            exact X_eq (by first | rfl | (rw [show jC R C op (ioC kinds elders se) (iic + 1) = jC R C op (ioC kinds elders se) iic from jS_n1 (ovr_e (en_lt hR hC hltc false) h105)]) | (rw [show jC R C op (ioC kinds elders se) (iic + 1) = jC R C op (ioC kinds elders se) iic from jS_n2 (ovr_e (en_lt hR hC hltc true) h117)]) | (rw [show jC R C op (ioC kinds elders se) (iic + 1) = jC R C op (ioC kinds elders se) iic from jS_n3 (bI_0.mp h124) h133]) | (rw [show jC R C op (ioC kinds elders se) (iic + 1) = jC R C op (ioC kinds elders se) iic from jS_e (hx.trans (((nI_eq hx31 hy31).mp h155).trans hy.symm))])) (by rw [nI_succ] <;> rfl) rfl (ihc (iic + 1) (by omega))
                          · refine X_aload_n K0 4 dX5_joins_158 rfl rfl ?_
                            refine X_get K0 12 rfl rfl hin5 8 (by decide) fl_RX5_23 rfl dX5_joins_159 ?_
                            refine X_iload K0 1 dX5_joins_162 rfl ?_
                            refine X_iload K0 0 dX5_joins_164 rfl ?_
                            refine X_icmp_le K0 174 dX5_joins_166 (by decide) (fun h166 => ?_) (fun h166 => ?_)
                            · refine X_iload K0 0 dX5_joins_174 rfl ?_
                              refine X_iload K0 1 dX5_joins_176 rfl ?_
                              refine X_iload K0 0 dX5_joins_178 rfl ?_
                              refine X_icmp_ge K0 188 dX5_joins_180 (by decide) (fun h180 => ?_) (fun h180 => ?_)
                              · refine X_iload K0 0 dX5_joins_188 rfl ?_
                                have hxy : ¬ x = y := fun q => h155 (by rw [q])
                                have hst : upd (ovr (R * C) (jC R C op (ioC kinds elders se) iic) tof) y (nI y) = (ovr (R * C) (jC R C op (ioC kinds elders se) (iic + 1)) tof) := by
                                  have hu : y = if x ≤ y then y else x := by first | exact (if_pos (nle h166 hx31 hy31)).symm | exact (if_neg (nnle h166 hx31 hy31)).symm
                                  have hv : y = if y ≤ x then y else x := by first | exact (if_pos (nle h180 hy31 hx31)).symm | exact (if_neg (nnle h180 hy31 hx31)).symm
                                  rw [ovr_upd (by omega)]
                                  rw [show jC R C op (ioC kinds elders se) (iic + 1) = _ from (jS_y hx hy (ovr_ne (en_lt hR hC hltc false) h105) (ovr_ne (en_lt hR hC hltc true) h117) (by first | exact Or.inl (bI_n0.mp h124) | exact Or.inr h133) hxy hu hv).symm]
                                refine X_iastN (w' := (c0 :: c1 :: c2 :: c3 :: c4 :: c5 :: c6 :: c7 :: c8 :: c9 :: c10 :: c11 :: (mo, oModel tn stt tr (nI R) (nI C) (bI op) mki mel mto mio mwy (bI hwb) mme mhs mso msr mrs mce mcp) :: (mki, aI g 40 kinds) :: (mel, aI g 40 elders) :: (mto, aI g 25 (ovr (R * C) (jC R C op (ioC kinds elders se) (iic + 1)) tof)) :: (mio, aZ g 40 (ovr (thM R C op) (ioC kinds elders se) iof)) :: (mwy, aI g 4096 wyf) :: (mme, aZ g 36 mef) :: (mhs, aZ g 3 hsf) :: (mso, aI g 3 sof) :: (msr, aI g 3 srf) :: (mrs, aI g 12 rsf) :: (mce, aI g 480 cef) :: (mcp, aI g 40 cpf) :: rest)) K0 15 rfl (by omega) (by decide) dX5_joins_190 (by rw [hst]; rfl) ?_
                                refine X_iinc (v := ((nI iic) + 1)) (L' := [(2, .int ((nI iic) + 1)), (6, .int (nI y)), (5, .int (nI x)), (4, .int (nI (enM R C iic true))), (3, .int (nI (enM R C iic false))), (0, .ref mo), (1, .int se)]) K0 6 dX5_joins_191 rfl (by first | rfl | decide) (by decide) rfl ?_
                                refine X_goto K0 74 dX5_joins_194 (by decide) ?_
                                refine X.sub [5, 6, 0] (L' := [(0, .ref mo), (1, .int se), (2, .int ((nI iic) + 1))]) rfl ?_
                                exact X_eq (by first | rfl | (rw [show jC R C op (ioC kinds elders se) (iic + 1) = jC R C op (ioC kinds elders se) iic from jS_n1 (ovr_e (en_lt hR hC hltc false) h105)]) | (rw [show jC R C op (ioC kinds elders se) (iic + 1) = jC R C op (ioC kinds elders se) iic from jS_n2 (ovr_e (en_lt hR hC hltc true) h117)]) | (rw [show jC R C op (ioC kinds elders se) (iic + 1) = jC R C op (ioC kinds elders se) iic from jS_n3 (bI_0.mp h124) h133]) | (rw [show jC R C op (ioC kinds elders se) (iic + 1) = jC R C op (ioC kinds elders se) iic from jS_e (hx.trans (((nI_eq hx31 hy31).mp h155).trans hy.symm))])) (by rw [nI_succ] <;> rfl) rfl (ihc (iic + 1) (by omega))
                              · refine X_iload K0 1 dX5_joins_183 rfl ?_
                                refine X_goto K0 190 dX5_joins_185 (by decide) ?_
                                have hxy : ¬ x = y := fun q => h155 (by rw [q])
                                have hst : upd (ovr (R * C) (jC R C op (ioC kinds elders se) iic) tof) y (nI x) = (ovr (R * C) (jC R C op (ioC kinds elders se) (iic + 1)) tof) := by
                                  have hu : y = if x ≤ y then y else x := by first | exact (if_pos (nle h166 hx31 hy31)).symm | exact (if_neg (nnle h166 hx31 hy31)).symm
                                  have hv : x = if y ≤ x then y else x := by first | exact (if_pos (nle h180 hy31 hx31)).symm | exact (if_neg (nnle h180 hy31 hx31)).symm
                                  rw [ovr_upd (by omega)]
                                  rw [show jC R C op (ioC kinds elders se) (iic + 1) = _ from (jS_y hx hy (ovr_ne (en_lt hR hC hltc false) h105) (ovr_ne (en_lt hR hC hltc true) h117) (by first | exact Or.inl (bI_n0.mp h124) | exact Or.inr h133) hxy hu hv).symm]
                                refine X_iastN (w' := (c0 :: c1 :: c2 :: c3 :: c4 :: c5 :: c6 :: c7 :: c8 :: c9 :: c10 :: c11 :: (mo, oModel tn stt tr (nI R) (nI C) (bI op) mki mel mto mio mwy (bI hwb) mme mhs mso msr mrs mce mcp) :: (mki, aI g 40 kinds) :: (mel, aI g 40 elders) :: (mto, aI g 25 (ovr (R * C) (jC R C op (ioC kinds elders se) (iic + 1)) tof)) :: (mio, aZ g 40 (ovr (thM R C op) (ioC kinds elders se) iof)) :: (mwy, aI g 4096 wyf) :: (mme, aZ g 36 mef) :: (mhs, aZ g 3 hsf) :: (mso, aI g 3 sof) :: (msr, aI g 3 srf) :: (mrs, aI g 12 rsf) :: (mce, aI g 480 cef) :: (mcp, aI g 40 cpf) :: rest)) K0 15 rfl (by omega) (by decide) dX5_joins_190 (by rw [hst]; rfl) ?_
                                refine X_iinc (v := ((nI iic) + 1)) (L' := [(2, .int ((nI iic) + 1)), (6, .int (nI y)), (5, .int (nI x)), (4, .int (nI (enM R C iic true))), (3, .int (nI (enM R C iic false))), (0, .ref mo), (1, .int se)]) K0 6 dX5_joins_191 rfl (by first | rfl | decide) (by decide) rfl ?_
                                refine X_goto K0 74 dX5_joins_194 (by decide) ?_
                                refine X.sub [5, 6, 0] (L' := [(0, .ref mo), (1, .int se), (2, .int ((nI iic) + 1))]) rfl ?_
                                exact X_eq (by first | rfl | (rw [show jC R C op (ioC kinds elders se) (iic + 1) = jC R C op (ioC kinds elders se) iic from jS_n1 (ovr_e (en_lt hR hC hltc false) h105)]) | (rw [show jC R C op (ioC kinds elders se) (iic + 1) = jC R C op (ioC kinds elders se) iic from jS_n2 (ovr_e (en_lt hR hC hltc true) h117)]) | (rw [show jC R C op (ioC kinds elders se) (iic + 1) = jC R C op (ioC kinds elders se) iic from jS_n3 (bI_0.mp h124) h133]) | (rw [show jC R C op (ioC kinds elders se) (iic + 1) = jC R C op (ioC kinds elders se) iic from jS_e (hx.trans (((nI_eq hx31 hy31).mp h155).trans hy.symm))])) (by rw [nI_succ] <;> rfl) rfl (ihc (iic + 1) (by omega))
                            · refine X_iload K0 1 dX5_joins_169 rfl ?_
                              refine X_goto K0 176 dX5_joins_171 (by decide) ?_
                              refine X_iload K0 1 dX5_joins_176 rfl ?_
                              refine X_iload K0 0 dX5_joins_178 rfl ?_
                              refine X_icmp_ge K0 188 dX5_joins_180 (by decide) (fun h180 => ?_) (fun h180 => ?_)
                              · refine X_iload K0 0 dX5_joins_188 rfl ?_
                                have hxy : ¬ x = y := fun q => h155 (by rw [q])
                                have hst : upd (ovr (R * C) (jC R C op (ioC kinds elders se) iic) tof) x (nI y) = (ovr (R * C) (jC R C op (ioC kinds elders se) (iic + 1)) tof) := by
                                  have hu : x = if x ≤ y then y else x := by first | exact (if_pos (nle h166 hx31 hy31)).symm | exact (if_neg (nnle h166 hx31 hy31)).symm
                                  have hv : y = if y ≤ x then y else x := by first | exact (if_pos (nle h180 hy31 hx31)).symm | exact (if_neg (nnle h180 hy31 hx31)).symm
                                  rw [ovr_upd (by omega)]
                                  rw [show jC R C op (ioC kinds elders se) (iic + 1) = _ from (jS_y hx hy (ovr_ne (en_lt hR hC hltc false) h105) (ovr_ne (en_lt hR hC hltc true) h117) (by first | exact Or.inl (bI_n0.mp h124) | exact Or.inr h133) hxy hu hv).symm]
                                refine X_iastN (w' := (c0 :: c1 :: c2 :: c3 :: c4 :: c5 :: c6 :: c7 :: c8 :: c9 :: c10 :: c11 :: (mo, oModel tn stt tr (nI R) (nI C) (bI op) mki mel mto mio mwy (bI hwb) mme mhs mso msr mrs mce mcp) :: (mki, aI g 40 kinds) :: (mel, aI g 40 elders) :: (mto, aI g 25 (ovr (R * C) (jC R C op (ioC kinds elders se) (iic + 1)) tof)) :: (mio, aZ g 40 (ovr (thM R C op) (ioC kinds elders se) iof)) :: (mwy, aI g 4096 wyf) :: (mme, aZ g 36 mef) :: (mhs, aZ g 3 hsf) :: (mso, aI g 3 sof) :: (msr, aI g 3 srf) :: (mrs, aI g 12 rsf) :: (mce, aI g 480 cef) :: (mcp, aI g 40 cpf) :: rest)) K0 15 rfl (by omega) (by decide) dX5_joins_190 (by rw [hst]; rfl) ?_
                                refine X_iinc (v := ((nI iic) + 1)) (L' := [(2, .int ((nI iic) + 1)), (6, .int (nI y)), (5, .int (nI x)), (4, .int (nI (enM R C iic true))), (3, .int (nI (enM R C iic false))), (0, .ref mo), (1, .int se)]) K0 6 dX5_joins_191 rfl (by first | rfl | decide) (by decide) rfl ?_
                                refine X_goto K0 74 dX5_joins_194 (by decide) ?_
                                refine X.sub [5, 6, 0] (L' := [(0, .ref mo), (1, .int se), (2, .int ((nI iic) + 1))]) rfl ?_
                                exact X_eq (by first | rfl | (rw [show jC R C op (ioC kinds elders se) (iic + 1) = jC R C op (ioC kinds elders se) iic from jS_n1 (ovr_e (en_lt hR hC hltc false) h105)]) | (rw [show jC R C op (ioC kinds elders se) (iic + 1) = jC R C op (ioC kinds elders se) iic from jS_n2 (ovr_e (en_lt hR hC hltc true) h117)]) | (rw [show jC R C op (ioC kinds elders se) (iic + 1) = jC R C op (ioC kinds elders se) iic from jS_n3 (bI_0.mp h124) h133]) | (rw [show jC R C op (ioC kinds elders se) (iic + 1) = jC R C op (ioC kinds elders se) iic from jS_e (hx.trans (((nI_eq hx31 hy31).mp h155).trans hy.symm))])) (by rw [nI_succ] <;> rfl) rfl (ihc (iic + 1) (by omega))
                              · refine X_iload K0 1 dX5_joins_183 rfl ?_
                                refine X_goto K0 190 dX5_joins_185 (by decide) ?_
                                have hxy : ¬ x = y := fun q => h155 (by rw [q])
                                have hst : upd (ovr (R * C) (jC R C op (ioC kinds elders se) iic) tof) x (nI x) = (ovr (R * C) (jC R C op (ioC kinds elders se) (iic + 1)) tof) := by
                                  have hu : x = if x ≤ y then y else x := by first | exact (if_pos (nle h166 hx31 hy31)).symm | exact (if_neg (nnle h166 hx31 hy31)).symm
                                  have hv : x = if y ≤ x then y else x := by first | exact (if_pos (nle h180 hy31 hx31)).symm | exact (if_neg (nnle h180 hy31 hx31)).symm
                                  rw [ovr_upd (by omega)]
                                  rw [show jC R C op (ioC kinds elders se) (iic + 1) = _ from (jS_y hx hy (ovr_ne (en_lt hR hC hltc false) h105) (ovr_ne (en_lt hR hC hltc true) h117) (by first | exact Or.inl (bI_n0.mp h124) | exact Or.inr h133) hxy hu hv).symm]
                                refine X_iastN (w' := (c0 :: c1 :: c2 :: c3 :: c4 :: c5 :: c6 :: c7 :: c8 :: c9 :: c10 :: c11 :: (mo, oModel tn stt tr (nI R) (nI C) (bI op) mki mel mto mio mwy (bI hwb) mme mhs mso msr mrs mce mcp) :: (mki, aI g 40 kinds) :: (mel, aI g 40 elders) :: (mto, aI g 25 (ovr (R * C) (jC R C op (ioC kinds elders se) (iic + 1)) tof)) :: (mio, aZ g 40 (ovr (thM R C op) (ioC kinds elders se) iof)) :: (mwy, aI g 4096 wyf) :: (mme, aZ g 36 mef) :: (mhs, aZ g 3 hsf) :: (mso, aI g 3 sof) :: (msr, aI g 3 srf) :: (mrs, aI g 12 rsf) :: (mce, aI g 480 cef) :: (mcp, aI g 40 cpf) :: rest)) K0 15 rfl (by omega) (by decide) dX5_joins_190 (by rw [hst]; rfl) ?_
                                refine X_iinc (v := ((nI iic) + 1)) (L' := [(2, .int ((nI iic) + 1)), (6, .int (nI y)), (5, .int (nI x)), (4, .int (nI (enM R C iic true))), (3, .int (nI (enM R C iic false))), (0, .ref mo), (1, .int se)]) K0 6 dX5_joins_191 rfl (by first | rfl | decide) (by decide) rfl ?_
                                refine X_goto K0 74 dX5_joins_194 (by decide) ?_
                                refine X.sub [5, 6, 0] (L' := [(0, .ref mo), (1, .int se), (2, .int ((nI iic) + 1))]) rfl ?_
                                exact X_eq (by first | rfl | (rw [show jC R C op (ioC kinds elders se) (iic + 1) = jC R C op (ioC kinds elders se) iic from jS_n1 (ovr_e (en_lt hR hC hltc false) h105)]) | (rw [show jC R C op (ioC kinds elders se) (iic + 1) = jC R C op (ioC kinds elders se) iic from jS_n2 (ovr_e (en_lt hR hC hltc true) h117)]) | (rw [show jC R C op (ioC kinds elders se) (iic + 1) = jC R C op (ioC kinds elders se) iic from jS_n3 (bI_0.mp h124) h133]) | (rw [show jC R C op (ioC kinds elders se) (iic + 1) = jC R C op (ioC kinds elders se) iic from jS_e (hx.trans (((nI_eq hx31 hy31).mp h155).trans hy.symm))])) (by rw [nI_succ] <;> rfl) rfl (ihc (iic + 1) (by omega))
                        · refine X_aload_n K0 2 dX5_joins_127 rfl rfl ?_
                          refine X_get K0 12 rfl rfl hin5 9 (by decide) fl_RX5_26 rfl dX5_joins_128 ?_
                          refine X_iload_n K0 4 dX5_joins_131 rfl rfl ?_
                          refine X_zaldN K0 16 rfl (by omega) (by first | decide | omega) dX5_joins_132 ?_
                          refine X_v (ovr_lt (by rw [th_f (bI_0.mp h124)]; exact hltc)) ?_
                          refine X_if_eq K0 191 dX5_joins_133 (by decide) (fun h133 => ?_) (fun h133 => ?_)
                          · refine X_iinc (v := ((nI iic) + 1)) (L' := [(2, .int ((nI iic) + 1)), (4, .int (nI (enM R C iic true))), (3, .int (nI (enM R C iic false))), (0, .ref mo), (1, .int se)]) K0 4 dX5_joins_191 rfl (by first | rfl | decide) (by decide) rfl ?_
                            refine X_goto K0 74 dX5_joins_194 (by decide) ?_
                            refine X.sub [3, 4, 0] (L' := [(0, .ref mo), (1, .int se), (2, .int ((nI iic) + 1))]) rfl ?_
                            exact X_eq (by first | rfl | (rw [show jC R C op (ioC kinds elders se) (iic + 1) = jC R C op (ioC kinds elders se) iic from jS_n1 (ovr_e (en_lt hR hC hltc false) h105)]) | (rw [show jC R C op (ioC kinds elders se) (iic + 1) = jC R C op (ioC kinds elders se) iic from jS_n2 (ovr_e (en_lt hR hC hltc true) h117)]) | (rw [show jC R C op (ioC kinds elders se) (iic + 1) = jC R C op (ioC kinds elders se) iic from jS_n3 (bI_0.mp h124) h133]) | (rw [show jC R C op (ioC kinds elders se) (iic + 1) = jC R C op (ioC kinds elders se) iic from jS_e (hx.trans (((nI_eq hx31 hy31).mp h155).trans hy.symm))])) (by rw [nI_succ] <;> rfl) rfl (ihc (iic + 1) (by omega))
                          · refine X_aload_n K0 2 dX5_joins_136 rfl rfl ?_
                            refine X_iload_n K0 1 dX5_joins_137 rfl rfl ?_
                            refine X_callV (As := [.int (nI (enM R C iic false))]) (rest := []) K0 12 (m_root g c0 c1 c2 c3 c4 c5 c6 c7 c8 c9 c10 c11 mo mki mel mto mio mwy mme mhs mso msr mrs mce mcp tn stt tr R C op hwb kinds elders (ovr (R * C) (jC R C op (ioC kinds elders se) iic) tof) (ovr (thM R C op) (ioC kinds elders se) iof) wyf mef hsf sof srf rsf cef cpf rest (pl_M hR hC) (ovr_uf (jC_uf hR hC op _ iic (by omega))) (enM R C iic false) (en_lt hR hC hltc _) (by first | exact h105 | exact h117)) mi_X5_root rfl rfl rfl ml_RX5_126 rfl (Nat.le_of_ble_eq_true rfl) (by decide) ⟨Nat.le_of_ble_eq_true rfl, Nat.le_of_ble_eq_true rfl⟩ rfl rfl dX5_joins_138 ?_
                            intro v w' hr'; obtain ⟨rfl, rfl⟩ := hr'
                            show X φ 0 0 (c0 :: c1 :: c2 :: c3 :: c4 :: c5 :: c6 :: c7 :: c8 :: c9 :: c10 :: c11 :: (mo, oModel tn stt tr (nI R) (nI C) (bI op) mki mel mto mio mwy (bI hwb) mme mhs mso msr mrs mce mcp) :: (mki, aI g 40 kinds) :: (mel, aI g 40 elders) :: (mto, aI g 25 (ovr (R * C) (jC R C op (ioC kinds elders se) iic) tof)) :: (mio, aZ g 40 (ovr (thM R C op) (ioC kinds elders se) iof)) :: (mwy, aI g 4096 wyf) :: (mme, aZ g 36 mef) :: (mhs, aZ g 3 hsf) :: (mso, aI g 3 sof) :: (msr, aI g 3 srf) :: (mrs, aI g 12 rsf) :: (mce, aI g 480 cef) :: (mcp, aI g 40 cpf) :: rest) [(4, .int (nI (enM R C iic true))), (3, .int (nI (enM R C iic false))), (0, .ref mo), (1, .int se), (2, .int (nI iic))] 141 [.int (nI (rt (ovr (R * C) (jC R C op (ioC kinds elders se) iic) tof) (enM R C iic false)))]
                            obtain ⟨x, hx⟩ : ∃ z, rt (jC R C op (ioC kinds elders se) iic) (enM R C iic false) = z := ⟨_, rfl⟩
                            have hxr := rt_spec (jC_uf hR hC op (ioC kinds elders se) iic (by omega)) (pl_M hR hC) (enM R C iic false) (en_lt hR hC hltc _) (ovr_ne (en_lt hR hC hltc false) h105)
                            rw [hx] at hxr
                            have hxl := en_lt hR hC hltc false
                            have hx31 : x < 2 ^ 31 := by omega
                            refine X_v (z := (nI x)) (congrArg nI ((ovr_rt (jC_uf hR hC op (ioC kinds elders se) iic (by omega)) (pl_M hR hC) _ (en_lt hR hC hltc _) (ovr_ne (en_lt hR hC hltc false) h105)).trans hx)) ?_
                            refine X_istore (L' := [(5, .int (nI x)), (4, .int (nI (enM R C iic true))), (3, .int (nI (enM R C iic false))), (0, .ref mo), (1, .int se), (2, .int (nI iic))]) K0 dX5_joins_141 (by decide) rfl ?_
                            refine X_aload_n K0 3 dX5_joins_143 rfl rfl ?_
                            refine X_iload K0 1 dX5_joins_144 rfl ?_
                            refine X_callV (As := [.int (nI (enM R C iic true))]) (rest := []) K0 12 (m_root g c0 c1 c2 c3 c4 c5 c6 c7 c8 c9 c10 c11 mo mki mel mto mio mwy mme mhs mso msr mrs mce mcp tn stt tr R C op hwb kinds elders (ovr (R * C) (jC R C op (ioC kinds elders se) iic) tof) (ovr (thM R C op) (ioC kinds elders se) iof) wyf mef hsf sof srf rsf cef cpf rest (pl_M hR hC) (ovr_uf (jC_uf hR hC op _ iic (by omega))) (enM R C iic true) (en_lt hR hC hltc _) (by first | exact h105 | exact h117)) mi_X5_root rfl rfl rfl ml_RX5_126 rfl (Nat.le_of_ble_eq_true rfl) (by decide) ⟨Nat.le_of_ble_eq_true rfl, Nat.le_of_ble_eq_true rfl⟩ rfl rfl dX5_joins_146 ?_
                            intro v w' hr'; obtain ⟨rfl, rfl⟩ := hr'
                            show X φ 0 0 (c0 :: c1 :: c2 :: c3 :: c4 :: c5 :: c6 :: c7 :: c8 :: c9 :: c10 :: c11 :: (mo, oModel tn stt tr (nI R) (nI C) (bI op) mki mel mto mio mwy (bI hwb) mme mhs mso msr mrs mce mcp) :: (mki, aI g 40 kinds) :: (mel, aI g 40 elders) :: (mto, aI g 25 (ovr (R * C) (jC R C op (ioC kinds elders se) iic) tof)) :: (mio, aZ g 40 (ovr (thM R C op) (ioC kinds elders se) iof)) :: (mwy, aI g 4096 wyf) :: (mme, aZ g 36 mef) :: (mhs, aZ g 3 hsf) :: (mso, aI g 3 sof) :: (msr, aI g 3 srf) :: (mrs, aI g 12 rsf) :: (mce, aI g 480 cef) :: (mcp, aI g 40 cpf) :: rest) [(5, .int (nI x)), (4, .int (nI (enM R C iic true))), (3, .int (nI (enM R C iic false))), (0, .ref mo), (1, .int se), (2, .int (nI iic))] 149 [.int (nI (rt (ovr (R * C) (jC R C op (ioC kinds elders se) iic) tof) (enM R C iic true)))]
                            obtain ⟨y, hy⟩ : ∃ z, rt (jC R C op (ioC kinds elders se) iic) (enM R C iic true) = z := ⟨_, rfl⟩
                            have hyr := rt_spec (jC_uf hR hC op (ioC kinds elders se) iic (by omega)) (pl_M hR hC) (enM R C iic true) (en_lt hR hC hltc _) (ovr_ne (en_lt hR hC hltc true) h117)
                            rw [hy] at hyr
                            have hyl := en_lt hR hC hltc true
                            have hy31 : y < 2 ^ 31 := by omega
                            refine X_v (z := (nI y)) (congrArg nI ((ovr_rt (jC_uf hR hC op (ioC kinds elders se) iic (by omega)) (pl_M hR hC) _ (en_lt hR hC hltc _) (ovr_ne (en_lt hR hC hltc true) h117)).trans hy)) ?_
                            refine X_istore (L' := [(6, .int (nI y)), (5, .int (nI x)), (4, .int (nI (enM R C iic true))), (3, .int (nI (enM R C iic false))), (0, .ref mo), (1, .int se), (2, .int (nI iic))]) K0 dX5_joins_149 (by decide) rfl ?_
                            refine X_iload K0 1 dX5_joins_151 rfl ?_
                            refine X_iload K0 0 dX5_joins_153 rfl ?_
                            refine X_icmp_eq K0 191 dX5_joins_155 (by decide) (fun h155 => ?_) (fun h155 => ?_)
                            · refine X_iinc (v := ((nI iic) + 1)) (L' := [(2, .int ((nI iic) + 1)), (6, .int (nI y)), (5, .int (nI x)), (4, .int (nI (enM R C iic true))), (3, .int (nI (enM R C iic false))), (0, .ref mo), (1, .int se)]) K0 6 dX5_joins_191 rfl (by first | rfl | decide) (by decide) rfl ?_
                              refine X_goto K0 74 dX5_joins_194 (by decide) ?_
                              refine X.sub [5, 6, 0] (L' := [(0, .ref mo), (1, .int se), (2, .int ((nI iic) + 1))]) rfl ?_
                              exact X_eq (by first | rfl | (rw [show jC R C op (ioC kinds elders se) (iic + 1) = jC R C op (ioC kinds elders se) iic from jS_n1 (ovr_e (en_lt hR hC hltc false) h105)]) | (rw [show jC R C op (ioC kinds elders se) (iic + 1) = jC R C op (ioC kinds elders se) iic from jS_n2 (ovr_e (en_lt hR hC hltc true) h117)]) | (rw [show jC R C op (ioC kinds elders se) (iic + 1) = jC R C op (ioC kinds elders se) iic from jS_n3 (bI_0.mp h124) h133]) | (rw [show jC R C op (ioC kinds elders se) (iic + 1) = jC R C op (ioC kinds elders se) iic from jS_e (hx.trans (((nI_eq hx31 hy31).mp h155).trans hy.symm))])) (by rw [nI_succ] <;> rfl) rfl (ihc (iic + 1) (by omega))
                            · refine X_aload_n K0 4 dX5_joins_158 rfl rfl ?_
                              refine X_get K0 12 rfl rfl hin5 8 (by decide) fl_RX5_23 rfl dX5_joins_159 ?_
                              refine X_iload K0 1 dX5_joins_162 rfl ?_
                              refine X_iload K0 0 dX5_joins_164 rfl ?_
                              refine X_icmp_le K0 174 dX5_joins_166 (by decide) (fun h166 => ?_) (fun h166 => ?_)
                              · refine X_iload K0 0 dX5_joins_174 rfl ?_
                                refine X_iload K0 1 dX5_joins_176 rfl ?_
                                refine X_iload K0 0 dX5_joins_178 rfl ?_
                                refine X_icmp_ge K0 188 dX5_joins_180 (by decide) (fun h180 => ?_) (fun h180 => ?_)
                                · refine X_iload K0 0 dX5_joins_188 rfl ?_
                                  have hxy : ¬ x = y := fun q => h155 (by rw [q])
                                  have hst : upd (ovr (R * C) (jC R C op (ioC kinds elders se) iic) tof) y (nI y) = (ovr (R * C) (jC R C op (ioC kinds elders se) (iic + 1)) tof) := by
                                    have hu : y = if x ≤ y then y else x := by first | exact (if_pos (nle h166 hx31 hy31)).symm | exact (if_neg (nnle h166 hx31 hy31)).symm
                                    have hv : y = if y ≤ x then y else x := by first | exact (if_pos (nle h180 hy31 hx31)).symm | exact (if_neg (nnle h180 hy31 hx31)).symm
                                    rw [ovr_upd (by omega)]
                                    rw [show jC R C op (ioC kinds elders se) (iic + 1) = _ from (jS_y hx hy (ovr_ne (en_lt hR hC hltc false) h105) (ovr_ne (en_lt hR hC hltc true) h117) (by first | exact Or.inl (bI_n0.mp h124) | exact Or.inr h133) hxy hu hv).symm]
                                  refine X_iastN (w' := (c0 :: c1 :: c2 :: c3 :: c4 :: c5 :: c6 :: c7 :: c8 :: c9 :: c10 :: c11 :: (mo, oModel tn stt tr (nI R) (nI C) (bI op) mki mel mto mio mwy (bI hwb) mme mhs mso msr mrs mce mcp) :: (mki, aI g 40 kinds) :: (mel, aI g 40 elders) :: (mto, aI g 25 (ovr (R * C) (jC R C op (ioC kinds elders se) (iic + 1)) tof)) :: (mio, aZ g 40 (ovr (thM R C op) (ioC kinds elders se) iof)) :: (mwy, aI g 4096 wyf) :: (mme, aZ g 36 mef) :: (mhs, aZ g 3 hsf) :: (mso, aI g 3 sof) :: (msr, aI g 3 srf) :: (mrs, aI g 12 rsf) :: (mce, aI g 480 cef) :: (mcp, aI g 40 cpf) :: rest)) K0 15 rfl (by omega) (by decide) dX5_joins_190 (by rw [hst]; rfl) ?_
                                  refine X_iinc (v := ((nI iic) + 1)) (L' := [(2, .int ((nI iic) + 1)), (6, .int (nI y)), (5, .int (nI x)), (4, .int (nI (enM R C iic true))), (3, .int (nI (enM R C iic false))), (0, .ref mo), (1, .int se)]) K0 6 dX5_joins_191 rfl (by first | rfl | decide) (by decide) rfl ?_
                                  refine X_goto K0 74 dX5_joins_194 (by decide) ?_
                                  refine X.sub [5, 6, 0] (L' := [(0, .ref mo), (1, .int se), (2, .int ((nI iic) + 1))]) rfl ?_
                                  exact X_eq (by first | rfl | (rw [show jC R C op (ioC kinds elders se) (iic + 1) = jC R C op (ioC kinds elders se) iic from jS_n1 (ovr_e (en_lt hR hC hltc false) h105)]) | (rw [show jC R C op (ioC kinds elders se) (iic + 1) = jC R C op (ioC kinds elders se) iic from jS_n2 (ovr_e (en_lt hR hC hltc true) h117)]) | (rw [show jC R C op (ioC kinds elders se) (iic + 1) = jC R C op (ioC kinds elders se) iic from jS_n3 (bI_0.mp h124) h133]) | (rw [show jC R C op (ioC kinds elders se) (iic + 1) = jC R C op (ioC kinds elders se) iic from jS_e (hx.trans (((nI_eq hx31 hy31).mp h155).trans hy.symm))])) (by rw [nI_succ] <;> rfl) rfl (ihc (iic + 1) (by omega))
                                · refine X_iload K0 1 dX5_joins_183 rfl ?_
                                  refine X_goto K0 190 dX5_joins_185 (by decide) ?_
                                  have hxy : ¬ x = y := fun q => h155 (by rw [q])
                                  have hst : upd (ovr (R * C) (jC R C op (ioC kinds elders se) iic) tof) y (nI x) = (ovr (R * C) (jC R C op (ioC kinds elders se) (iic + 1)) tof) := by
                                    have hu : y = if x ≤ y then y else x := by first | exact (if_pos (nle h166 hx31 hy31)).symm | exact (if_neg (nnle h166 hx31 hy31)).symm
                                    have hv : x = if y ≤ x then y else x := by first | exact (if_pos (nle h180 hy31 hx31)).symm | exact (if_neg (nnle h180 hy31 hx31)).symm
                                    rw [ovr_upd (by omega)]
                                    rw [show jC R C op (ioC kinds elders se) (iic + 1) = _ from (jS_y hx hy (ovr_ne (en_lt hR hC hltc false) h105) (ovr_ne (en_lt hR hC hltc true) h117) (by first | exact Or.inl (bI_n0.mp h124) | exact Or.inr h133) hxy hu hv).symm]
                                  refine X_iastN (w' := (c0 :: c1 :: c2 :: c3 :: c4 :: c5 :: c6 :: c7 :: c8 :: c9 :: c10 :: c11 :: (mo, oModel tn stt tr (nI R) (nI C) (bI op) mki mel mto mio mwy (bI hwb) mme mhs mso msr mrs mce mcp) :: (mki, aI g 40 kinds) :: (mel, aI g 40 elders) :: (mto, aI g 25 (ovr (R * C) (jC R C op (ioC kinds elders se) (iic + 1)) tof)) :: (mio, aZ g 40 (ovr (thM R C op) (ioC kinds elders se) iof)) :: (mwy, aI g 4096 wyf) :: (mme, aZ g 36 mef) :: (mhs, aZ g 3 hsf) :: (mso, aI g 3 sof) :: (msr, aI g 3 srf) :: (mrs, aI g 12 rsf) :: (mce, aI g 480 cef) :: (mcp, aI g 40 cpf) :: rest)) K0 15 rfl (by omega) (by decide) dX5_joins_190 (by rw [hst]; rfl) ?_
                                  refine X_iinc (v := ((nI iic) + 1)) (L' := [(2, .int ((nI iic) + 1)), (6, .int (nI y)), (5, .int (nI x)), (4, .int (nI (enM R C iic true))), (3, .int (nI (enM R C iic false))), (0, .ref mo), (1, .int se)]) K0 6 dX5_joins_191 rfl (by first | rfl | decide) (by decide) rfl ?_
                                  refine X_goto K0 74 dX5_joins_194 (by decide) ?_
                                  refine X.sub [5, 6, 0] (L' := [(0, .ref mo), (1, .int se), (2, .int ((nI iic) + 1))]) rfl ?_
                                  exact X_eq (by first | rfl | (rw [show jC R C op (ioC kinds elders se) (iic + 1) = jC R C op (ioC kinds elders se) iic from jS_n1 (ovr_e (en_lt hR hC hltc false) h105)]) | (rw [show jC R C op (ioC kinds elders se) (iic + 1) = jC R C op (ioC kinds elders se) iic from jS_n2 (ovr_e (en_lt hR hC hltc true) h117)]) | (rw [show jC R C op (ioC kinds elders se) (iic + 1) = jC R C op (ioC kinds elders se) iic from jS_n3 (bI_0.mp h124) h133]) | (rw [show jC R C op (ioC kinds elders se) (iic + 1) = jC R C op (ioC kinds elders se) iic from jS_e (hx.trans (((nI_eq hx31 hy31).mp h155).trans hy.symm))])) (by rw [nI_succ] <;> rfl) rfl (ihc (iic + 1) (by omega))
                              · refine X_iload K0 1 dX5_joins_169 rfl ?_
                                refine X_goto K0 176 dX5_joins_171 (by decide) ?_
                                refine X_iload K0 1 dX5_joins_176 rfl ?_
                                refine X_iload K0 0 dX5_joins_178 rfl ?_
                                refine X_icmp_ge K0 188 dX5_joins_180 (by decide) (fun h180 => ?_) (fun h180 => ?_)
                                · refine X_iload K0 0 dX5_joins_188 rfl ?_
                                  have hxy : ¬ x = y := fun q => h155 (by rw [q])
                                  have hst : upd (ovr (R * C) (jC R C op (ioC kinds elders se) iic) tof) x (nI y) = (ovr (R * C) (jC R C op (ioC kinds elders se) (iic + 1)) tof) := by
                                    have hu : x = if x ≤ y then y else x := by first | exact (if_pos (nle h166 hx31 hy31)).symm | exact (if_neg (nnle h166 hx31 hy31)).symm
                                    have hv : y = if y ≤ x then y else x := by first | exact (if_pos (nle h180 hy31 hx31)).symm | exact (if_neg (nnle h180 hy31 hx31)).symm
                                    rw [ovr_upd (by omega)]
                                    rw [show jC R C op (ioC kinds elders se) (iic + 1) = _ from (jS_y hx hy (ovr_ne (en_lt hR hC hltc false) h105) (ovr_ne (en_lt hR hC hltc true) h117) (by first | exact Or.inl (bI_n0.mp h124) | exact Or.inr h133) hxy hu hv).symm]
                                  refine X_iastN (w' := (c0 :: c1 :: c2 :: c3 :: c4 :: c5 :: c6 :: c7 :: c8 :: c9 :: c10 :: c11 :: (mo, oModel tn stt tr (nI R) (nI C) (bI op) mki mel mto mio mwy (bI hwb) mme mhs mso msr mrs mce mcp) :: (mki, aI g 40 kinds) :: (mel, aI g 40 elders) :: (mto, aI g 25 (ovr (R * C) (jC R C op (ioC kinds elders se) (iic + 1)) tof)) :: (mio, aZ g 40 (ovr (thM R C op) (ioC kinds elders se) iof)) :: (mwy, aI g 4096 wyf) :: (mme, aZ g 36 mef) :: (mhs, aZ g 3 hsf) :: (mso, aI g 3 sof) :: (msr, aI g 3 srf) :: (mrs, aI g 12 rsf) :: (mce, aI g 480 cef) :: (mcp, aI g 40 cpf) :: rest)) K0 15 rfl (by omega) (by decide) dX5_joins_190 (by rw [hst]; rfl) ?_
                                  refine X_iinc (v := ((nI iic) + 1)) (L' := [(2, .int ((nI iic) + 1)), (6, .int (nI y)), (5, .int (nI x)), (4, .int (nI (enM R C iic true))), (3, .int (nI (enM R C iic false))), (0, .ref mo), (1, .int se)]) K0 6 dX5_joins_191 rfl (by first | rfl | decide) (by decide) rfl ?_
                                  refine X_goto K0 74 dX5_joins_194 (by decide) ?_
                                  refine X.sub [5, 6, 0] (L' := [(0, .ref mo), (1, .int se), (2, .int ((nI iic) + 1))]) rfl ?_
                                  exact X_eq (by first | rfl | (rw [show jC R C op (ioC kinds elders se) (iic + 1) = jC R C op (ioC kinds elders se) iic from jS_n1 (ovr_e (en_lt hR hC hltc false) h105)]) | (rw [show jC R C op (ioC kinds elders se) (iic + 1) = jC R C op (ioC kinds elders se) iic from jS_n2 (ovr_e (en_lt hR hC hltc true) h117)]) | (rw [show jC R C op (ioC kinds elders se) (iic + 1) = jC R C op (ioC kinds elders se) iic from jS_n3 (bI_0.mp h124) h133]) | (rw [show jC R C op (ioC kinds elders se) (iic + 1) = jC R C op (ioC kinds elders se) iic from jS_e (hx.trans (((nI_eq hx31 hy31).mp h155).trans hy.symm))])) (by rw [nI_succ] <;> rfl) rfl (ihc (iic + 1) (by omega))
                                · refine X_iload K0 1 dX5_joins_183 rfl ?_
                                  refine X_goto K0 190 dX5_joins_185 (by decide) ?_
                                  have hxy : ¬ x = y := fun q => h155 (by rw [q])
                                  have hst : upd (ovr (R * C) (jC R C op (ioC kinds elders se) iic) tof) x (nI x) = (ovr (R * C) (jC R C op (ioC kinds elders se) (iic + 1)) tof) := by
                                    have hu : x = if x ≤ y then y else x := by first | exact (if_pos (nle h166 hx31 hy31)).symm | exact (if_neg (nnle h166 hx31 hy31)).symm
                                    have hv : x = if y ≤ x then y else x := by first | exact (if_pos (nle h180 hy31 hx31)).symm | exact (if_neg (nnle h180 hy31 hx31)).symm
                                    rw [ovr_upd (by omega)]
                                    rw [show jC R C op (ioC kinds elders se) (iic + 1) = _ from (jS_y hx hy (ovr_ne (en_lt hR hC hltc false) h105) (ovr_ne (en_lt hR hC hltc true) h117) (by first | exact Or.inl (bI_n0.mp h124) | exact Or.inr h133) hxy hu hv).symm]
                                  refine X_iastN (w' := (c0 :: c1 :: c2 :: c3 :: c4 :: c5 :: c6 :: c7 :: c8 :: c9 :: c10 :: c11 :: (mo, oModel tn stt tr (nI R) (nI C) (bI op) mki mel mto mio mwy (bI hwb) mme mhs mso msr mrs mce mcp) :: (mki, aI g 40 kinds) :: (mel, aI g 40 elders) :: (mto, aI g 25 (ovr (R * C) (jC R C op (ioC kinds elders se) (iic + 1)) tof)) :: (mio, aZ g 40 (ovr (thM R C op) (ioC kinds elders se) iof)) :: (mwy, aI g 4096 wyf) :: (mme, aZ g 36 mef) :: (mhs, aZ g 3 hsf) :: (mso, aI g 3 sof) :: (msr, aI g 3 srf) :: (mrs, aI g 12 rsf) :: (mce, aI g 480 cef) :: (mcp, aI g 40 cpf) :: rest)) K0 15 rfl (by omega) (by decide) dX5_joins_190 (by rw [hst]; rfl) ?_
                                  refine X_iinc (v := ((nI iic) + 1)) (L' := [(2, .int ((nI iic) + 1)), (6, .int (nI y)), (5, .int (nI x)), (4, .int (nI (enM R C iic true))), (3, .int (nI (enM R C iic false))), (0, .ref mo), (1, .int se)]) K0 6 dX5_joins_191 rfl (by first | rfl | decide) (by decide) rfl ?_
                                  refine X_goto K0 74 dX5_joins_194 (by decide) ?_
                                  refine X.sub [5, 6, 0] (L' := [(0, .ref mo), (1, .int se), (2, .int ((nI iic) + 1))]) rfl ?_
                                  exact X_eq (by first | rfl | (rw [show jC R C op (ioC kinds elders se) (iic + 1) = jC R C op (ioC kinds elders se) iic from jS_n1 (ovr_e (en_lt hR hC hltc false) h105)]) | (rw [show jC R C op (ioC kinds elders se) (iic + 1) = jC R C op (ioC kinds elders se) iic from jS_n2 (ovr_e (en_lt hR hC hltc true) h117)]) | (rw [show jC R C op (ioC kinds elders se) (iic + 1) = jC R C op (ioC kinds elders se) iic from jS_n3 (bI_0.mp h124) h133]) | (rw [show jC R C op (ioC kinds elders se) (iic + 1) = jC R C op (ioC kinds elders se) iic from jS_e (hx.trans (((nI_eq hx31 hy31).mp h155).trans hy.symm))])) (by rw [nI_succ] <;> rfl) rfl (ihc (iic + 1) (by omega))
              exact LOOPc (rdM R C) 0 (by omega)
            · exact absurd (nI_le (Nat.le_refl _) (by omega)) h35
          | succ ddb ihb =>
            intro iib hiib 
            have hltb : iib < (R * C) := by omega
            refine X_iload_n K0 2 dX5_joins_30 rfl rfl ?_
            refine X_aload_n K0 0 dX5_joins_31 rfl rfl ?_
            refine X_callV (As := []) (rest := [.int (nI iib)]) K0 12 (m_places g c0 c1 c2 c3 c4 c5 c6 c7 c8 c9 c10 c11 mo mki mel mto mio mwy mme mhs mso msr mrs mce mcp tn stt tr R C op hwb kinds elders (ovr iib (to0 op (ioC kinds elders se)) tof) (ovr (thM R C op) (ioC kinds elders se) iof) wyf mef hsf sof srf rsf cef cpf rest hR hC ) mi_X5_places rfl rfl rfl ml_RX5_72 rfl (Nat.le_of_ble_eq_true rfl) (by decide) ⟨Nat.le_of_ble_eq_true rfl, Nat.le_of_ble_eq_true rfl⟩ rfl rfl dX5_joins_32 ?_
            intro v w' hr'; obtain ⟨rfl, rfl⟩ := hr'
            show X φ 0 0 (c0 :: c1 :: c2 :: c3 :: c4 :: c5 :: c6 :: c7 :: c8 :: c9 :: c10 :: c11 :: (mo, oModel tn stt tr (nI R) (nI C) (bI op) mki mel mto mio mwy (bI hwb) mme mhs mso msr mrs mce mcp) :: (mki, aI g 40 kinds) :: (mel, aI g 40 elders) :: (mto, aI g 25 (ovr iib (to0 op (ioC kinds elders se)) tof)) :: (mio, aZ g 40 (ovr (thM R C op) (ioC kinds elders se) iof)) :: (mwy, aI g 4096 wyf) :: (mme, aZ g 36 mef) :: (mhs, aZ g 3 hsf) :: (mso, aI g 3 sof) :: (msr, aI g 3 srf) :: (mrs, aI g 12 rsf) :: (mce, aI g 480 cef) :: (mcp, aI g 40 cpf) :: rest) [(0, .ref mo), (1, .int se), (2, .int (nI iib))] 35 [.int (nI (R * C)), .int (nI iib)]
            refine X_icmp_ge K0 72 dX5_joins_35 (by decide) (fun h35 => ?_) (fun h35 => ?_)
            · exact absurd h35 (nI_ge hltb (by omega))
            · refine X_aload_n K0 0 dX5_joins_38 rfl rfl ?_
              refine X_get K0 12 rfl rfl hin5 8 (by decide) fl_RX5_23 rfl dX5_joins_39 ?_
              refine X_iload_n K0 2 dX5_joins_42 rfl rfl ?_
              refine X_aload_n K0 0 dX5_joins_43 rfl rfl ?_
              refine X_get K0 12 rfl rfl hin5 5 (by decide) fl_RX5_69 rfl dX5_joins_44 ?_
              refine X_if_eq K0 59 dX5_joins_47 (by decide) (fun h47 => ?_) (fun h47 => ?_)
              · refine X_iload_n K0 2 dX5_joins_59 rfl rfl ?_
                refine X_goto K0 65 dX5_joins_60 (by decide) ?_
                refine X_iastN (w' := (c0 :: c1 :: c2 :: c3 :: c4 :: c5 :: c6 :: c7 :: c8 :: c9 :: c10 :: c11 :: (mo, oModel tn stt tr (nI R) (nI C) (bI op) mki mel mto mio mwy (bI hwb) mme mhs mso msr mrs mce mcp) :: (mki, aI g 40 kinds) :: (mel, aI g 40 elders) :: (mto, aI g 25 (upd (ovr iib (to0 op (ioC kinds elders se)) tof) iib (nI iib))) :: (mio, aZ g 40 (ovr (thM R C op) (ioC kinds elders se) iof)) :: (mwy, aI g 4096 wyf) :: (mme, aZ g 36 mef) :: (mhs, aZ g 3 hsf) :: (mso, aI g 3 sof) :: (msr, aI g 3 srf) :: (mrs, aI g 12 rsf) :: (mce, aI g 480 cef) :: (mcp, aI g 40 cpf) :: rest)) K0 15 rfl (by omega) (by first | decide | omega) dX5_joins_65 rfl ?_
                refine X_iinc (v := ((nI iib) + 1)) (L' := [(2, .int ((nI iib) + 1)), (0, .ref mo), (1, .int se)]) K0 2 dX5_joins_66 rfl (by first | rfl | decide) (by decide) rfl ?_
                refine X_goto K0 30 dX5_joins_69 (by decide) ?_
                refine X.sub [1, 2, 0] (L' := [(0, .ref mo), (1, .int se), (2, .int ((nI iib) + 1))]) rfl ?_
                exact X_eq (by first | (rw [ovr_s iib _ _ (t0_a (io := ioC kinds elders se) h47)]) | (rw [ovr_s iib _ _ (t0_b (io := ioC kinds elders se) h47 h56)]) | (rw [ovr_s iib _ _ (t0_c (op := op) (io := ioC kinds elders se) h56)])) (by rw [nI_succ] <;> rfl) rfl (ihb (iib + 1) (by omega))
              · refine X_aload_n K0 0 dX5_joins_50 rfl rfl ?_
                refine X_get K0 12 rfl rfl hin5 9 (by decide) fl_RX5_26 rfl dX5_joins_51 ?_
                refine X_iload_n K0 2 dX5_joins_54 rfl rfl ?_
                refine X_zaldN K0 16 rfl (by omega) (by first | decide | omega) dX5_joins_55 ?_
                refine X_v (ovr_lt (by rw [th_t (bI_n0.mp h47)]; exact hltb)) ?_
                refine X_if_eq K0 63 dX5_joins_56 (by decide) (fun h56 => ?_) (fun h56 => ?_)
                · refine X_bipush (v := (-9)) K0 dX5_joins_63 (by decide) ?_
                  refine X_iastN (w' := (c0 :: c1 :: c2 :: c3 :: c4 :: c5 :: c6 :: c7 :: c8 :: c9 :: c10 :: c11 :: (mo, oModel tn stt tr (nI R) (nI C) (bI op) mki mel mto mio mwy (bI hwb) mme mhs mso msr mrs mce mcp) :: (mki, aI g 40 kinds) :: (mel, aI g 40 elders) :: (mto, aI g 25 (upd (ovr iib (to0 op (ioC kinds elders se)) tof) iib (-9))) :: (mio, aZ g 40 (ovr (thM R C op) (ioC kinds elders se) iof)) :: (mwy, aI g 4096 wyf) :: (mme, aZ g 36 mef) :: (mhs, aZ g 3 hsf) :: (mso, aI g 3 sof) :: (msr, aI g 3 srf) :: (mrs, aI g 12 rsf) :: (mce, aI g 480 cef) :: (mcp, aI g 40 cpf) :: rest)) K0 15 rfl (by omega) (by first | decide | omega) dX5_joins_65 rfl ?_
                  refine X_iinc (v := ((nI iib) + 1)) (L' := [(2, .int ((nI iib) + 1)), (0, .ref mo), (1, .int se)]) K0 2 dX5_joins_66 rfl (by first | rfl | decide) (by decide) rfl ?_
                  refine X_goto K0 30 dX5_joins_69 (by decide) ?_
                  refine X.sub [1, 2, 0] (L' := [(0, .ref mo), (1, .int se), (2, .int ((nI iib) + 1))]) rfl ?_
                  exact X_eq (by first | (rw [ovr_s iib _ _ (t0_a (io := ioC kinds elders se) h47)]) | (rw [ovr_s iib _ _ (t0_b (io := ioC kinds elders se) h47 h56)]) | (rw [ovr_s iib _ _ (t0_c (op := op) (io := ioC kinds elders se) h56)])) (by rw [nI_succ] <;> rfl) rfl (ihb (iib + 1) (by omega))
                · refine X_iload_n K0 2 dX5_joins_59 rfl rfl ?_
                  refine X_goto K0 65 dX5_joins_60 (by decide) ?_
                  refine X_iastN (w' := (c0 :: c1 :: c2 :: c3 :: c4 :: c5 :: c6 :: c7 :: c8 :: c9 :: c10 :: c11 :: (mo, oModel tn stt tr (nI R) (nI C) (bI op) mki mel mto mio mwy (bI hwb) mme mhs mso msr mrs mce mcp) :: (mki, aI g 40 kinds) :: (mel, aI g 40 elders) :: (mto, aI g 25 (upd (ovr iib (to0 op (ioC kinds elders se)) tof) iib (nI iib))) :: (mio, aZ g 40 (ovr (thM R C op) (ioC kinds elders se) iof)) :: (mwy, aI g 4096 wyf) :: (mme, aZ g 36 mef) :: (mhs, aZ g 3 hsf) :: (mso, aI g 3 sof) :: (msr, aI g 3 srf) :: (mrs, aI g 12 rsf) :: (mce, aI g 480 cef) :: (mcp, aI g 40 cpf) :: rest)) K0 15 rfl (by omega) (by first | decide | omega) dX5_joins_65 rfl ?_
                  refine X_iinc (v := ((nI iib) + 1)) (L' := [(2, .int ((nI iib) + 1)), (0, .ref mo), (1, .int se)]) K0 2 dX5_joins_66 rfl (by first | rfl | decide) (by decide) rfl ?_
                  refine X_goto K0 30 dX5_joins_69 (by decide) ?_
                  refine X.sub [1, 2, 0] (L' := [(0, .ref mo), (1, .int se), (2, .int ((nI iib) + 1))]) rfl ?_
                  exact X_eq (by first | (rw [ovr_s iib _ _ (t0_a (io := ioC kinds elders se) h47)]) | (rw [ovr_s iib _ _ (t0_b (io := ioC kinds elders se) h47 h56)]) | (rw [ovr_s iib _ _ (t0_c (op := op) (io := ioC kinds elders se) h56)])) (by rw [nI_succ] <;> rfl) rfl (ihb (iib + 1) (by omega))
        exact X_eq (by rw [ovr_0]) rfl rfl (LOOPb ((R * C)) 0 (by omega))
      · exact absurd (nI_le (Nat.le_refl _) (by omega)) h7
    | succ dda iha =>
      intro iia hiia 
      have hlta : iia < (thM R C op) := by omega
      refine X_iload_n K0 2 dX5_joins_2 rfl rfl ?_
      refine X_aload_n K0 0 dX5_joins_3 rfl rfl ?_
      refine X_callV (As := []) (rest := [.int (nI iia)]) K0 12 (m_things g c0 c1 c2 c3 c4 c5 c6 c7 c8 c9 c10 c11 mo mki mel mto mio mwy mme mhs mso msr mrs mce mcp tn stt tr R C op hwb kinds elders tof (ovr iia (ioC kinds elders se) iof) wyf mef hsf sof srf rsf cef cpf rest hR hC ) mi_X5_things rfl rfl rfl ml_RX5_78 rfl (Nat.le_of_ble_eq_true rfl) (by decide) ⟨Nat.le_of_ble_eq_true rfl, Nat.le_of_ble_eq_true rfl⟩ rfl rfl dX5_joins_4 ?_
      intro v w' hr'; obtain ⟨rfl, rfl⟩ := hr'
      show X φ 0 0 (c0 :: c1 :: c2 :: c3 :: c4 :: c5 :: c6 :: c7 :: c8 :: c9 :: c10 :: c11 :: (mo, oModel tn stt tr (nI R) (nI C) (bI op) mki mel mto mio mwy (bI hwb) mme mhs mso msr mrs mce mcp) :: (mki, aI g 40 kinds) :: (mel, aI g 40 elders) :: (mto, aI g 25 tof) :: (mio, aZ g 40 (ovr iia (ioC kinds elders se) iof)) :: (mwy, aI g 4096 wyf) :: (mme, aZ g 36 mef) :: (mhs, aZ g 3 hsf) :: (mso, aI g 3 sof) :: (msr, aI g 3 srf) :: (mrs, aI g 12 rsf) :: (mce, aI g 480 cef) :: (mcp, aI g 40 cpf) :: rest) [(0, .ref mo), (1, .int se), (2, .int (nI iia))] 7 [.int (nI (thM R C op)), .int (nI iia)]
      refine X_icmp_ge K0 28 dX5_joins_7 (by decide) (fun h7 => ?_) (fun h7 => ?_)
      · exact absurd h7 (nI_ge hlta (by omega))
      · refine X_aload_n K0 0 dX5_joins_10 rfl rfl ?_
        refine X_get K0 12 rfl rfl hin5 9 (by decide) fl_RX5_26 rfl dX5_joins_11 ?_
        refine X_iload_n K0 2 dX5_joins_14 rfl rfl ?_
        refine X_aload_n K0 0 dX5_joins_15 rfl rfl ?_
        refine X_iload_n K0 2 dX5_joins_16 rfl rfl ?_
        refine X_iload_n K0 1 dX5_joins_17 rfl rfl ?_
        refine X_callV (As := [.int (nI iia), .int se]) (rest := [.int (nI iia), .ref mio]) K0 12 (m_opensBy g c0 c1 c2 c3 c4 c5 c6 c7 c8 c9 c10 c11 mo mki mel mto mio mwy mme mhs mso msr mrs mce mcp tn stt tr R C op hwb kinds elders tof (ovr iia (ioC kinds elders se) iof) wyf mef hsf sof srf rsf cef cpf rest iia (by omega) (hKI.ook (th_M hR hC) (by omega)) se) mi_X5_opensBy rfl rfl rfl ml_RX5_122 rfl (Nat.le_of_ble_eq_true rfl) (by decide) ⟨Nat.le_of_ble_eq_true rfl, Nat.le_of_ble_eq_true rfl⟩ rfl rfl dX5_joins_18 ?_
        intro v w' hr'; obtain ⟨rfl, rfl⟩ := hr'
        show X φ 0 0 (c0 :: c1 :: c2 :: c3 :: c4 :: c5 :: c6 :: c7 :: c8 :: c9 :: c10 :: c11 :: (mo, oModel tn stt tr (nI R) (nI C) (bI op) mki mel mto mio mwy (bI hwb) mme mhs mso msr mrs mce mcp) :: (mki, aI g 40 kinds) :: (mel, aI g 40 elders) :: (mto, aI g 25 tof) :: (mio, aZ g 40 (ovr iia (ioC kinds elders se) iof)) :: (mwy, aI g 4096 wyf) :: (mme, aZ g 36 mef) :: (mhs, aZ g 3 hsf) :: (mso, aI g 3 sof) :: (msr, aI g 3 srf) :: (mrs, aI g 12 rsf) :: (mce, aI g 480 cef) :: (mcp, aI g 40 cpf) :: rest) [(0, .ref mo), (1, .int se), (2, .int (nI iia))] 21 [.int (bI (obM kinds elders iia se)), .int (nI iia), .ref mio]
        refine X_zastN (w' := (c0 :: c1 :: c2 :: c3 :: c4 :: c5 :: c6 :: c7 :: c8 :: c9 :: c10 :: c11 :: (mo, oModel tn stt tr (nI R) (nI C) (bI op) mki mel mto mio mwy (bI hwb) mme mhs mso msr mrs mce mcp) :: (mki, aI g 40 kinds) :: (mel, aI g 40 elders) :: (mto, aI g 25 tof) :: (mio, aZ g 40 (upd (ovr iia (ioC kinds elders se) iof) iia (bI (obM kinds elders iia se)))) :: (mwy, aI g 4096 wyf) :: (mme, aZ g 36 mef) :: (mhs, aZ g 3 hsf) :: (mso, aI g 3 sof) :: (msr, aI g 3 srf) :: (mrs, aI g 12 rsf) :: (mce, aI g 480 cef) :: (mcp, aI g 40 cpf) :: rest)) K0 16 rfl (by omega) (by first | decide | omega) dX5_joins_21 rfl ?_
        refine X_iinc (v := ((nI iia) + 1)) (L' := [(2, .int ((nI iia) + 1)), (0, .ref mo), (1, .int se)]) K0 2 dX5_joins_22 rfl (by first | rfl | decide) (by decide) rfl ?_
        refine X_goto K0 2 dX5_joins_25 (by decide) ?_
        refine X.sub [1, 2, 0] (L' := [(0, .ref mo), (1, .int se), (2, .int ((nI iia) + 1))]) rfl ?_
        exact X_eq (by rw [ovr_s iia (ioC kinds elders se) iof (x := bI (obM kinds elders iia se)) rfl]) (by rw [nI_succ] <;> rfl) rfl (iha (iia + 1) (by omega))
  exact X_eq (by rw [ovr_0]) rfl rfl (LOOPa ((thM R C op)) 0 (by omega))
