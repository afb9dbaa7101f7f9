set_option maxRecDepth 20000 in
set_option maxHeartbeats 400000 in
theorem c_in (g : Gx) (w : va_W) (x a b : Int32) : Con g yX5_in cX5_in 3 (some .boolean) 0 0 0 0 [.int x, .int a, .int b] w (Rs (some (.int (bI (wiB x a b)))) w) := by
  refine Con.ofZ (by decide +kernel) (Nat.le_of_ble_eq_true rfl) (fun φ K0 hr => ?_)
  show X φ 0 0 w [(0, .int x), (1, .int a), (2, .int b)] 0 []
  refine X_iload_n K0 0 dX5_in_0 rfl rfl ?_
  refine X_iload_n K0 1 dX5_in_1 rfl rfl ?_
  refine X_icmp_lt K0 14 dX5_in_2 (by decide) (fun h2 => ?_) (fun h2 => ?_)
  · refine X_iconst (v := 0) K0 dX5_in_14 (by decide) ?_
    exact hr _ _ _ _ ⟨by first | (rw [wi_lo h2]; rfl) | (rw [wi_hi h7]; rfl) | (rw [wi_yes h2 h7]; rfl), rfl⟩ (by first | exact Or.inl rfl | exact Or.inr rfl) dX5_in_15
  · refine X_iload_n K0 0 dX5_in_5 rfl rfl ?_
    refine X_iload_n K0 2 dX5_in_6 rfl rfl ?_
    refine X_icmp_gt K0 14 dX5_in_7 (by decide) (fun h7 => ?_) (fun h7 => ?_)
    · refine X_iconst (v := 0) K0 dX5_in_14 (by decide) ?_
      exact hr _ _ _ _ ⟨by first | (rw [wi_lo h2]; rfl) | (rw [wi_hi h7]; rfl) | (rw [wi_yes h2 h7]; rfl), rfl⟩ (by first | exact Or.inl rfl | exact Or.inr rfl) dX5_in_15
    · refine X_iconst (v := 1) K0 dX5_in_10 (by decide) ?_
      refine X_goto K0 15 dX5_in_11 (by decide) ?_
      exact hr _ _ _ _ ⟨by first | (rw [wi_lo h2]; rfl) | (rw [wi_hi h7]; rfl) | (rw [wi_yes h2 h7]; rfl), rfl⟩ (by first | exact Or.inl rfl | exact Or.inr rfl) dX5_in_15

set_option maxRecDepth 20000 in
set_option maxHeartbeats 400000 in
theorem m_all (g : Gx) (c0 c1 c2 c3 c4 c5 c6 c7 c8 c9 c10 c11 : Nat × va_E) (mo mki mel mto mio mwy mme mhs mso msr mrs mce mcp : Nat) (tn stt : Int32) (tr : Int64) (R C : Nat) (op hwb : Bool) (kinds elders tof iof wyf mef hsf sof srf rsf cef cpf : Nat → Int32) (rest : va_W) (k : Int32) : Con g yX5_all cX5_all 3 none 0 0 0 0 [.ref mo, .int k] (c0 :: c1 :: c2 :: c3 :: c4 :: c5 :: c6 :: c7 :: c8 :: c9 :: c10 :: c11 :: (mo, oModel tn stt tr (nI R) (nI C) (bI op) mki mel mto mio mwy (bI hwb) mme mhs mso msr mrs mce mcp) :: (mki, aI g 40 kinds) :: (mel, aI g 40 elders) :: (mto, aI g 25 tof) :: (mio, aZ g 40 iof) :: (mwy, aI g 4096 wyf) :: (mme, aZ g 36 mef) :: (mhs, aZ g 3 hsf) :: (mso, aI g 3 sof) :: (msr, aI g 3 srf) :: (mrs, aI g 12 rsf) :: (mce, aI g 480 cef) :: (mcp, aI g 40 cpf) :: rest) (Rs none (c0 :: c1 :: c2 :: c3 :: c4 :: c5 :: c6 :: c7 :: c8 :: c9 :: c10 :: c11 :: (mo, oModel tn stt tr (nI R) (nI C) (bI op) mki mel mto mio mwy (bI false) mme mhs mso msr mrs mce mcp) :: (mki, aI g 40 (fiF kinds k 40)) :: (mel, aI g 40 (fiF elders (-9) 40)) :: (mto, aI g 25 tof) :: (mio, aZ g 40 iof) :: (mwy, aI g 4096 wyf) :: (mme, aZ g 36 mef) :: (mhs, aZ g 3 hsf) :: (mso, aI g 3 sof) :: (msr, aI g 3 srf) :: (mrs, aI g 12 rsf) :: (mce, aI g 480 cef) :: (mcp, aI g 40 cpf) :: rest)) := by
  refine Con.ofV (by decide +kernel) (Nat.le_of_ble_eq_true rfl) (fun φ K0 hr => ?_)
  show X φ 0 0 (c0 :: c1 :: c2 :: c3 :: c4 :: c5 :: c6 :: c7 :: c8 :: c9 :: c10 :: c11 :: (mo, oModel tn stt tr (nI R) (nI C) (bI op) mki mel mto mio mwy (bI hwb) mme mhs mso msr mrs mce mcp) :: (mki, aI g 40 kinds) :: (mel, aI g 40 elders) :: (mto, aI g 25 tof) :: (mio, aZ g 40 iof) :: (mwy, aI g 4096 wyf) :: (mme, aZ g 36 mef) :: (mhs, aZ g 3 hsf) :: (mso, aI g 3 sof) :: (msr, aI g 3 srf) :: (mrs, aI g 12 rsf) :: (mce, aI g 480 cef) :: (mcp, aI g 40 cpf) :: rest) [(0, .ref mo), (1, .int k)] 0 []
  refine X_iconst (v := 0) K0 dX5_all_0 (by decide) ?_
  refine X_istore_n (L' := [(2, .int 0), (0, .ref mo), (1, .int k)]) K0 dX5_all_1 rfl (by decide) rfl ?_
  refine X.sub [1, 2, 0] (L' := [(0, .ref mo), (1, .int k), (2, .int 0)]) rfl ?_
  have LOOP : ∀ (dd ii : Nat), ii + dd = 40 → X φ 0 0 (c0 :: c1 :: c2 :: c3 :: c4 :: c5 :: c6 :: c7 :: c8 :: c9 :: c10 :: c11 :: (mo, oModel tn stt tr (nI R) (nI C) (bI op) mki mel mto mio mwy (bI hwb) mme mhs mso msr mrs mce mcp) :: (mki, aI g 40 (fiF kinds k ii)) :: (mel, aI g 40 (fiF elders (-9) ii)) :: (mto, aI g 25 tof) :: (mio, aZ g 40 iof) :: (mwy, aI g 4096 wyf) :: (mme, aZ g 36 mef) :: (mhs, aZ g 3 hsf) :: (mso, aI g 3 sof) :: (msr, aI g 3 srf) :: (mrs, aI g 12 rsf) :: (mce, aI g 480 cef) :: (mcp, aI g 40 cpf) :: rest) [(0, .ref mo), (1, .int k), (2, .int (nI ii))] 2 [] := by
    intro dd
    induction dd with
    | zero =>
      intro ii hii 
      have hii2 : 40 = ii := by omega
      subst hii2
      refine X_iload_n K0 2 dX5_all_2 rfl rfl ?_
      refine X_bipush (v := 40) K0 dX5_all_3 (by decide) ?_
      refine X_icmp_ge K0 29 dX5_all_5 (by decide) (fun h5 => ?_) (fun h5 => ?_)
      · refine X_aload_n K0 0 dX5_all_29 rfl rfl ?_
        refine X_iconst (v := 0) K0 dX5_all_30 (by decide) ?_
        refine X_v (z := (bI false)) rfl ?_
        refine X_put (w' := (c0 :: c1 :: c2 :: c3 :: c4 :: c5 :: c6 :: c7 :: c8 :: c9 :: c10 :: c11 :: (mo, oModel tn stt tr (nI R) (nI C) (bI op) mki mel mto mio mwy (bI false) mme mhs mso msr mrs mce mcp) :: (mki, aI g 40 (fiF kinds k 40)) :: (mel, aI g 40 (fiF elders (-9) 40)) :: (mto, aI g 25 tof) :: (mio, aZ g 40 iof) :: (mwy, aI g 4096 wyf) :: (mme, aZ g 36 mef) :: (mhs, aZ g 3 hsf) :: (mso, aI g 3 sof) :: (msr, aI g 3 srf) :: (mrs, aI g 12 rsf) :: (mce, aI g 480 cef) :: (mcp, aI g 40 cpf) :: rest)) K0 12 rfl rfl hin5 tyX5 tyX5_ok nmX5 11 (by decide) fl_RX5_61 rfl (tyX5_ok 11 (by decide)) rfl rfl (Nat.le_of_ble_eq_true rfl) dX5_all_31 rfl ?_
        exact hr _ _ _ ⟨rfl, rfl⟩ dX5_all_34
      · exact absurd (nI_le (Nat.le_refl 40) (by decide)) h5
    | succ dd ih =>
      intro ii hii 
      have hlt : ii < 40 := by omega
      refine X_iload_n K0 2 dX5_all_2 rfl rfl ?_
      refine X_bipush (v := 40) K0 dX5_all_3 (by decide) ?_
      refine X_icmp_ge K0 29 dX5_all_5 (by decide) (fun h5 => ?_) (fun h5 => ?_)
      · exact absurd h5 (nI_ge (b := 40) hlt (by decide))
      · refine X_aload_n K0 0 dX5_all_8 rfl rfl ?_
        refine X_get K0 12 rfl rfl hin5 6 (by decide) fl_RX5_16 rfl dX5_all_9 ?_
        refine X_iload_n K0 2 dX5_all_12 rfl rfl ?_
        refine X_iload_n K0 1 dX5_all_13 rfl rfl ?_
        refine X_iastN (w' := (c0 :: c1 :: c2 :: c3 :: c4 :: c5 :: c6 :: c7 :: c8 :: c9 :: c10 :: c11 :: (mo, oModel tn stt tr (nI R) (nI C) (bI op) mki mel mto mio mwy (bI hwb) mme mhs mso msr mrs mce mcp) :: (mki, aI g 40 (upd (fiF kinds k ii) ii k)) :: (mel, aI g 40 (fiF elders (-9) ii)) :: (mto, aI g 25 tof) :: (mio, aZ g 40 iof) :: (mwy, aI g 4096 wyf) :: (mme, aZ g 36 mef) :: (mhs, aZ g 3 hsf) :: (mso, aI g 3 sof) :: (msr, aI g 3 srf) :: (mrs, aI g 12 rsf) :: (mce, aI g 480 cef) :: (mcp, aI g 40 cpf) :: rest)) K0 13 rfl (by omega) (by first | decide | omega) dX5_all_14 rfl ?_
        refine X_aload_n K0 0 dX5_all_15 rfl rfl ?_
        refine X_get K0 12 rfl rfl hin5 7 (by decide) fl_RX5_20 rfl dX5_all_16 ?_
        refine X_iload_n K0 2 dX5_all_19 rfl rfl ?_
        refine X_bipush (v := (-9)) K0 dX5_all_20 (by decide) ?_
        refine X_iastN (w' := (c0 :: c1 :: c2 :: c3 :: c4 :: c5 :: c6 :: c7 :: c8 :: c9 :: c10 :: c11 :: (mo, oModel tn stt tr (nI R) (nI C) (bI op) mki mel mto mio mwy (bI hwb) mme mhs mso msr mrs mce mcp) :: (mki, aI g 40 (upd (fiF kinds k ii) ii k)) :: (mel, aI g 40 (upd (fiF elders (-9) ii) ii (-9))) :: (mto, aI g 25 tof) :: (mio, aZ g 40 iof) :: (mwy, aI g 4096 wyf) :: (mme, aZ g 36 mef) :: (mhs, aZ g 3 hsf) :: (mso, aI g 3 sof) :: (msr, aI g 3 srf) :: (mrs, aI g 12 rsf) :: (mce, aI g 480 cef) :: (mcp, aI g 40 cpf) :: rest)) K0 14 rfl (by omega) (by first | decide | omega) dX5_all_22 rfl ?_
        refine X_iinc (v := ((nI ii) + 1)) (L' := [(2, .int ((nI ii) + 1)), (0, .ref mo), (1, .int k)]) K0 2 dX5_all_23 rfl (by first | rfl | decide) (by decide) rfl ?_
        refine X_goto K0 2 dX5_all_26 (by decide) ?_
        refine X.sub [1, 2, 0] (L' := [(0, .ref mo), (1, .int k), (2, .int ((nI ii) + 1))]) rfl ?_
        exact X_eq (by rw [fiF_s, fiF_s]) (by rw [nI_succ] <;> rfl) rfl (ih (ii + 1) (by omega))
  exact X_eq (by rw [fiF_0, fiF_0]) rfl rfl (LOOP 40 0 (by omega))

set_option maxRecDepth 20000 in
set_option maxHeartbeats 400000 in
theorem m_places (g : Gx) (c0 c1 c2 c3 c4 c5 c6 c7 c8 c9 c10 c11 : Nat × va_E) (mo mki mel mto mio mwy mme mhs mso msr mrs mce mcp : Nat) (tn stt : Int32) (tr : Int64) (R C : Nat) (op hwb : Bool) (kinds elders tof iof wyf mef hsf sof srf rsf cef cpf : Nat → Int32) (rest : va_W) (hR : 1 ≤ R ∧ R ≤ 5) (hC : 1 ≤ C ∧ C ≤ 5) : Con g yX5_places cX5_places 1 (some .int) 0 0 0 0 [.ref mo] (c0 :: c1 :: c2 :: c3 :: c4 :: c5 :: c6 :: c7 :: c8 :: c9 :: c10 :: c11 :: (mo, oModel tn stt tr (nI R) (nI C) (bI op) mki mel mto mio mwy (bI hwb) mme mhs mso msr mrs mce mcp) :: (mki, aI g 40 kinds) :: (mel, aI g 40 elders) :: (mto, aI g 25 tof) :: (mio, aZ g 40 iof) :: (mwy, aI g 4096 wyf) :: (mme, aZ g 36 mef) :: (mhs, aZ g 3 hsf) :: (mso, aI g 3 sof) :: (msr, aI g 3 srf) :: (mrs, aI g 12 rsf) :: (mce, aI g 480 cef) :: (mcp, aI g 40 cpf) :: rest) (Rs (some (.int (nI (R * C)))) (c0 :: c1 :: c2 :: c3 :: c4 :: c5 :: c6 :: c7 :: c8 :: c9 :: c10 :: c11 :: (mo, oModel tn stt tr (nI R) (nI C) (bI op) mki mel mto mio mwy (bI hwb) mme mhs mso msr mrs mce mcp) :: (mki, aI g 40 kinds) :: (mel, aI g 40 elders) :: (mto, aI g 25 tof) :: (mio, aZ g 40 iof) :: (mwy, aI g 4096 wyf) :: (mme, aZ g 36 mef) :: (mhs, aZ g 3 hsf) :: (mso, aI g 3 sof) :: (msr, aI g 3 srf) :: (mrs, aI g 12 rsf) :: (mce, aI g 480 cef) :: (mcp, aI g 40 cpf) :: rest)) := by
  have hTM := th_M (op := op) hR hC
  have hPM := pl_M hR hC
  have hRM := rd_M hR hC
  refine Con.ofI (by decide +kernel) (Nat.le_of_ble_eq_true rfl) (fun φ K0 hr => ?_)
  show X φ 0 0 (c0 :: c1 :: c2 :: c3 :: c4 :: c5 :: c6 :: c7 :: c8 :: c9 :: c10 :: c11 :: (mo, oModel tn stt tr (nI R) (nI C) (bI op) mki mel mto mio mwy (bI hwb) mme mhs mso msr mrs mce mcp) :: (mki, aI g 40 kinds) :: (mel, aI g 40 elders) :: (mto, aI g 25 tof) :: (mio, aZ g 40 iof) :: (mwy, aI g 4096 wyf) :: (mme, aZ g 36 mef) :: (mhs, aZ g 3 hsf) :: (mso, aI g 3 sof) :: (msr, aI g 3 srf) :: (mrs, aI g 12 rsf) :: (mce, aI g 480 cef) :: (mcp, aI g 40 cpf) :: rest) [(0, .ref mo)] 0 []
  refine X_aload_n K0 0 dX5_places_0 rfl rfl ?_
  refine X_get K0 12 rfl rfl hin5 3 (by decide) fl_RX5_7 rfl dX5_places_1 ?_
  refine X_aload_n K0 0 dX5_places_4 rfl rfl ?_
  refine X_get K0 12 rfl rfl hin5 4 (by decide) fl_RX5_13 rfl dX5_places_5 ?_
  refine X_imul K0 dX5_places_8 ?_
  exact hr _ _ _ _ ⟨by rw [pk_mul], rfl⟩ dX5_places_9

set_option maxRecDepth 20000 in
set_option maxHeartbeats 400000 in
theorem m_across (g : Gx) (c0 c1 c2 c3 c4 c5 c6 c7 c8 c9 c10 c11 : Nat × va_E) (mo mki mel mto mio mwy mme mhs mso msr mrs mce mcp : Nat) (tn stt : Int32) (tr : Int64) (R C : Nat) (op hwb : Bool) (kinds elders tof iof wyf mef hsf sof srf rsf cef cpf : Nat → Int32) (rest : va_W) (hR : 1 ≤ R ∧ R ≤ 5) (hC : 1 ≤ C ∧ C ≤ 5) : Con g yX5_across cX5_across 1 (some .int) 0 0 0 0 [.ref mo] (c0 :: c1 :: c2 :: c3 :: c4 :: c5 :: c6 :: c7 :: c8 :: c9 :: c10 :: c11 :: (mo, oModel tn stt tr (nI R) (nI C) (bI op) mki mel mto mio mwy (bI hwb) mme mhs mso msr mrs mce mcp) :: (mki, aI g 40 kinds) :: (mel, aI g 40 elders) :: (mto, aI g 25 tof) :: (mio, aZ g 40 iof) :: (mwy, aI g 4096 wyf) :: (mme, aZ g 36 mef) :: (mhs, aZ g 3 hsf) :: (mso, aI g 3 sof) :: (msr, aI g 3 srf) :: (mrs, aI g 12 rsf) :: (mce, aI g 480 cef) :: (mcp, aI g 40 cpf) :: rest) (Rs (some (.int (nI (R * (C - 1))))) (c0 :: c1 :: c2 :: c3 :: c4 :: c5 :: c6 :: c7 :: c8 :: c9 :: c10 :: c11 :: (mo, oModel tn stt tr (nI R) (nI C) (bI op) mki mel mto mio mwy (bI hwb) mme mhs mso msr mrs mce mcp) :: (mki, aI g 40 kinds) :: (mel, aI g 40 elders) :: (mto, aI g 25 tof) :: (mio, aZ g 40 iof) :: (mwy, aI g 4096 wyf) :: (mme, aZ g 36 mef) :: (mhs, aZ g 3 hsf) :: (mso, aI g 3 sof) :: (msr, aI g 3 srf) :: (mrs, aI g 12 rsf) :: (mce, aI g 480 cef) :: (mcp, aI g 40 cpf) :: rest)) := by
  have hTM := th_M (op := op) hR hC
  have hPM := pl_M hR hC
  have hRM := rd_M hR hC
  refine Con.ofI (by decide +kernel) (Nat.le_of_ble_eq_true rfl) (fun φ K0 hr => ?_)
  show X φ 0 0 (c0 :: c1 :: c2 :: c3 :: c4 :: c5 :: c6 :: c7 :: c8 :: c9 :: c10 :: c11 :: (mo, oModel tn stt tr (nI R) (nI C) (bI op) mki mel mto mio mwy (bI hwb) mme mhs mso msr mrs mce mcp) :: (mki, aI g 40 kinds) :: (mel, aI g 40 elders) :: (mto, aI g 25 tof) :: (mio, aZ g 40 iof) :: (mwy, aI g 4096 wyf) :: (mme, aZ g 36 mef) :: (mhs, aZ g 3 hsf) :: (mso, aI g 3 sof) :: (msr, aI g 3 srf) :: (mrs, aI g 12 rsf) :: (mce, aI g 480 cef) :: (mcp, aI g 40 cpf) :: rest) [(0, .ref mo)] 0 []
  refine X_aload_n K0 0 dX5_across_0 rfl rfl ?_
  refine X_get K0 12 rfl rfl hin5 3 (by decide) fl_RX5_7 rfl dX5_across_1 ?_
  refine X_aload_n K0 0 dX5_across_4 rfl rfl ?_
  refine X_get K0 12 rfl rfl hin5 4 (by decide) fl_RX5_13 rfl dX5_across_5 ?_
  refine X_iconst (v := 1) K0 dX5_across_8 (by decide) ?_
  refine X_isub K0 dX5_across_9 ?_
  refine X_v (z := (nI (C - 1))) (nI_sub1 hC.1) ?_
  refine X_imul K0 dX5_across_10 ?_
  exact hr _ _ _ _ ⟨by rw [pk_mul], rfl⟩ dX5_across_11

set_option maxRecDepth 20000 in
set_option maxHeartbeats 400000 in
theorem m_roads (g : Gx) (c0 c1 c2 c3 c4 c5 c6 c7 c8 c9 c10 c11 : Nat × va_E) (mo mki mel mto mio mwy mme mhs mso msr mrs mce mcp : Nat) (tn stt : Int32) (tr : Int64) (R C : Nat) (op hwb : Bool) (kinds elders tof iof wyf mef hsf sof srf rsf cef cpf : Nat → Int32) (rest : va_W) (hR : 1 ≤ R ∧ R ≤ 5) (hC : 1 ≤ C ∧ C ≤ 5) : Con g yX5_roads cX5_roads 1 (some .int) 1 20 0 0 [.ref mo] (c0 :: c1 :: c2 :: c3 :: c4 :: c5 :: c6 :: c7 :: c8 :: c9 :: c10 :: c11 :: (mo, oModel tn stt tr (nI R) (nI C) (bI op) mki mel mto mio mwy (bI hwb) mme mhs mso msr mrs mce mcp) :: (mki, aI g 40 kinds) :: (mel, aI g 40 elders) :: (mto, aI g 25 tof) :: (mio, aZ g 40 iof) :: (mwy, aI g 4096 wyf) :: (mme, aZ g 36 mef) :: (mhs, aZ g 3 hsf) :: (mso, aI g 3 sof) :: (msr, aI g 3 srf) :: (mrs, aI g 12 rsf) :: (mce, aI g 480 cef) :: (mcp, aI g 40 cpf) :: rest) (Rs (some (.int (nI (rdM R C)))) (c0 :: c1 :: c2 :: c3 :: c4 :: c5 :: c6 :: c7 :: c8 :: c9 :: c10 :: c11 :: (mo, oModel tn stt tr (nI R) (nI C) (bI op) mki mel mto mio mwy (bI hwb) mme mhs mso msr mrs mce mcp) :: (mki, aI g 40 kinds) :: (mel, aI g 40 elders) :: (mto, aI g 25 tof) :: (mio, aZ g 40 iof) :: (mwy, aI g 4096 wyf) :: (mme, aZ g 36 mef) :: (mhs, aZ g 3 hsf) :: (mso, aI g 3 sof) :: (msr, aI g 3 srf) :: (mrs, aI g 12 rsf) :: (mce, aI g 480 cef) :: (mcp, aI g 40 cpf) :: rest)) := by
  have hTM := th_M (op := op) hR hC
  have hPM := pl_M hR hC
  have hRM := rd_M hR hC
  refine Con.ofI (by decide +kernel) (Nat.le_of_ble_eq_true rfl) (fun φ K0 hr => ?_)
  show X φ 0 0 (c0 :: c1 :: c2 :: c3 :: c4 :: c5 :: c6 :: c7 :: c8 :: c9 :: c10 :: c11 :: (mo, oModel tn stt tr (nI R) (nI C) (bI op) mki mel mto mio mwy (bI hwb) mme mhs mso msr mrs mce mcp) :: (mki, aI g 40 kinds) :: (mel, aI g 40 elders) :: (mto, aI g 25 tof) :: (mio, aZ g 40 iof) :: (mwy, aI g 4096 wyf) :: (mme, aZ g 36 mef) :: (mhs, aZ g 3 hsf) :: (mso, aI g 3 sof) :: (msr, aI g 3 srf) :: (mrs, aI g 12 rsf) :: (mce, aI g 480 cef) :: (mcp, aI g 40 cpf) :: rest) [(0, .ref mo)] 0 []
  refine X_aload_n K0 0 dX5_roads_0 rfl rfl ?_
  refine X_callV (As := []) (rest := []) K0 12 (m_across g c0 c1 c2 c3 c4 c5 c6 c7 c8 c9 c10 c11 mo mki mel mto mio mwy mme mhs mso msr mrs mce mcp tn stt tr R C op hwb kinds elders tof iof wyf mef hsf sof srf rsf cef cpf rest hR hC ) mi_X5_across rfl rfl rfl ml_RX5_65 rfl (Nat.le_of_ble_eq_true rfl) (by decide) ⟨Nat.le_of_ble_eq_true rfl, Nat.le_of_ble_eq_true rfl⟩ rfl rfl dX5_roads_1 ?_
  intro v w' hr'; obtain ⟨rfl, rfl⟩ := hr'
  show X φ 0 0 (c0 :: c1 :: c2 :: c3 :: c4 :: c5 :: c6 :: c7 :: c8 :: c9 :: c10 :: c11 :: (mo, oModel tn stt tr (nI R) (nI C) (bI op) mki mel mto mio mwy (bI hwb) mme mhs mso msr mrs mce mcp) :: (mki, aI g 40 kinds) :: (mel, aI g 40 elders) :: (mto, aI g 25 tof) :: (mio, aZ g 40 iof) :: (mwy, aI g 4096 wyf) :: (mme, aZ g 36 mef) :: (mhs, aZ g 3 hsf) :: (mso, aI g 3 sof) :: (msr, aI g 3 srf) :: (mrs, aI g 12 rsf) :: (mce, aI g 480 cef) :: (mcp, aI g 40 cpf) :: rest) [(0, .ref mo)] 4 [.int (nI (R * (C - 1)))]
  refine X_aload_n K0 0 dX5_roads_4 rfl rfl ?_
  refine X_get K0 12 rfl rfl hin5 3 (by decide) fl_RX5_7 rfl dX5_roads_5 ?_
  refine X_iconst (v := 1) K0 dX5_roads_8 (by decide) ?_
  refine X_isub K0 dX5_roads_9 ?_
  refine X_v (z := (nI (R - 1))) (nI_sub1 hR.1) ?_
  refine X_aload_n K0 0 dX5_roads_10 rfl rfl ?_
  refine X_get K0 12 rfl rfl hin5 4 (by decide) fl_RX5_13 rfl dX5_roads_11 ?_
  refine X_imul K0 dX5_roads_14 ?_
  refine X_iadd K0 dX5_roads_15 ?_
  exact hr _ _ _ _ ⟨by rw [pk_mul, nI_add]; rfl, rfl⟩ dX5_roads_16

set_option maxRecDepth 20000 in
set_option maxHeartbeats 400000 in
theorem m_things (g : Gx) (c0 c1 c2 c3 c4 c5 c6 c7 c8 c9 c10 c11 : Nat × va_E) (mo mki mel mto mio mwy mme mhs mso msr mrs mce mcp : Nat) (tn stt : Int32) (tr : Int64) (R C : Nat) (op hwb : Bool) (kinds elders tof iof wyf mef hsf sof srf rsf cef cpf : Nat → Int32) (rest : va_W) (hR : 1 ≤ R ∧ R ≤ 5) (hC : 1 ≤ C ∧ C ≤ 5) : Con g yX5_things cX5_things 1 (some .int) 2 40 0 0 [.ref mo] (c0 :: c1 :: c2 :: c3 :: c4 :: c5 :: c6 :: c7 :: c8 :: c9 :: c10 :: c11 :: (mo, oModel tn stt tr (nI R) (nI C) (bI op) mki mel mto mio mwy (bI hwb) mme mhs mso msr mrs mce mcp) :: (mki, aI g 40 kinds) :: (mel, aI g 40 elders) :: (mto, aI g 25 tof) :: (mio, aZ g 40 iof) :: (mwy, aI g 4096 wyf) :: (mme, aZ g 36 mef) :: (mhs, aZ g 3 hsf) :: (mso, aI g 3 sof) :: (msr, aI g 3 srf) :: (mrs, aI g 12 rsf) :: (mce, aI g 480 cef) :: (mcp, aI g 40 cpf) :: rest) (Rs (some (.int (nI (thM R C op)))) (c0 :: c1 :: c2 :: c3 :: c4 :: c5 :: c6 :: c7 :: c8 :: c9 :: c10 :: c11 :: (mo, oModel tn stt tr (nI R) (nI C) (bI op) mki mel mto mio mwy (bI hwb) mme mhs mso msr mrs mce mcp) :: (mki, aI g 40 kinds) :: (mel, aI g 40 elders) :: (mto, aI g 25 tof) :: (mio, aZ g 40 iof) :: (mwy, aI g 4096 wyf) :: (mme, aZ g 36 mef) :: (mhs, aZ g 3 hsf) :: (mso, aI g 3 sof) :: (msr, aI g 3 srf) :: (mrs, aI g 12 rsf) :: (mce, aI g 480 cef) :: (mcp, aI g 40 cpf) :: rest)) := by
  have hTM := th_M (op := op) hR hC
  have hPM := pl_M hR hC
  have hRM := rd_M hR hC
  refine Con.ofI (by decide +kernel) (Nat.le_of_ble_eq_true rfl) (fun φ K0 hr => ?_)
  show X φ 0 0 (c0 :: c1 :: c2 :: c3 :: c4 :: c5 :: c6 :: c7 :: c8 :: c9 :: c10 :: c11 :: (mo, oModel tn stt tr (nI R) (nI C) (bI op) mki mel mto mio mwy (bI hwb) mme mhs mso msr mrs mce mcp) :: (mki, aI g 40 kinds) :: (mel, aI g 40 elders) :: (mto, aI g 25 tof) :: (mio, aZ g 40 iof) :: (mwy, aI g 4096 wyf) :: (mme, aZ g 36 mef) :: (mhs, aZ g 3 hsf) :: (mso, aI g 3 sof) :: (msr, aI g 3 srf) :: (mrs, aI g 12 rsf) :: (mce, aI g 480 cef) :: (mcp, aI g 40 cpf) :: rest) [(0, .ref mo)] 0 []
  refine X_aload_n K0 0 dX5_things_0 rfl rfl ?_
  refine X_get K0 12 rfl rfl hin5 5 (by decide) fl_RX5_69 rfl dX5_things_1 ?_
  refine X_if_eq K0 14 dX5_things_4 (by decide) (fun h4 => ?_) (fun h4 => ?_)
  · refine X_aload_n K0 0 dX5_things_14 rfl rfl ?_
    refine X_callV (As := []) (rest := []) K0 12 (m_roads g c0 c1 c2 c3 c4 c5 c6 c7 c8 c9 c10 c11 mo mki mel mto mio mwy mme mhs mso msr mrs mce mcp tn stt tr R C op hwb kinds elders tof iof wyf mef hsf sof srf rsf cef cpf rest hR hC ) mi_X5_roads rfl rfl rfl ml_RX5_75 rfl (Nat.le_of_ble_eq_true rfl) (by decide) ⟨Nat.le_of_ble_eq_true rfl, Nat.le_of_ble_eq_true rfl⟩ rfl rfl dX5_things_15 ?_
    intro v w' hr'; obtain ⟨rfl, rfl⟩ := hr'
    show X φ 0 0 (c0 :: c1 :: c2 :: c3 :: c4 :: c5 :: c6 :: c7 :: c8 :: c9 :: c10 :: c11 :: (mo, oModel tn stt tr (nI R) (nI C) (bI op) mki mel mto mio mwy (bI hwb) mme mhs mso msr mrs mce mcp) :: (mki, aI g 40 kinds) :: (mel, aI g 40 elders) :: (mto, aI g 25 tof) :: (mio, aZ g 40 iof) :: (mwy, aI g 4096 wyf) :: (mme, aZ g 36 mef) :: (mhs, aZ g 3 hsf) :: (mso, aI g 3 sof) :: (msr, aI g 3 srf) :: (mrs, aI g 12 rsf) :: (mce, aI g 480 cef) :: (mcp, aI g 40 cpf) :: rest) [(0, .ref mo)] 18 [.int (nI (rdM R C))]
    exact hr _ _ _ _ ⟨by first | rw [th_t (bI_n0.mp h4)] | rw [th_f (bI_0.mp h4)], rfl⟩ dX5_things_18
  · refine X_aload_n K0 0 dX5_things_7 rfl rfl ?_
    refine X_callV (As := []) (rest := []) K0 12 (m_places g c0 c1 c2 c3 c4 c5 c6 c7 c8 c9 c10 c11 mo mki mel mto mio mwy mme mhs mso msr mrs mce mcp tn stt tr R C op hwb kinds elders tof iof wyf mef hsf sof srf rsf cef cpf rest hR hC ) mi_X5_places rfl rfl rfl ml_RX5_72 rfl (Nat.le_of_ble_eq_true rfl) (by decide) ⟨Nat.le_of_ble_eq_true rfl, Nat.le_of_ble_eq_true rfl⟩ rfl rfl dX5_things_8 ?_
    intro v w' hr'; obtain ⟨rfl, rfl⟩ := hr'
    show X φ 0 0 (c0 :: c1 :: c2 :: c3 :: c4 :: c5 :: c6 :: c7 :: c8 :: c9 :: c10 :: c11 :: (mo, oModel tn stt tr (nI R) (nI C) (bI op) mki mel mto mio mwy (bI hwb) mme mhs mso msr mrs mce mcp) :: (mki, aI g 40 kinds) :: (mel, aI g 40 elders) :: (mto, aI g 25 tof) :: (mio, aZ g 40 iof) :: (mwy, aI g 4096 wyf) :: (mme, aZ g 36 mef) :: (mhs, aZ g 3 hsf) :: (mso, aI g 3 sof) :: (msr, aI g 3 srf) :: (mrs, aI g 12 rsf) :: (mce, aI g 480 cef) :: (mcp, aI g 40 cpf) :: rest) [(0, .ref mo)] 11 [.int (nI (R * C))]
    refine X_goto K0 18 dX5_things_11 (by decide) ?_
    exact hr _ _ _ _ ⟨by first | rw [th_t (bI_n0.mp h4)] | rw [th_f (bI_0.mp h4)], rfl⟩ dX5_things_18

set_option maxRecDepth 20000 in
set_option maxHeartbeats 400000 in
theorem m_isThing (g : Gx) (c0 c1 c2 c3 c4 c5 c6 c7 c8 c9 c10 c11 : Nat × va_E) (mo mki mel mto mio mwy mme mhs mso msr mrs mce mcp : Nat) (tn stt : Int32) (tr : Int64) (R C : Nat) (op hwb : Bool) (kinds elders tof iof wyf mef hsf sof srf rsf cef cpf : Nat → Int32) (rest : va_W) (hR : 1 ≤ R ∧ R ≤ 5) (hC : 1 ≤ C ∧ C ≤ 5) (x : Int32) : Con g yX5_isThing cX5_isThing 2 (some .boolean) 3 60 0 0 [.ref mo, .int x] (c0 :: c1 :: c2 :: c3 :: c4 :: c5 :: c6 :: c7 :: c8 :: c9 :: c10 :: c11 :: (mo, oModel tn stt tr (nI R) (nI C) (bI op) mki mel mto mio mwy (bI hwb) mme mhs mso msr mrs mce mcp) :: (mki, aI g 40 kinds) :: (mel, aI g 40 elders) :: (mto, aI g 25 tof) :: (mio, aZ g 40 iof) :: (mwy, aI g 4096 wyf) :: (mme, aZ g 36 mef) :: (mhs, aZ g 3 hsf) :: (mso, aI g 3 sof) :: (msr, aI g 3 srf) :: (mrs, aI g 12 rsf) :: (mce, aI g 480 cef) :: (mcp, aI g 40 cpf) :: rest) (Rs (some (.int (bI (wiB x 0 (nI (thM R C op) - 1))))) (c0 :: c1 :: c2 :: c3 :: c4 :: c5 :: c6 :: c7 :: c8 :: c9 :: c10 :: c11 :: (mo, oModel tn stt tr (nI R) (nI C) (bI op) mki mel mto mio mwy (bI hwb) mme mhs mso msr mrs mce mcp) :: (mki, aI g 40 kinds) :: (mel, aI g 40 elders) :: (mto, aI g 25 tof) :: (mio, aZ g 40 iof) :: (mwy, aI g 4096 wyf) :: (mme, aZ g 36 mef) :: (mhs, aZ g 3 hsf) :: (mso, aI g 3 sof) :: (msr, aI g 3 srf) :: (mrs, aI g 12 rsf) :: (mce, aI g 480 cef) :: (mcp, aI g 40 cpf) :: rest)) := by
  have hTM := th_M (op := op) hR hC
  have hPM := pl_M hR hC
  have hRM := rd_M hR hC
  refine Con.ofZ (by decide +kernel) (Nat.le_of_ble_eq_true rfl) (fun φ K0 hr => ?_)
  show X φ 0 0 (c0 :: c1 :: c2 :: c3 :: c4 :: c5 :: c6 :: c7 :: c8 :: c9 :: c10 :: c11 :: (mo, oModel tn stt tr (nI R) (nI C) (bI op) mki mel mto mio mwy (bI hwb) mme mhs mso msr mrs mce mcp) :: (mki, aI g 40 kinds) :: (mel, aI g 40 elders) :: (mto, aI g 25 tof) :: (mio, aZ g 40 iof) :: (mwy, aI g 4096 wyf) :: (mme, aZ g 36 mef) :: (mhs, aZ g 3 hsf) :: (mso, aI g 3 sof) :: (msr, aI g 3 srf) :: (mrs, aI g 12 rsf) :: (mce, aI g 480 cef) :: (mcp, aI g 40 cpf) :: rest) [(0, .ref mo), (1, .int x)] 0 []
  refine X_iload_n K0 1 dX5_isThing_0 rfl rfl ?_
  refine X_iconst (v := 0) K0 dX5_isThing_1 (by decide) ?_
  refine X_aload_n K0 0 dX5_isThing_2 rfl rfl ?_
  refine X_callV (As := []) (rest := [.int 0, .int x]) K0 12 (m_things g c0 c1 c2 c3 c4 c5 c6 c7 c8 c9 c10 c11 mo mki mel mto mio mwy mme mhs mso msr mrs mce mcp tn stt tr R C op hwb kinds elders tof iof wyf mef hsf sof srf rsf cef cpf rest hR hC ) mi_X5_things rfl rfl rfl ml_RX5_78 rfl (Nat.le_of_ble_eq_true rfl) (by decide) ⟨Nat.le_of_ble_eq_true rfl, Nat.le_of_ble_eq_true rfl⟩ rfl rfl dX5_isThing_3 ?_
  intro v w' hr'; obtain ⟨rfl, rfl⟩ := hr'
  show X φ 0 0 (c0 :: c1 :: c2 :: c3 :: c4 :: c5 :: c6 :: c7 :: c8 :: c9 :: c10 :: c11 :: (mo, oModel tn stt tr (nI R) (nI C) (bI op) mki mel mto mio mwy (bI hwb) mme mhs mso msr mrs mce mcp) :: (mki, aI g 40 kinds) :: (mel, aI g 40 elders) :: (mto, aI g 25 tof) :: (mio, aZ g 40 iof) :: (mwy, aI g 4096 wyf) :: (mme, aZ g 36 mef) :: (mhs, aZ g 3 hsf) :: (mso, aI g 3 sof) :: (msr, aI g 3 srf) :: (mrs, aI g 12 rsf) :: (mce, aI g 480 cef) :: (mcp, aI g 40 cpf) :: rest) [(0, .ref mo), (1, .int x)] 6 [.int (nI (thM R C op)), .int 0, .int x]
  refine X_iconst (v := 1) K0 dX5_isThing_6 (by decide) ?_
  refine X_isub K0 dX5_isThing_7 ?_
  refine X_callS (As := [.int x, .int 0, .int ((nI (thM R C op)) - 1)]) (rest := []) K0 (c_in g (c0 :: c1 :: c2 :: c3 :: c4 :: c5 :: c6 :: c7 :: c8 :: c9 :: c10 :: c11 :: (mo, oModel tn stt tr (nI R) (nI C) (bI op) mki mel mto mio mwy (bI hwb) mme mhs mso msr mrs mce mcp) :: (mki, aI g 40 kinds) :: (mel, aI g 40 elders) :: (mto, aI g 25 tof) :: (mio, aZ g 40 iof) :: (mwy, aI g 4096 wyf) :: (mme, aZ g 36 mef) :: (mhs, aZ g 3 hsf) :: (mso, aI g 3 sof) :: (msr, aI g 3 srf) :: (mrs, aI g 12 rsf) :: (mce, aI g 480 cef) :: (mcp, aI g 40 cpf) :: rest) x 0 ((nI (thM R C op)) - 1)) ms_X5_in rfl ml_RX5_81 rfl (Nat.le_of_ble_eq_true rfl) (by decide) ⟨Nat.le_of_ble_eq_true rfl, Nat.le_of_ble_eq_true rfl⟩ rfl rfl dX5_isThing_8 ?_
  intro v w' hr'; obtain ⟨rfl, rfl⟩ := hr'
  show X φ 0 0 (c0 :: c1 :: c2 :: c3 :: c4 :: c5 :: c6 :: c7 :: c8 :: c9 :: c10 :: c11 :: (mo, oModel tn stt tr (nI R) (nI C) (bI op) mki mel mto mio mwy (bI hwb) mme mhs mso msr mrs mce mcp) :: (mki, aI g 40 kinds) :: (mel, aI g 40 elders) :: (mto, aI g 25 tof) :: (mio, aZ g 40 iof) :: (mwy, aI g 4096 wyf) :: (mme, aZ g 36 mef) :: (mhs, aZ g 3 hsf) :: (mso, aI g 3 sof) :: (msr, aI g 3 srf) :: (mrs, aI g 12 rsf) :: (mce, aI g 480 cef) :: (mcp, aI g 40 cpf) :: rest) [(0, .ref mo), (1, .int x)] 11 [.int (bI (wiB x 0 ((nI (thM R C op)) - 1)))]
  exact hr _ _ _ _ ⟨rfl, rfl⟩ (bI_01 _) dX5_isThing_11

set_option maxRecDepth 20000 in
set_option maxHeartbeats 400000 in
theorem m_isPlace (g : Gx) (c0 c1 c2 c3 c4 c5 c6 c7 c8 c9 c10 c11 : Nat × va_E) (mo mki mel mto mio mwy mme mhs mso msr mrs mce mcp : Nat) (tn stt : Int32) (tr : Int64) (R C : Nat) (op hwb : Bool) (kinds elders tof iof wyf mef hsf sof srf rsf cef cpf : Nat → Int32) (rest : va_W) (hR : 1 ≤ R ∧ R ≤ 5) (hC : 1 ≤ C ∧ C ≤ 5) (x : Int32) : Con g yX5_isPlace cX5_isPlace 2 (some .boolean) 1 22 0 0 [.ref mo, .int x] (c0 :: c1 :: c2 :: c3 :: c4 :: c5 :: c6 :: c7 :: c8 :: c9 :: c10 :: c11 :: (mo, oModel tn stt tr (nI R) (nI C) (bI op) mki mel mto mio mwy (bI hwb) mme mhs mso msr mrs mce mcp) :: (mki, aI g 40 kinds) :: (mel, aI g 40 elders) :: (mto, aI g 25 tof) :: (mio, aZ g 40 iof) :: (mwy, aI g 4096 wyf) :: (mme, aZ g 36 mef) :: (mhs, aZ g 3 hsf) :: (mso, aI g 3 sof) :: (msr, aI g 3 srf) :: (mrs, aI g 12 rsf) :: (mce, aI g 480 cef) :: (mcp, aI g 40 cpf) :: rest) (Rs (some (.int (bI (wiB x 0 (nI (R * C) - 1))))) (c0 :: c1 :: c2 :: c3 :: c4 :: c5 :: c6 :: c7 :: c8 :: c9 :: c10 :: c11 :: (mo, oModel tn stt tr (nI R) (nI C) (bI op) mki mel mto mio mwy (bI hwb) mme mhs mso msr mrs mce mcp) :: (mki, aI g 40 kinds) :: (mel, aI g 40 elders) :: (mto, aI g 25 tof) :: (mio, aZ g 40 iof) :: (mwy, aI g 4096 wyf) :: (mme, aZ g 36 mef) :: (mhs, aZ g 3 hsf) :: (mso, aI g 3 sof) :: (msr, aI g 3 srf) :: (mrs, aI g 12 rsf) :: (mce, aI g 480 cef) :: (mcp, aI g 40 cpf) :: rest)) := by
  have hTM := th_M (op := op) hR hC
  have hPM := pl_M hR hC
  have hRM := rd_M hR hC
  refine Con.ofZ (by decide +kernel) (Nat.le_of_ble_eq_true rfl) (fun φ K0 hr => ?_)
  show X φ 0 0 (c0 :: c1 :: c2 :: c3 :: c4 :: c5 :: c6 :: c7 :: c8 :: c9 :: c10 :: c11 :: (mo, oModel tn stt tr (nI R) (nI C) (bI op) mki mel mto mio mwy (bI hwb) mme mhs mso msr mrs mce mcp) :: (mki, aI g 40 kinds) :: (mel, aI g 40 elders) :: (mto, aI g 25 tof) :: (mio, aZ g 40 iof) :: (mwy, aI g 4096 wyf) :: (mme, aZ g 36 mef) :: (mhs, aZ g 3 hsf) :: (mso, aI g 3 sof) :: (msr, aI g 3 srf) :: (mrs, aI g 12 rsf) :: (mce, aI g 480 cef) :: (mcp, aI g 40 cpf) :: rest) [(0, .ref mo), (1, .int x)] 0 []
  refine X_iload_n K0 1 dX5_isPlace_0 rfl rfl ?_
  refine X_iconst (v := 0) K0 dX5_isPlace_1 (by decide) ?_
  refine X_aload_n K0 0 dX5_isPlace_2 rfl rfl ?_
  refine X_callV (As := []) (rest := [.int 0, .int x]) K0 12 (m_places g c0 c1 c2 c3 c4 c5 c6 c7 c8 c9 c10 c11 mo mki mel mto mio mwy mme mhs mso msr mrs mce mcp tn stt tr R C op hwb kinds elders tof iof wyf mef hsf sof srf rsf cef cpf rest hR hC ) mi_X5_places rfl rfl rfl ml_RX5_72 rfl (Nat.le_of_ble_eq_true rfl) (by decide) ⟨Nat.le_of_ble_eq_true rfl, Nat.le_of_ble_eq_true rfl⟩ rfl rfl dX5_isPlace_3 ?_
  intro v w' hr'; obtain ⟨rfl, rfl⟩ := hr'
  show X φ 0 0 (c0 :: c1 :: c2 :: c3 :: c4 :: c5 :: c6 :: c7 :: c8 :: c9 :: c10 :: c11 :: (mo, oModel tn stt tr (nI R) (nI C) (bI op) mki mel mto mio mwy (bI hwb) mme mhs mso msr mrs mce mcp) :: (mki, aI g 40 kinds) :: (mel, aI g 40 elders) :: (mto, aI g 25 tof) :: (mio, aZ g 40 iof) :: (mwy, aI g 4096 wyf) :: (mme, aZ g 36 mef) :: (mhs, aZ g 3 hsf) :: (mso, aI g 3 sof) :: (msr, aI g 3 srf) :: (mrs, aI g 12 rsf) :: (mce, aI g 480 cef) :: (mcp, aI g 40 cpf) :: rest) [(0, .ref mo), (1, .int x)] 6 [.int (nI (R * C)), .int 0, .int x]
  refine X_iconst (v := 1) K0 dX5_isPlace_6 (by decide) ?_
  refine X_isub K0 dX5_isPlace_7 ?_
  refine X_callS (As := [.int x, .int 0, .int ((nI (R * C)) - 1)]) (rest := []) K0 (c_in g (c0 :: c1 :: c2 :: c3 :: c4 :: c5 :: c6 :: c7 :: c8 :: c9 :: c10 :: c11 :: (mo, oModel tn stt tr (nI R) (nI C) (bI op) mki mel mto mio mwy (bI hwb) mme mhs mso msr mrs mce mcp) :: (mki, aI g 40 kinds) :: (mel, aI g 40 elders) :: (mto, aI g 25 tof) :: (mio, aZ g 40 iof) :: (mwy, aI g 4096 wyf) :: (mme, aZ g 36 mef) :: (mhs, aZ g 3 hsf) :: (mso, aI g 3 sof) :: (msr, aI g 3 srf) :: (mrs, aI g 12 rsf) :: (mce, aI g 480 cef) :: (mcp, aI g 40 cpf) :: rest) x 0 ((nI (R * C)) - 1)) ms_X5_in rfl ml_RX5_81 rfl (Nat.le_of_ble_eq_true rfl) (by decide) ⟨Nat.le_of_ble_eq_true rfl, Nat.le_of_ble_eq_true rfl⟩ rfl rfl dX5_isPlace_8 ?_
  intro v w' hr'; obtain ⟨rfl, rfl⟩ := hr'
  show X φ 0 0 (c0 :: c1 :: c2 :: c3 :: c4 :: c5 :: c6 :: c7 :: c8 :: c9 :: c10 :: c11 :: (mo, oModel tn stt tr (nI R) (nI C) (bI op) mki mel mto mio mwy (bI hwb) mme mhs mso msr mrs mce mcp) :: (mki, aI g 40 kinds) :: (mel, aI g 40 elders) :: (mto, aI g 25 tof) :: (mio, aZ g 40 iof) :: (mwy, aI g 4096 wyf) :: (mme, aZ g 36 mef) :: (mhs, aZ g 3 hsf) :: (mso, aI g 3 sof) :: (msr, aI g 3 srf) :: (mrs, aI g 12 rsf) :: (mce, aI g 480 cef) :: (mcp, aI g 40 cpf) :: rest) [(0, .ref mo), (1, .int x)] 11 [.int (bI (wiB x 0 ((nI (R * C)) - 1)))]
  exact hr _ _ _ _ ⟨rfl, rfl⟩ (bI_01 _) dX5_isPlace_11

set_option maxRecDepth 20000 in
set_option maxHeartbeats 400000 in
theorem m_end (g : Gx) (c0 c1 c2 c3 c4 c5 c6 c7 c8 c9 c10 c11 : Nat × va_E) (mo mki mel mto mio mwy mme mhs mso msr mrs mce mcp : Nat) (tn stt : Int32) (tr : Int64) (R C : Nat) (op hwb : Bool) (kinds elders tof iof wyf mef hsf sof srf rsf cef cpf : Nat → Int32) (rest : va_W) (hR : 1 ≤ R ∧ R ≤ 5) (hC : 1 ≤ C ∧ C ≤ 5) (t : Nat) (ht : t < 40) (b : Bool) : Con g yX5_end cX5_end 4 (some .int) 1 20 0 0 [.ref mo, .int (nI t), .int (bI b)] (c0 :: c1 :: c2 :: c3 :: c4 :: c5 :: c6 :: c7 :: c8 :: c9 :: c10 :: c11 :: (mo, oModel tn stt tr (nI R) (nI C) (bI op) mki mel mto mio mwy (bI hwb) mme mhs mso msr mrs mce mcp) :: (mki, aI g 40 kinds) :: (mel, aI g 40 elders) :: (mto, aI g 25 tof) :: (mio, aZ g 40 iof) :: (mwy, aI g 4096 wyf) :: (mme, aZ g 36 mef) :: (mhs, aZ g 3 hsf) :: (mso, aI g 3 sof) :: (msr, aI g 3 srf) :: (mrs, aI g 12 rsf) :: (mce, aI g 480 cef) :: (mcp, aI g 40 cpf) :: rest) (Rs (some (.int (nI (enM R C t b)))) (c0 :: c1 :: c2 :: c3 :: c4 :: c5 :: c6 :: c7 :: c8 :: c9 :: c10 :: c11 :: (mo, oModel tn stt tr (nI R) (nI C) (bI op) mki mel mto mio mwy (bI hwb) mme mhs mso msr mrs mce mcp) :: (mki, aI g 40 kinds) :: (mel, aI g 40 elders) :: (mto, aI g 25 tof) :: (mio, aZ g 40 iof) :: (mwy, aI g 4096 wyf) :: (mme, aZ g 36 mef) :: (mhs, aZ g 3 hsf) :: (mso, aI g 3 sof) :: (msr, aI g 3 srf) :: (mrs, aI g 12 rsf) :: (mce, aI g 480 cef) :: (mcp, aI g 40 cpf) :: rest)) := by
  have hTM := th_M (op := op) hR hC
  have hPM := pl_M hR hC
  have hRM := rd_M hR hC
  refine Con.ofI (by decide +kernel) (Nat.le_of_ble_eq_true rfl) (fun φ K0 hr => ?_)
  show X φ 0 0 (c0 :: c1 :: c2 :: c3 :: c4 :: c5 :: c6 :: c7 :: c8 :: c9 :: c10 :: c11 :: (mo, oModel tn stt tr (nI R) (nI C) (bI op) mki mel mto mio mwy (bI hwb) mme mhs mso msr mrs mce mcp) :: (mki, aI g 40 kinds) :: (mel, aI g 40 elders) :: (mto, aI g 25 tof) :: (mio, aZ g 40 iof) :: (mwy, aI g 4096 wyf) :: (mme, aZ g 36 mef) :: (mhs, aZ g 3 hsf) :: (mso, aI g 3 sof) :: (msr, aI g 3 srf) :: (mrs, aI g 12 rsf) :: (mce, aI g 480 cef) :: (mcp, aI g 40 cpf) :: rest) [(0, .ref mo), (1, .int (nI t)), (2, .int (bI b))] 0 []
  refine X_iload_n K0 1 dX5_end_0 rfl rfl ?_
  refine X_aload_n K0 0 dX5_end_1 rfl rfl ?_
  refine X_callV (As := []) (rest := [.int (nI t)]) K0 12 (m_across g c0 c1 c2 c3 c4 c5 c6 c7 c8 c9 c10 c11 mo mki mel mto mio mwy mme mhs mso msr mrs mce mcp tn stt tr R C op hwb kinds elders tof iof wyf mef hsf sof srf rsf cef cpf rest hR hC ) mi_X5_across rfl rfl rfl ml_RX5_65 rfl (Nat.le_of_ble_eq_true rfl) (by decide) ⟨Nat.le_of_ble_eq_true rfl, Nat.le_of_ble_eq_true rfl⟩ rfl rfl dX5_end_2 ?_
  intro v w' hr'; obtain ⟨rfl, rfl⟩ := hr'
  show X φ 0 0 (c0 :: c1 :: c2 :: c3 :: c4 :: c5 :: c6 :: c7 :: c8 :: c9 :: c10 :: c11 :: (mo, oModel tn stt tr (nI R) (nI C) (bI op) mki mel mto mio mwy (bI hwb) mme mhs mso msr mrs mce mcp) :: (mki, aI g 40 kinds) :: (mel, aI g 40 elders) :: (mto, aI g 25 tof) :: (mio, aZ g 40 iof) :: (mwy, aI g 4096 wyf) :: (mme, aZ g 36 mef) :: (mhs, aZ g 3 hsf) :: (mso, aI g 3 sof) :: (msr, aI g 3 srf) :: (mrs, aI g 12 rsf) :: (mce, aI g 480 cef) :: (mcp, aI g 40 cpf) :: rest) [(0, .ref mo), (1, .int (nI t)), (2, .int (bI b))] 5 [.int (nI (R * (C - 1))), .int (nI t)]
  refine X_icmp_ge K0 43 dX5_end_5 (by decide) (fun h5 => ?_) (fun h5 => ?_)
  · have hge : R * (C - 1) ≤ t := by rcases Nat.lt_or_ge t (R * (C - 1)) with q | q; exact absurd h5 (nI_ge q (by omega)); exact q
    refine X_iload_n K0 1 dX5_end_43 rfl rfl ?_
    refine X_aload_n K0 0 dX5_end_44 rfl rfl ?_
    refine X_callV (As := []) (rest := [.int (nI t)]) K0 12 (m_across g c0 c1 c2 c3 c4 c5 c6 c7 c8 c9 c10 c11 mo mki mel mto mio mwy mme mhs mso msr mrs mce mcp tn stt tr R C op hwb kinds elders tof iof wyf mef hsf sof srf rsf cef cpf rest hR hC ) mi_X5_across rfl rfl rfl ml_RX5_65 rfl (Nat.le_of_ble_eq_true rfl) (by decide) ⟨Nat.le_of_ble_eq_true rfl, Nat.le_of_ble_eq_true rfl⟩ rfl rfl dX5_end_45 ?_
    intro v w' hr'; obtain ⟨rfl, rfl⟩ := hr'
    show X φ 0 0 (c0 :: c1 :: c2 :: c3 :: c4 :: c5 :: c6 :: c7 :: c8 :: c9 :: c10 :: c11 :: (mo, oModel tn stt tr (nI R) (nI C) (bI op) mki mel mto mio mwy (bI hwb) mme mhs mso msr mrs mce mcp) :: (mki, aI g 40 kinds) :: (mel, aI g 40 elders) :: (mto, aI g 25 tof) :: (mio, aZ g 40 iof) :: (mwy, aI g 4096 wyf) :: (mme, aZ g 36 mef) :: (mhs, aZ g 3 hsf) :: (mso, aI g 3 sof) :: (msr, aI g 3 srf) :: (mrs, aI g 12 rsf) :: (mce, aI g 480 cef) :: (mcp, aI g 40 cpf) :: rest) [(0, .ref mo), (1, .int (nI t)), (2, .int (bI b))] 48 [.int (nI (R * (C - 1))), .int (nI t)]
    refine X_isub K0 dX5_end_48 ?_
    refine X_v (z := (nI (t - R * (C - 1)))) (pk_sub hge) ?_
    refine X_istore_n (L' := [(3, .int (nI (t - R * (C - 1)))), (0, .ref mo), (1, .int (nI t)), (2, .int (bI b))]) K0 dX5_end_49 rfl (by decide) rfl ?_
    refine X_iload_n K0 3 dX5_end_50 rfl rfl ?_
    refine X_if_eq K0 63 dX5_end_51 (by decide) (fun h51 => ?_) (fun h51 => ?_)
    · refine X_iload_n K0 0 dX5_end_63 rfl rfl ?_
      exact hr _ _ _ _ ⟨by first | (rw [enM, if_pos hlt, if_pos (bI_n0.mp h32), nI_1]) | (rw [enM, if_pos hlt, ite_b0 h32]) | (rw [enM, if_neg (Nat.not_lt.mpr hge), if_pos (bI_n0.mp h51), nI_add]) | (rw [enM, if_neg (Nat.not_lt.mpr hge), ite_b0 h51]), rfl⟩ dX5_end_64
    · refine X_iload_n K0 0 dX5_end_54 rfl rfl ?_
      refine X_aload_n K0 1 dX5_end_55 rfl rfl ?_
      refine X_get K0 12 rfl rfl hin5 4 (by decide) fl_RX5_13 rfl dX5_end_56 ?_
      refine X_iadd K0 dX5_end_59 ?_
      refine X_goto K0 64 dX5_end_60 (by decide) ?_
      exact hr _ _ _ _ ⟨by first | (rw [enM, if_pos hlt, if_pos (bI_n0.mp h32), nI_1]) | (rw [enM, if_pos hlt, ite_b0 h32]) | (rw [enM, if_neg (Nat.not_lt.mpr hge), if_pos (bI_n0.mp h51), nI_add]) | (rw [enM, if_neg (Nat.not_lt.mpr hge), ite_b0 h51]), rfl⟩ dX5_end_64
  · have hlt : t < R * (C - 1) := by rcases Nat.lt_or_ge t (R * (C - 1)) with q | q; exact q; exact absurd (nI_le q (by omega)) h5
    have hc1 : 0 < C - 1 := by rcases Nat.eq_zero_or_pos (C - 1) with q | q; (rw [q] at hlt; exact absurd hlt (Nat.not_lt_zero _)); exact q
    refine X_iload_n K0 1 dX5_end_8 rfl rfl ?_
    refine X_aload_n K0 0 dX5_end_9 rfl rfl ?_
    refine X_get K0 12 rfl rfl hin5 4 (by decide) fl_RX5_13 rfl dX5_end_10 ?_
    refine X_iconst (v := 1) K0 dX5_end_13 (by decide) ?_
    refine X_isub K0 dX5_end_14 ?_
    refine X_v (z := (nI (C - 1))) (nI_sub1 hC.1) ?_
    refine X_idiv K0 dX5_end_15 (nI_ne hc1 (by omega)) ?_
    refine X_aload_n K0 0 dX5_end_16 rfl rfl ?_
    refine X_get K0 12 rfl rfl hin5 4 (by decide) fl_RX5_13 rfl dX5_end_17 ?_
    refine X_imul K0 dX5_end_20 ?_
    refine X_iload_n K0 1 dX5_end_21 rfl rfl ?_
    refine X_aload_n K0 0 dX5_end_22 rfl rfl ?_
    refine X_get K0 12 rfl rfl hin5 4 (by decide) fl_RX5_13 rfl dX5_end_23 ?_
    refine X_iconst (v := 1) K0 dX5_end_26 (by decide) ?_
    refine X_isub K0 dX5_end_27 ?_
    refine X_v (z := (nI (C - 1))) (nI_sub1 hC.1) ?_
    refine X_irem K0 dX5_end_28 (nI_ne hc1 (by omega)) ?_
    refine X_iadd K0 dX5_end_29 ?_
    refine X_v (z := (nI (t / (C - 1) * C + t % (C - 1)))) (nI_divmod hC.1 hc1 (by omega) (by omega)) ?_
    refine X_istore_n (L' := [(3, .int (nI (t / (C - 1) * C + t % (C - 1)))), (0, .ref mo), (1, .int (nI t)), (2, .int (bI b))]) K0 dX5_end_30 rfl (by decide) rfl ?_
    refine X_iload_n K0 3 dX5_end_31 rfl rfl ?_
    refine X_if_eq K0 41 dX5_end_32 (by decide) (fun h32 => ?_) (fun h32 => ?_)
    · refine X_iload_n K0 0 dX5_end_41 rfl rfl ?_
      exact hr _ _ _ _ ⟨by first | (rw [enM, if_pos hlt, if_pos (bI_n0.mp h32), nI_1]) | (rw [enM, if_pos hlt, ite_b0 h32]) | (rw [enM, if_neg (Nat.not_lt.mpr hge), if_pos (bI_n0.mp h51), nI_add]) | (rw [enM, if_neg (Nat.not_lt.mpr hge), ite_b0 h51]), rfl⟩ dX5_end_42
    · refine X_iload_n K0 0 dX5_end_35 rfl rfl ?_
      refine X_iconst (v := 1) K0 dX5_end_36 (by decide) ?_
      refine X_iadd K0 dX5_end_37 ?_
      refine X_goto K0 42 dX5_end_38 (by decide) ?_
      exact hr _ _ _ _ ⟨by first | (rw [enM, if_pos hlt, if_pos (bI_n0.mp h32), nI_1]) | (rw [enM, if_pos hlt, ite_b0 h32]) | (rw [enM, if_neg (Nat.not_lt.mpr hge), if_pos (bI_n0.mp h51), nI_add]) | (rw [enM, if_neg (Nat.not_lt.mpr hge), ite_b0 h51]), rfl⟩ dX5_end_42

set_option maxRecDepth 20000 in
set_option maxHeartbeats 400000 in
theorem m_chances (g : Gx) (c0 c1 c2 c3 c4 c5 c6 c7 c8 c9 c10 c11 : Nat × va_E) (mo mki mel mto mio mwy mme mhs mso msr mrs mce mcp : Nat) (tn stt : Int32) (tr : Int64) (R C : Nat) (op hwb : Bool) (kinds elders tof iof wyf mef hsf sof srf rsf cef cpf : Nat → Int32) (rest : va_W) (hR : 1 ≤ R ∧ R ≤ 5) (hC : 1 ≤ C ∧ C ≤ 5) : Con g yX5_chances cX5_chances 3 (some .int) 3 60 0 0 [.ref mo] (c0 :: c1 :: c2 :: c3 :: c4 :: c5 :: c6 :: c7 :: c8 :: c9 :: c10 :: c11 :: (mo, oModel tn stt tr (nI R) (nI C) (bI op) mki mel mto mio mwy (bI hwb) mme mhs mso msr mrs mce mcp) :: (mki, aI g 40 kinds) :: (mel, aI g 40 elders) :: (mto, aI g 25 tof) :: (mio, aZ g 40 iof) :: (mwy, aI g 4096 wyf) :: (mme, aZ g 36 mef) :: (mhs, aZ g 3 hsf) :: (mso, aI g 3 sof) :: (msr, aI g 3 srf) :: (mrs, aI g 12 rsf) :: (mce, aI g 480 cef) :: (mcp, aI g 40 cpf) :: rest) (Rs (some (.int (nI (ctF kinds (thM R C op))))) (c0 :: c1 :: c2 :: c3 :: c4 :: c5 :: c6 :: c7 :: c8 :: c9 :: c10 :: c11 :: (mo, oModel tn stt tr (nI R) (nI C) (bI op) mki mel mto mio mwy (bI hwb) mme mhs mso msr mrs mce mcp) :: (mki, aI g 40 kinds) :: (mel, aI g 40 elders) :: (mto, aI g 25 tof) :: (mio, aZ g 40 iof) :: (mwy, aI g 4096 wyf) :: (mme, aZ g 36 mef) :: (mhs, aZ g 3 hsf) :: (mso, aI g 3 sof) :: (msr, aI g 3 srf) :: (mrs, aI g 12 rsf) :: (mce, aI g 480 cef) :: (mcp, aI g 40 cpf) :: rest)) := by
  have hTM := th_M (op := op) hR hC
  have hPM := pl_M hR hC
  have hRM := rd_M hR hC
  refine Con.ofI (by decide +kernel) (Nat.le_of_ble_eq_true rfl) (fun φ K0 hr => ?_)
  show X φ 0 0 (c0 :: c1 :: c2 :: c3 :: c4 :: c5 :: c6 :: c7 :: c8 :: c9 :: c10 :: c11 :: (mo, oModel tn stt tr (nI R) (nI C) (bI op) mki mel mto mio mwy (bI hwb) mme mhs mso msr mrs mce mcp) :: (mki, aI g 40 kinds) :: (mel, aI g 40 elders) :: (mto, aI g 25 tof) :: (mio, aZ g 40 iof) :: (mwy, aI g 4096 wyf) :: (mme, aZ g 36 mef) :: (mhs, aZ g 3 hsf) :: (mso, aI g 3 sof) :: (msr, aI g 3 srf) :: (mrs, aI g 12 rsf) :: (mce, aI g 480 cef) :: (mcp, aI g 40 cpf) :: rest) [(0, .ref mo)] 0 []
  refine X_iconst (v := 0) K0 dX5_chances_0 (by decide) ?_
  refine X_istore_n (L' := [(1, .int 0), (0, .ref mo)]) K0 dX5_chances_1 rfl (by decide) rfl ?_
  refine X_iconst (v := 0) K0 dX5_chances_2 (by decide) ?_
  refine X_istore_n (L' := [(2, .int 0), (1, .int 0), (0, .ref mo)]) K0 dX5_chances_3 rfl (by decide) rfl ?_
  refine X.sub [2, 1, 0] (L' := [(0, .ref mo), (1, .int 0), (2, .int 0)]) rfl ?_
  have LOOP : ∀ (dd ii : Nat), ii + dd = (thM R C op) → X φ 0 0 (c0 :: c1 :: c2 :: c3 :: c4 :: c5 :: c6 :: c7 :: c8 :: c9 :: c10 :: c11 :: (mo, oModel tn stt tr (nI R) (nI C) (bI op) mki mel mto mio mwy (bI hwb) mme mhs mso msr mrs mce mcp) :: (mki, aI g 40 kinds) :: (mel, aI g 40 elders) :: (mto, aI g 25 tof) :: (mio, aZ g 40 iof) :: (mwy, aI g 4096 wyf) :: (mme, aZ g 36 mef) :: (mhs, aZ g 3 hsf) :: (mso, aI g 3 sof) :: (msr, aI g 3 srf) :: (mrs, aI g 12 rsf) :: (mce, aI g 480 cef) :: (mcp, aI g 40 cpf) :: rest) [(0, .ref mo), (1, .int (nI (ctF kinds ii))), (2, .int (nI ii))] 4 [] := by
    intro dd
    induction dd with
    | zero =>
      intro ii hii 
      have hii2 : (thM R C op) = ii := by omega
      subst hii2
      refine X_iload_n K0 2 dX5_chances_4 rfl rfl ?_
      refine X_aload_n K0 0 dX5_chances_5 rfl rfl ?_
      refine X_callV (As := []) (rest := [.int (nI (thM R C op))]) K0 12 (m_things g c0 c1 c2 c3 c4 c5 c6 c7 c8 c9 c10 c11 mo mki mel mto mio mwy mme mhs mso msr mrs mce mcp tn stt tr R C op hwb kinds elders tof iof wyf mef hsf sof srf rsf cef cpf rest hR hC ) mi_X5_things rfl rfl rfl ml_RX5_78 rfl (Nat.le_of_ble_eq_true rfl) (by decide) ⟨Nat.le_of_ble_eq_true rfl, Nat.le_of_ble_eq_true rfl⟩ rfl rfl dX5_chances_6 ?_
      intro v w' hr'; obtain ⟨rfl, rfl⟩ := hr'
      show X φ 0 0 (c0 :: c1 :: c2 :: c3 :: c4 :: c5 :: c6 :: c7 :: c8 :: c9 :: c10 :: c11 :: (mo, oModel tn stt tr (nI R) (nI C) (bI op) mki mel mto mio mwy (bI hwb) mme mhs mso msr mrs mce mcp) :: (mki, aI g 40 kinds) :: (mel, aI g 40 elders) :: (mto, aI g 25 tof) :: (mio, aZ g 40 iof) :: (mwy, aI g 4096 wyf) :: (mme, aZ g 36 mef) :: (mhs, aZ g 3 hsf) :: (mso, aI g 3 sof) :: (msr, aI g 3 srf) :: (mrs, aI g 12 rsf) :: (mce, aI g 480 cef) :: (mcp, aI g 40 cpf) :: rest) [(0, .ref mo), (1, .int (nI (ctF kinds (thM R C op)))), (2, .int (nI (thM R C op)))] 9 [.int (nI (thM R C op)), .int (nI (thM R C op))]
      refine X_icmp_ge K0 36 dX5_chances_9 (by decide) (fun h9 => ?_) (fun h9 => ?_)
      · refine X_iload_n K0 1 dX5_chances_36 rfl rfl ?_
        exact hr _ _ _ _ ⟨rfl, rfl⟩ dX5_chances_37
      · exact absurd (nI_le (Nat.le_refl _) (by omega)) h9
    | succ dd ih =>
      intro ii hii 
      have hlt : ii < (thM R C op) := by omega
      refine X_iload_n K0 2 dX5_chances_4 rfl rfl ?_
      refine X_aload_n K0 0 dX5_chances_5 rfl rfl ?_
      refine X_callV (As := []) (rest := [.int (nI ii)]) K0 12 (m_things g c0 c1 c2 c3 c4 c5 c6 c7 c8 c9 c10 c11 mo mki mel mto mio mwy mme mhs mso msr mrs mce mcp tn stt tr R C op hwb kinds elders tof iof wyf mef hsf sof srf rsf cef cpf rest hR hC ) mi_X5_things rfl rfl rfl ml_RX5_78 rfl (Nat.le_of_ble_eq_true rfl) (by decide) ⟨Nat.le_of_ble_eq_true rfl, Nat.le_of_ble_eq_true rfl⟩ rfl rfl dX5_chances_6 ?_
      intro v w' hr'; obtain ⟨rfl, rfl⟩ := hr'
      show X φ 0 0 (c0 :: c1 :: c2 :: c3 :: c4 :: c5 :: c6 :: c7 :: c8 :: c9 :: c10 :: c11 :: (mo, oModel tn stt tr (nI R) (nI C) (bI op) mki mel mto mio mwy (bI hwb) mme mhs mso msr mrs mce mcp) :: (mki, aI g 40 kinds) :: (mel, aI g 40 elders) :: (mto, aI g 25 tof) :: (mio, aZ g 40 iof) :: (mwy, aI g 4096 wyf) :: (mme, aZ g 36 mef) :: (mhs, aZ g 3 hsf) :: (mso, aI g 3 sof) :: (msr, aI g 3 srf) :: (mrs, aI g 12 rsf) :: (mce, aI g 480 cef) :: (mcp, aI g 40 cpf) :: rest) [(0, .ref mo), (1, .int (nI (ctF kinds ii))), (2, .int (nI ii))] 9 [.int (nI (thM R C op)), .int (nI ii)]
      refine X_icmp_ge K0 36 dX5_chances_9 (by decide) (fun h9 => ?_) (fun h9 => ?_)
      · exact absurd h9 (nI_ge hlt (by omega))
      · refine X_iload_n K0 1 dX5_chances_12 rfl rfl ?_
        refine X_aload_n K0 0 dX5_chances_13 rfl rfl ?_
        refine X_get K0 12 rfl rfl hin5 6 (by decide) fl_RX5_16 rfl dX5_chances_14 ?_
        refine X_iload_n K0 2 dX5_chances_17 rfl rfl ?_
        refine X_ialdN K0 13 rfl (by omega) (by first | decide | omega) dX5_chances_18 ?_
        refine X_iconst (v := 2) K0 dX5_chances_19 (by decide) ?_
        refine X_icmp_ne K0 27 dX5_chances_20 (by decide) (fun h20 => ?_) (fun h20 => ?_)
        · refine X_iconst (v := 0) K0 dX5_chances_27 (by decide) ?_
          refine X_iadd K0 dX5_chances_28 ?_
          refine X_istore_n (L' := [(1, .int ((nI (ctF kinds ii)) + 0)), (0, .ref mo), (2, .int (nI ii))]) K0 dX5_chances_29 rfl (by decide) rfl ?_
          refine X_iinc (v := ((nI ii) + 1)) (L' := [(2, .int ((nI ii) + 1)), (1, .int ((nI (ctF kinds ii)) + 0)), (0, .ref mo)]) K0 2 dX5_chances_30 rfl (by first | rfl | decide) (by decide) rfl ?_
          refine X_goto K0 4 dX5_chances_33 (by decide) ?_
          refine X.sub [2, 1, 0] (L' := [(0, .ref mo), (1, .int ((nI (ctF kinds ii)) + 0)), (2, .int ((nI ii) + 1))]) rfl ?_
          exact X_eq rfl (by first | (rw [nI_succ, ct_y h20, nI_succ]) | (rw [nI_succ, ct_n h20, Int32.add_zero])) rfl (ih (ii + 1) (by omega))
        · refine X_iconst (v := 1) K0 dX5_chances_23 (by decide) ?_
          refine X_goto K0 28 dX5_chances_24 (by decide) ?_
          refine X_iadd K0 dX5_chances_28 ?_
          refine X_istore_n (L' := [(1, .int ((nI (ctF kinds ii)) + 1)), (0, .ref mo), (2, .int (nI ii))]) K0 dX5_chances_29 rfl (by decide) rfl ?_
          refine X_iinc (v := ((nI ii) + 1)) (L' := [(2, .int ((nI ii) + 1)), (1, .int ((nI (ctF kinds ii)) + 1)), (0, .ref mo)]) K0 2 dX5_chances_30 rfl (by first | rfl | decide) (by decide) rfl ?_
          refine X_goto K0 4 dX5_chances_33 (by decide) ?_
          refine X.sub [2, 1, 0] (L' := [(0, .ref mo), (1, .int ((nI (ctF kinds ii)) + 1)), (2, .int ((nI ii) + 1))]) rfl ?_
          exact X_eq rfl (by first | (rw [nI_succ, ct_y h20, nI_succ]) | (rw [nI_succ, ct_n h20, Int32.add_zero])) rfl (ih (ii + 1) (by omega))
  exact LOOP (thM R C op) 0 (by omega)

set_option maxRecDepth 20000 in
set_option maxHeartbeats 400000 in
theorem m_numberOf (g : Gx) (c0 c1 c2 c3 c4 c5 c6 c7 c8 c9 c10 c11 : Nat × va_E) (mo mki mel mto mio mwy mme mhs mso msr mrs mce mcp : Nat) (tn stt : Int32) (tr : Int64) (R C : Nat) (op hwb : Bool) (kinds elders tof iof wyf mef hsf sof srf rsf cef cpf : Nat → Int32) (rest : va_W) (t : Nat) (ht : t ≤ 40) : Con g yX5_numberOf cX5_numberOf 4 (some .int) 0 0 0 0 [.ref mo, .int (nI t)] (c0 :: c1 :: c2 :: c3 :: c4 :: c5 :: c6 :: c7 :: c8 :: c9 :: c10 :: c11 :: (mo, oModel tn stt tr (nI R) (nI C) (bI op) mki mel mto mio mwy (bI hwb) mme mhs mso msr mrs mce mcp) :: (mki, aI g 40 kinds) :: (mel, aI g 40 elders) :: (mto, aI g 25 tof) :: (mio, aZ g 40 iof) :: (mwy, aI g 4096 wyf) :: (mme, aZ g 36 mef) :: (mhs, aZ g 3 hsf) :: (mso, aI g 3 sof) :: (msr, aI g 3 srf) :: (mrs, aI g 12 rsf) :: (mce, aI g 480 cef) :: (mcp, aI g 40 cpf) :: rest) (Rs (some (.int (nI (ctF kinds t)))) (c0 :: c1 :: c2 :: c3 :: c4 :: c5 :: c6 :: c7 :: c8 :: c9 :: c10 :: c11 :: (mo, oModel tn stt tr (nI R) (nI C) (bI op) mki mel mto mio mwy (bI hwb) mme mhs mso msr mrs mce mcp) :: (mki, aI g 40 kinds) :: (mel, aI g 40 elders) :: (mto, aI g 25 tof) :: (mio, aZ g 40 iof) :: (mwy, aI g 4096 wyf) :: (mme, aZ g 36 mef) :: (mhs, aZ g 3 hsf) :: (mso, aI g 3 sof) :: (msr, aI g 3 srf) :: (mrs, aI g 12 rsf) :: (mce, aI g 480 cef) :: (mcp, aI g 40 cpf) :: rest)) := by
  refine Con.ofI (by decide +kernel) (Nat.le_of_ble_eq_true rfl) (fun φ K0 hr => ?_)
  show X φ 0 0 (c0 :: c1 :: c2 :: c3 :: c4 :: c5 :: c6 :: c7 :: c8 :: c9 :: c10 :: c11 :: (mo, oModel tn stt tr (nI R) (nI C) (bI op) mki mel mto mio mwy (bI hwb) mme mhs mso msr mrs mce mcp) :: (mki, aI g 40 kinds) :: (mel, aI g 40 elders) :: (mto, aI g 25 tof) :: (mio, aZ g 40 iof) :: (mwy, aI g 4096 wyf) :: (mme, aZ g 36 mef) :: (mhs, aZ g 3 hsf) :: (mso, aI g 3 sof) :: (msr, aI g 3 srf) :: (mrs, aI g 12 rsf) :: (mce, aI g 480 cef) :: (mcp, aI g 40 cpf) :: rest) [(0, .ref mo), (1, .int (nI t))] 0 []
  refine X_iconst (v := 0) K0 dX5_numberOf_0 (by decide) ?_
  refine X_istore_n (L' := [(2, .int 0), (0, .ref mo), (1, .int (nI t))]) K0 dX5_numberOf_1 rfl (by decide) rfl ?_
  refine X_iconst (v := 0) K0 dX5_numberOf_2 (by decide) ?_
  refine X_istore_n (L' := [(3, .int 0), (2, .int 0), (0, .ref mo), (1, .int (nI t))]) K0 dX5_numberOf_3 rfl (by decide) rfl ?_
  refine X.sub [2, 3, 1, 0] (L' := [(0, .ref mo), (1, .int (nI t)), (2, .int 0), (3, .int 0)]) rfl ?_
  have LOOP : ∀ (dd ii : Nat), ii + dd = t → X φ 0 0 (c0 :: c1 :: c2 :: c3 :: c4 :: c5 :: c6 :: c7 :: c8 :: c9 :: c10 :: c11 :: (mo, oModel tn stt tr (nI R) (nI C) (bI op) mki mel mto mio mwy (bI hwb) mme mhs mso msr mrs mce mcp) :: (mki, aI g 40 kinds) :: (mel, aI g 40 elders) :: (mto, aI g 25 tof) :: (mio, aZ g 40 iof) :: (mwy, aI g 4096 wyf) :: (mme, aZ g 36 mef) :: (mhs, aZ g 3 hsf) :: (mso, aI g 3 sof) :: (msr, aI g 3 srf) :: (mrs, aI g 12 rsf) :: (mce, aI g 480 cef) :: (mcp, aI g 40 cpf) :: rest) [(0, .ref mo), (1, .int (nI t)), (2, .int (nI (ctF kinds ii))), (3, .int (nI ii))] 4 [] := by
    intro dd
    induction dd with
    | zero =>
      intro ii hii 
      have hii2 : t = ii := by omega
      subst hii2
      refine X_iload_n K0 3 dX5_numberOf_4 rfl rfl ?_
      refine X_iload_n K0 1 dX5_numberOf_5 rfl rfl ?_
      refine X_icmp_ge K0 33 dX5_numberOf_6 (by decide) (fun h6 => ?_) (fun h6 => ?_)
      · refine X_iload_n K0 2 dX5_numberOf_33 rfl rfl ?_
        exact hr _ _ _ _ ⟨rfl, rfl⟩ dX5_numberOf_34
      · exact absurd (nI_le (Nat.le_refl _) (by omega)) h6
    | succ dd ih =>
      intro ii hii 
      have hlt : ii < t := by omega
      refine X_iload_n K0 3 dX5_numberOf_4 rfl rfl ?_
      refine X_iload_n K0 1 dX5_numberOf_5 rfl rfl ?_
      refine X_icmp_ge K0 33 dX5_numberOf_6 (by decide) (fun h6 => ?_) (fun h6 => ?_)
      · exact absurd h6 (nI_ge hlt (by omega))
      · refine X_iload_n K0 2 dX5_numberOf_9 rfl rfl ?_
        refine X_aload_n K0 0 dX5_numberOf_10 rfl rfl ?_
        refine X_get K0 12 rfl rfl hin5 6 (by decide) fl_RX5_16 rfl dX5_numberOf_11 ?_
        refine X_iload_n K0 3 dX5_numberOf_14 rfl rfl ?_
        refine X_ialdN K0 13 rfl (by omega) (by first | decide | omega) dX5_numberOf_15 ?_
        refine X_iconst (v := 2) K0 dX5_numberOf_16 (by decide) ?_
        refine X_icmp_ne K0 24 dX5_numberOf_17 (by decide) (fun h17 => ?_) (fun h17 => ?_)
        · refine X_iconst (v := 0) K0 dX5_numberOf_24 (by decide) ?_
          refine X_iadd K0 dX5_numberOf_25 ?_
          refine X_istore_n (L' := [(2, .int ((nI (ctF kinds ii)) + 0)), (0, .ref mo), (1, .int (nI t)), (3, .int (nI ii))]) K0 dX5_numberOf_26 rfl (by decide) rfl ?_
          refine X_iinc (v := ((nI ii) + 1)) (L' := [(3, .int ((nI ii) + 1)), (2, .int ((nI (ctF kinds ii)) + 0)), (0, .ref mo), (1, .int (nI t))]) K0 3 dX5_numberOf_27 rfl (by first | rfl | decide) (by decide) rfl ?_
          refine X_goto K0 4 dX5_numberOf_30 (by decide) ?_
          refine X.sub [2, 3, 1, 0] (L' := [(0, .ref mo), (1, .int (nI t)), (2, .int ((nI (ctF kinds ii)) + 0)), (3, .int ((nI ii) + 1))]) rfl ?_
          exact X_eq rfl (by first | (rw [nI_succ, ct_y h17, nI_succ]) | (rw [nI_succ, ct_n h17, Int32.add_zero])) rfl (ih (ii + 1) (by omega))
        · refine X_iconst (v := 1) K0 dX5_numberOf_20 (by decide) ?_
          refine X_goto K0 25 dX5_numberOf_21 (by decide) ?_
          refine X_iadd K0 dX5_numberOf_25 ?_
          refine X_istore_n (L' := [(2, .int ((nI (ctF kinds ii)) + 1)), (0, .ref mo), (1, .int (nI t)), (3, .int (nI ii))]) K0 dX5_numberOf_26 rfl (by decide) rfl ?_
          refine X_iinc (v := ((nI ii) + 1)) (L' := [(3, .int ((nI ii) + 1)), (2, .int ((nI (ctF kinds ii)) + 1)), (0, .ref mo), (1, .int (nI t))]) K0 3 dX5_numberOf_27 rfl (by first | rfl | decide) (by decide) rfl ?_
          refine X_goto K0 4 dX5_numberOf_30 (by decide) ?_
          refine X.sub [2, 3, 1, 0] (L' := [(0, .ref mo), (1, .int (nI t)), (2, .int ((nI (ctF kinds ii)) + 1)), (3, .int ((nI ii) + 1))]) rfl ?_
          exact X_eq rfl (by first | (rw [nI_succ, ct_y h17, nI_succ]) | (rw [nI_succ, ct_n h17, Int32.add_zero])) rfl (ih (ii + 1) (by omega))
  exact LOOP t 0 (by omega)

set_option maxRecDepth 20000 in
set_option maxHeartbeats 400000 in
theorem m_isElder (g : Gx) (c0 c1 c2 c3 c4 c5 c6 c7 c8 c9 c10 c11 : Nat × va_E) (mo mki mel mto mio mwy mme mhs mso msr mrs mce mcp : Nat) (tn stt : Int32) (tr : Int64) (R C : Nat) (op hwb : Bool) (kinds elders tof iof wyf mef hsf sof srf rsf cef cpf : Nat → Int32) (rest : va_W) (hR : 1 ≤ R ∧ R ≤ 5) (hC : 1 ≤ C ∧ C ≤ 5) (x : Int32) : Con g yX5_isElder cX5_isElder 4 (some .boolean) 3 60 0 0 [.ref mo, .int x] (c0 :: c1 :: c2 :: c3 :: c4 :: c5 :: c6 :: c7 :: c8 :: c9 :: c10 :: c11 :: (mo, oModel tn stt tr (nI R) (nI C) (bI op) mki mel mto mio mwy (bI hwb) mme mhs mso msr mrs mce mcp) :: (mki, aI g 40 kinds) :: (mel, aI g 40 elders) :: (mto, aI g 25 tof) :: (mio, aZ g 40 iof) :: (mwy, aI g 4096 wyf) :: (mme, aZ g 36 mef) :: (mhs, aZ g 3 hsf) :: (mso, aI g 3 sof) :: (msr, aI g 3 srf) :: (mrs, aI g 12 rsf) :: (mce, aI g 480 cef) :: (mcp, aI g 40 cpf) :: rest) (Rs (some (.int (bI (ieB elders x (thM R C op))))) (c0 :: c1 :: c2 :: c3 :: c4 :: c5 :: c6 :: c7 :: c8 :: c9 :: c10 :: c11 :: (mo, oModel tn stt tr (nI R) (nI C) (bI op) mki mel mto mio mwy (bI hwb) mme mhs mso msr mrs mce mcp) :: (mki, aI g 40 kinds) :: (mel, aI g 40 elders) :: (mto, aI g 25 tof) :: (mio, aZ g 40 iof) :: (mwy, aI g 4096 wyf) :: (mme, aZ g 36 mef) :: (mhs, aZ g 3 hsf) :: (mso, aI g 3 sof) :: (msr, aI g 3 srf) :: (mrs, aI g 12 rsf) :: (mce, aI g 480 cef) :: (mcp, aI g 40 cpf) :: rest)) := by
  have hTM := th_M (op := op) hR hC
  have hPM := pl_M hR hC
  have hRM := rd_M hR hC
  refine Con.ofZ (by decide +kernel) (Nat.le_of_ble_eq_true rfl) (fun φ K0 hr => ?_)
  show X φ 0 0 (c0 :: c1 :: c2 :: c3 :: c4 :: c5 :: c6 :: c7 :: c8 :: c9 :: c10 :: c11 :: (mo, oModel tn stt tr (nI R) (nI C) (bI op) mki mel mto mio mwy (bI hwb) mme mhs mso msr mrs mce mcp) :: (mki, aI g 40 kinds) :: (mel, aI g 40 elders) :: (mto, aI g 25 tof) :: (mio, aZ g 40 iof) :: (mwy, aI g 4096 wyf) :: (mme, aZ g 36 mef) :: (mhs, aZ g 3 hsf) :: (mso, aI g 3 sof) :: (msr, aI g 3 srf) :: (mrs, aI g 12 rsf) :: (mce, aI g 480 cef) :: (mcp, aI g 40 cpf) :: rest) [(0, .ref mo), (1, .int x)] 0 []
  refine X_iconst (v := 0) K0 dX5_isElder_0 (by decide) ?_
  refine X_istore_n (L' := [(2, .int 0), (0, .ref mo), (1, .int x)]) K0 dX5_isElder_1 rfl (by decide) rfl ?_
  refine X_iconst (v := 0) K0 dX5_isElder_2 (by decide) ?_
  refine X_istore_n (L' := [(3, .int 0), (2, .int 0), (0, .ref mo), (1, .int x)]) K0 dX5_isElder_3 rfl (by decide) rfl ?_
  refine X.sub [2, 3, 1, 0] (L' := [(0, .ref mo), (1, .int x), (2, .int 0), (3, .int 0)]) rfl ?_
  have LOOP : ∀ (dd ii : Nat), ii + dd = (thM R C op) → X φ 0 0 (c0 :: c1 :: c2 :: c3 :: c4 :: c5 :: c6 :: c7 :: c8 :: c9 :: c10 :: c11 :: (mo, oModel tn stt tr (nI R) (nI C) (bI op) mki mel mto mio mwy (bI hwb) mme mhs mso msr mrs mce mcp) :: (mki, aI g 40 kinds) :: (mel, aI g 40 elders) :: (mto, aI g 25 tof) :: (mio, aZ g 40 iof) :: (mwy, aI g 4096 wyf) :: (mme, aZ g 36 mef) :: (mhs, aZ g 3 hsf) :: (mso, aI g 3 sof) :: (msr, aI g 3 srf) :: (mrs, aI g 12 rsf) :: (mce, aI g 480 cef) :: (mcp, aI g 40 cpf) :: rest) [(0, .ref mo), (1, .int x), (2, .int (bI (ieB elders x ii))), (3, .int (nI ii))] 4 [] := by
    intro dd
    induction dd with
    | zero =>
      intro ii hii 
      have hii2 : (thM R C op) = ii := by omega
      subst hii2
      refine X_iload_n K0 3 dX5_isElder_4 rfl rfl ?_
      refine X_aload_n K0 0 dX5_isElder_5 rfl rfl ?_
      refine X_callV (As := []) (rest := [.int (nI (thM R C op))]) K0 12 (m_things g c0 c1 c2 c3 c4 c5 c6 c7 c8 c9 c10 c11 mo mki mel mto mio mwy mme mhs mso msr mrs mce mcp tn stt tr R C op hwb kinds elders tof iof wyf mef hsf sof srf rsf cef cpf rest hR hC ) mi_X5_things rfl rfl rfl ml_RX5_78 rfl (Nat.le_of_ble_eq_true rfl) (by decide) ⟨Nat.le_of_ble_eq_true rfl, Nat.le_of_ble_eq_true rfl⟩ rfl rfl dX5_isElder_6 ?_
      intro v w' hr'; obtain ⟨rfl, rfl⟩ := hr'
      show X φ 0 0 (c0 :: c1 :: c2 :: c3 :: c4 :: c5 :: c6 :: c7 :: c8 :: c9 :: c10 :: c11 :: (mo, oModel tn stt tr (nI R) (nI C) (bI op) mki mel mto mio mwy (bI hwb) mme mhs mso msr mrs mce mcp) :: (mki, aI g 40 kinds) :: (mel, aI g 40 elders) :: (mto, aI g 25 tof) :: (mio, aZ g 40 iof) :: (mwy, aI g 4096 wyf) :: (mme, aZ g 36 mef) :: (mhs, aZ g 3 hsf) :: (mso, aI g 3 sof) :: (msr, aI g 3 srf) :: (mrs, aI g 12 rsf) :: (mce, aI g 480 cef) :: (mcp, aI g 40 cpf) :: rest) [(0, .ref mo), (1, .int x), (2, .int (bI (ieB elders x (thM R C op)))), (3, .int (nI (thM R C op)))] 9 [.int (nI (thM R C op)), .int (nI (thM R C op))]
      refine X_icmp_ge K0 36 dX5_isElder_9 (by decide) (fun h9 => ?_) (fun h9 => ?_)
      · refine X_iload_n K0 2 dX5_isElder_36 rfl rfl ?_
        exact hr _ _ _ _ ⟨rfl, rfl⟩ (bI_01 _) dX5_isElder_37
      · exact absurd (nI_le (Nat.le_refl _) (by omega)) h9
    | succ dd ih =>
      intro ii hii 
      have hlt : ii < (thM R C op) := by omega
      refine X_iload_n K0 3 dX5_isElder_4 rfl rfl ?_
      refine X_aload_n K0 0 dX5_isElder_5 rfl rfl ?_
      refine X_callV (As := []) (rest := [.int (nI ii)]) K0 12 (m_things g c0 c1 c2 c3 c4 c5 c6 c7 c8 c9 c10 c11 mo mki mel mto mio mwy mme mhs mso msr mrs mce mcp tn stt tr R C op hwb kinds elders tof iof wyf mef hsf sof srf rsf cef cpf rest hR hC ) mi_X5_things rfl rfl rfl ml_RX5_78 rfl (Nat.le_of_ble_eq_true rfl) (by decide) ⟨Nat.le_of_ble_eq_true rfl, Nat.le_of_ble_eq_true rfl⟩ rfl rfl dX5_isElder_6 ?_
      intro v w' hr'; obtain ⟨rfl, rfl⟩ := hr'
      show X φ 0 0 (c0 :: c1 :: c2 :: c3 :: c4 :: c5 :: c6 :: c7 :: c8 :: c9 :: c10 :: c11 :: (mo, oModel tn stt tr (nI R) (nI C) (bI op) mki mel mto mio mwy (bI hwb) mme mhs mso msr mrs mce mcp) :: (mki, aI g 40 kinds) :: (mel, aI g 40 elders) :: (mto, aI g 25 tof) :: (mio, aZ g 40 iof) :: (mwy, aI g 4096 wyf) :: (mme, aZ g 36 mef) :: (mhs, aZ g 3 hsf) :: (mso, aI g 3 sof) :: (msr, aI g 3 srf) :: (mrs, aI g 12 rsf) :: (mce, aI g 480 cef) :: (mcp, aI g 40 cpf) :: rest) [(0, .ref mo), (1, .int x), (2, .int (bI (ieB elders x ii))), (3, .int (nI ii))] 9 [.int (nI (thM R C op)), .int (nI ii)]
      refine X_icmp_ge K0 36 dX5_isElder_9 (by decide) (fun h9 => ?_) (fun h9 => ?_)
      · exact absurd h9 (nI_ge hlt (by omega))
      · refine X_iload_n K0 2 dX5_isElder_12 rfl rfl ?_
        refine X_aload_n K0 0 dX5_isElder_13 rfl rfl ?_
        refine X_get K0 12 rfl rfl hin5 7 (by decide) fl_RX5_20 rfl dX5_isElder_14 ?_
        refine X_iload_n K0 3 dX5_isElder_17 rfl rfl ?_
        refine X_ialdN K0 14 rfl (by omega) (by first | decide | omega) dX5_isElder_18 ?_
        refine X_iload_n K0 1 dX5_isElder_19 rfl rfl ?_
        refine X_icmp_ne K0 27 dX5_isElder_20 (by decide) (fun h20 => ?_) (fun h20 => ?_)
        · refine X_iconst (v := 0) K0 dX5_isElder_27 (by decide) ?_
          refine X_ior K0 dX5_isElder_28 ?_
          refine X_istore_n (L' := [(2, .int ((bI (ieB elders x ii)) ||| 0)), (0, .ref mo), (1, .int x), (3, .int (nI ii))]) K0 dX5_isElder_29 rfl (by decide) rfl ?_
          refine X_iinc (v := ((nI ii) + 1)) (L' := [(3, .int ((nI ii) + 1)), (2, .int ((bI (ieB elders x ii)) ||| 0)), (0, .ref mo), (1, .int x)]) K0 3 dX5_isElder_30 rfl (by first | rfl | decide) (by decide) rfl ?_
          refine X_goto K0 4 dX5_isElder_33 (by decide) ?_
          refine X.sub [2, 3, 1, 0] (L' := [(0, .ref mo), (1, .int x), (2, .int ((bI (ieB elders x ii)) ||| 0)), (3, .int ((nI ii) + 1))]) rfl ?_
          exact X_eq rfl (by first | (rw [nI_succ, ieB, decide_eq_false h20, ← bI_or]; rfl) | (rw [nI_succ, ieB, decide_eq_true h20, ← bI_or]; rfl)) rfl (ih (ii + 1) (by omega))
        · refine X_iconst (v := 1) K0 dX5_isElder_23 (by decide) ?_
          refine X_goto K0 28 dX5_isElder_24 (by decide) ?_
          refine X_ior K0 dX5_isElder_28 ?_
          refine X_istore_n (L' := [(2, .int ((bI (ieB elders x ii)) ||| 1)), (0, .ref mo), (1, .int x), (3, .int (nI ii))]) K0 dX5_isElder_29 rfl (by decide) rfl ?_
          refine X_iinc (v := ((nI ii) + 1)) (L' := [(3, .int ((nI ii) + 1)), (2, .int ((bI (ieB elders x ii)) ||| 1)), (0, .ref mo), (1, .int x)]) K0 3 dX5_isElder_30 rfl (by first | rfl | decide) (by decide) rfl ?_
          refine X_goto K0 4 dX5_isElder_33 (by decide) ?_
          refine X.sub [2, 3, 1, 0] (L' := [(0, .ref mo), (1, .int x), (2, .int ((bI (ieB elders x ii)) ||| 1)), (3, .int ((nI ii) + 1))]) rfl ?_
          exact X_eq rfl (by first | (rw [nI_succ, ieB, decide_eq_false h20, ← bI_or]; rfl) | (rw [nI_succ, ieB, decide_eq_true h20, ← bI_or]; rfl)) rfl (ih (ii + 1) (by omega))
  exact LOOP (thM R C op) 0 (by omega)

set_option maxRecDepth 20000 in
set_option maxHeartbeats 400000 in
theorem m_isSetting (g : Gx) (c0 c1 c2 c3 c4 c5 c6 c7 c8 c9 c10 c11 : Nat × va_E) (mo mki mel mto mio mwy mme mhs mso msr mrs mce mcp : Nat) (tn stt : Int32) (tr : Int64) (R C : Nat) (op hwb : Bool) (kinds elders tof iof wyf mef hsf sof srf rsf cef cpf : Nat → Int32) (rest : va_W) (hR : 1 ≤ R ∧ R ≤ 5) (hC : 1 ≤ C ∧ C ≤ 5) (hKI : KI (thM R C op) kinds elders) (x : Int32) : Con g yX5_isSetting cX5_isSetting 2 (some .boolean) 4 82 0 0 [.ref mo, .int x] (c0 :: c1 :: c2 :: c3 :: c4 :: c5 :: c6 :: c7 :: c8 :: c9 :: c10 :: c11 :: (mo, oModel tn stt tr (nI R) (nI C) (bI op) mki mel mto mio mwy (bI hwb) mme mhs mso msr mrs mce mcp) :: (mki, aI g 40 kinds) :: (mel, aI g 40 elders) :: (mto, aI g 25 tof) :: (mio, aZ g 40 iof) :: (mwy, aI g 4096 wyf) :: (mme, aZ g 36 mef) :: (mhs, aZ g 3 hsf) :: (mso, aI g 3 sof) :: (msr, aI g 3 srf) :: (mrs, aI g 12 rsf) :: (mce, aI g 480 cef) :: (mcp, aI g 40 cpf) :: rest) (Rs (some (.int (bI (wiB x 0 (nI (2 ^ ctF kinds (thM R C op)) - 1))))) (c0 :: c1 :: c2 :: c3 :: c4 :: c5 :: c6 :: c7 :: c8 :: c9 :: c10 :: c11 :: (mo, oModel tn stt tr (nI R) (nI C) (bI op) mki mel mto mio mwy (bI hwb) mme mhs mso msr mrs mce mcp) :: (mki, aI g 40 kinds) :: (mel, aI g 40 elders) :: (mto, aI g 25 tof) :: (mio, aZ g 40 iof) :: (mwy, aI g 4096 wyf) :: (mme, aZ g 36 mef) :: (mhs, aZ g 3 hsf) :: (mso, aI g 3 sof) :: (msr, aI g 3 srf) :: (mrs, aI g 12 rsf) :: (mce, aI g 480 cef) :: (mcp, aI g 40 cpf) :: rest)) := by
  have hTM := th_M (op := op) hR hC
  have hPM := pl_M hR hC
  have hRM := rd_M hR hC
  refine Con.ofZ (by decide +kernel) (Nat.le_of_ble_eq_true rfl) (fun φ K0 hr => ?_)
  show X φ 0 0 (c0 :: c1 :: c2 :: c3 :: c4 :: c5 :: c6 :: c7 :: c8 :: c9 :: c10 :: c11 :: (mo, oModel tn stt tr (nI R) (nI C) (bI op) mki mel mto mio mwy (bI hwb) mme mhs mso msr mrs mce mcp) :: (mki, aI g 40 kinds) :: (mel, aI g 40 elders) :: (mto, aI g 25 tof) :: (mio, aZ g 40 iof) :: (mwy, aI g 4096 wyf) :: (mme, aZ g 36 mef) :: (mhs, aZ g 3 hsf) :: (mso, aI g 3 sof) :: (msr, aI g 3 srf) :: (mrs, aI g 12 rsf) :: (mce, aI g 480 cef) :: (mcp, aI g 40 cpf) :: rest) [(0, .ref mo), (1, .int x)] 0 []
  refine X_iload_n K0 1 dX5_isSetting_0 rfl rfl ?_
  refine X_iconst (v := 0) K0 dX5_isSetting_1 (by decide) ?_
  refine X_iconst (v := 1) K0 dX5_isSetting_2 (by decide) ?_
  refine X_aload_n K0 0 dX5_isSetting_3 rfl rfl ?_
  refine X_callV (As := []) (rest := [.int 1, .int 0, .int x]) K0 12 (m_chances g c0 c1 c2 c3 c4 c5 c6 c7 c8 c9 c10 c11 mo mki mel mto mio mwy mme mhs mso msr mrs mce mcp tn stt tr R C op hwb kinds elders tof iof wyf mef hsf sof srf rsf cef cpf rest hR hC ) mi_X5_chances rfl rfl rfl ml_RX5_85 rfl (Nat.le_of_ble_eq_true rfl) (by decide) ⟨Nat.le_of_ble_eq_true rfl, Nat.le_of_ble_eq_true rfl⟩ rfl rfl dX5_isSetting_4 ?_
  intro v w' hr'; obtain ⟨rfl, rfl⟩ := hr'
  show X φ 0 0 (c0 :: c1 :: c2 :: c3 :: c4 :: c5 :: c6 :: c7 :: c8 :: c9 :: c10 :: c11 :: (mo, oModel tn stt tr (nI R) (nI C) (bI op) mki mel mto mio mwy (bI hwb) mme mhs mso msr mrs mce mcp) :: (mki, aI g 40 kinds) :: (mel, aI g 40 elders) :: (mto, aI g 25 tof) :: (mio, aZ g 40 iof) :: (mwy, aI g 4096 wyf) :: (mme, aZ g 36 mef) :: (mhs, aZ g 3 hsf) :: (mso, aI g 3 sof) :: (msr, aI g 3 srf) :: (mrs, aI g 12 rsf) :: (mce, aI g 480 cef) :: (mcp, aI g 40 cpf) :: rest) [(0, .ref mo), (1, .int x)] 7 [.int (nI (ctF kinds (thM R C op))), .int 1, .int 0, .int x]
  refine X_ishl K0 dX5_isSetting_7 ?_
  refine X_v (z := (nI (2 ^ ctF kinds (thM R C op)))) (shl_ct hKI.2) ?_
  refine X_iconst (v := 1) K0 dX5_isSetting_8 (by decide) ?_
  refine X_isub K0 dX5_isSetting_9 ?_
  refine X_callS (As := [.int x, .int 0, .int ((nI (2 ^ ctF kinds (thM R C op))) - 1)]) (rest := []) K0 (c_in g (c0 :: c1 :: c2 :: c3 :: c4 :: c5 :: c6 :: c7 :: c8 :: c9 :: c10 :: c11 :: (mo, oModel tn stt tr (nI R) (nI C) (bI op) mki mel mto mio mwy (bI hwb) mme mhs mso msr mrs mce mcp) :: (mki, aI g 40 kinds) :: (mel, aI g 40 elders) :: (mto, aI g 25 tof) :: (mio, aZ g 40 iof) :: (mwy, aI g 4096 wyf) :: (mme, aZ g 36 mef) :: (mhs, aZ g 3 hsf) :: (mso, aI g 3 sof) :: (msr, aI g 3 srf) :: (mrs, aI g 12 rsf) :: (mce, aI g 480 cef) :: (mcp, aI g 40 cpf) :: rest) x 0 ((nI (2 ^ ctF kinds (thM R C op))) - 1)) ms_X5_in rfl ml_RX5_81 rfl (Nat.le_of_ble_eq_true rfl) (by decide) ⟨Nat.le_of_ble_eq_true rfl, Nat.le_of_ble_eq_true rfl⟩ rfl rfl dX5_isSetting_10 ?_
  intro v w' hr'; obtain ⟨rfl, rfl⟩ := hr'
  show X φ 0 0 (c0 :: c1 :: c2 :: c3 :: c4 :: c5 :: c6 :: c7 :: c8 :: c9 :: c10 :: c11 :: (mo, oModel tn stt tr (nI R) (nI C) (bI op) mki mel mto mio mwy (bI hwb) mme mhs mso msr mrs mce mcp) :: (mki, aI g 40 kinds) :: (mel, aI g 40 elders) :: (mto, aI g 25 tof) :: (mio, aZ g 40 iof) :: (mwy, aI g 4096 wyf) :: (mme, aZ g 36 mef) :: (mhs, aZ g 3 hsf) :: (mso, aI g 3 sof) :: (msr, aI g 3 srf) :: (mrs, aI g 12 rsf) :: (mce, aI g 480 cef) :: (mcp, aI g 40 cpf) :: rest) [(0, .ref mo), (1, .int x)] 13 [.int (bI (wiB x 0 ((nI (2 ^ ctF kinds (thM R C op))) - 1)))]
  exact hr _ _ _ _ ⟨rfl, rfl⟩ (bI_01 _) dX5_isSetting_13

set_option maxRecDepth 20000 in
set_option maxHeartbeats 400000 in
theorem m_isSize (g : Gx) (c0 c1 c2 c3 c4 c5 c6 c7 c8 c9 c10 c11 : Nat × va_E) (mo mki mel mto mio mwy mme mhs mso msr mrs mce mcp : Nat) (tn stt : Int32) (tr : Int64) (R C : Nat) (op hwb : Bool) (kinds elders tof iof wyf mef hsf sof srf rsf cef cpf : Nat → Int32) (rest : va_W) (hR : 1 ≤ R ∧ R ≤ 5) (hC : 1 ≤ C ∧ C ≤ 5) (x : Int32) : Con g yX5_isSize cX5_isSize 2 (some .boolean) 4 82 0 0 [.ref mo, .int x] (c0 :: c1 :: c2 :: c3 :: c4 :: c5 :: c6 :: c7 :: c8 :: c9 :: c10 :: c11 :: (mo, oModel tn stt tr (nI R) (nI C) (bI op) mki mel mto mio mwy (bI hwb) mme mhs mso msr mrs mce mcp) :: (mki, aI g 40 kinds) :: (mel, aI g 40 elders) :: (mto, aI g 25 tof) :: (mio, aZ g 40 iof) :: (mwy, aI g 4096 wyf) :: (mme, aZ g 36 mef) :: (mhs, aZ g 3 hsf) :: (mso, aI g 3 sof) :: (msr, aI g 3 srf) :: (mrs, aI g 12 rsf) :: (mce, aI g 480 cef) :: (mcp, aI g 40 cpf) :: rest) (Rs (some (.int (bI (wiB x 0 (nI (ctF kinds (thM R C op))))))) (c0 :: c1 :: c2 :: c3 :: c4 :: c5 :: c6 :: c7 :: c8 :: c9 :: c10 :: c11 :: (mo, oModel tn stt tr (nI R) (nI C) (bI op) mki mel mto mio mwy (bI hwb) mme mhs mso msr mrs mce mcp) :: (mki, aI g 40 kinds) :: (mel, aI g 40 elders) :: (mto, aI g 25 tof) :: (mio, aZ g 40 iof) :: (mwy, aI g 4096 wyf) :: (mme, aZ g 36 mef) :: (mhs, aZ g 3 hsf) :: (mso, aI g 3 sof) :: (msr, aI g 3 srf) :: (mrs, aI g 12 rsf) :: (mce, aI g 480 cef) :: (mcp, aI g 40 cpf) :: rest)) := by
  have hTM := th_M (op := op) hR hC
  have hPM := pl_M hR hC
  have hRM := rd_M hR hC
  refine Con.ofZ (by decide +kernel) (Nat.le_of_ble_eq_true rfl) (fun φ K0 hr => ?_)
  show X φ 0 0 (c0 :: c1 :: c2 :: c3 :: c4 :: c5 :: c6 :: c7 :: c8 :: c9 :: c10 :: c11 :: (mo, oModel tn stt tr (nI R) (nI C) (bI op) mki mel mto mio mwy (bI hwb) mme mhs mso msr mrs mce mcp) :: (mki, aI g 40 kinds) :: (mel, aI g 40 elders) :: (mto, aI g 25 tof) :: (mio, aZ g 40 iof) :: (mwy, aI g 4096 wyf) :: (mme, aZ g 36 mef) :: (mhs, aZ g 3 hsf) :: (mso, aI g 3 sof) :: (msr, aI g 3 srf) :: (mrs, aI g 12 rsf) :: (mce, aI g 480 cef) :: (mcp, aI g 40 cpf) :: rest) [(0, .ref mo), (1, .int x)] 0 []
  refine X_iload_n K0 1 dX5_isSize_0 rfl rfl ?_
  refine X_iconst (v := 0) K0 dX5_isSize_1 (by decide) ?_
  refine X_aload_n K0 0 dX5_isSize_2 rfl rfl ?_
  refine X_callV (As := []) (rest := [.int 0, .int x]) K0 12 (m_chances g c0 c1 c2 c3 c4 c5 c6 c7 c8 c9 c10 c11 mo mki mel mto mio mwy mme mhs mso msr mrs mce mcp tn stt tr R C op hwb kinds elders tof iof wyf mef hsf sof srf rsf cef cpf rest hR hC ) mi_X5_chances rfl rfl rfl ml_RX5_85 rfl (Nat.le_of_ble_eq_true rfl) (by decide) ⟨Nat.le_of_ble_eq_true rfl, Nat.le_of_ble_eq_true rfl⟩ rfl rfl dX5_isSize_3 ?_
  intro v w' hr'; obtain ⟨rfl, rfl⟩ := hr'
  show X φ 0 0 (c0 :: c1 :: c2 :: c3 :: c4 :: c5 :: c6 :: c7 :: c8 :: c9 :: c10 :: c11 :: (mo, oModel tn stt tr (nI R) (nI C) (bI op) mki mel mto mio mwy (bI hwb) mme mhs mso msr mrs mce mcp) :: (mki, aI g 40 kinds) :: (mel, aI g 40 elders) :: (mto, aI g 25 tof) :: (mio, aZ g 40 iof) :: (mwy, aI g 4096 wyf) :: (mme, aZ g 36 mef) :: (mhs, aZ g 3 hsf) :: (mso, aI g 3 sof) :: (msr, aI g 3 srf) :: (mrs, aI g 12 rsf) :: (mce, aI g 480 cef) :: (mcp, aI g 40 cpf) :: rest) [(0, .ref mo), (1, .int x)] 6 [.int (nI (ctF kinds (thM R C op))), .int 0, .int x]
  refine X_callS (As := [.int x, .int 0, .int (nI (ctF kinds (thM R C op)))]) (rest := []) K0 (c_in g (c0 :: c1 :: c2 :: c3 :: c4 :: c5 :: c6 :: c7 :: c8 :: c9 :: c10 :: c11 :: (mo, oModel tn stt tr (nI R) (nI C) (bI op) mki mel mto mio mwy (bI hwb) mme mhs mso msr mrs mce mcp) :: (mki, aI g 40 kinds) :: (mel, aI g 40 elders) :: (mto, aI g 25 tof) :: (mio, aZ g 40 iof) :: (mwy, aI g 4096 wyf) :: (mme, aZ g 36 mef) :: (mhs, aZ g 3 hsf) :: (mso, aI g 3 sof) :: (msr, aI g 3 srf) :: (mrs, aI g 12 rsf) :: (mce, aI g 480 cef) :: (mcp, aI g 40 cpf) :: rest) x 0 (nI (ctF kinds (thM R C op)))) ms_X5_in rfl ml_RX5_81 rfl (Nat.le_of_ble_eq_true rfl) (by decide) ⟨Nat.le_of_ble_eq_true rfl, Nat.le_of_ble_eq_true rfl⟩ rfl rfl dX5_isSize_6 ?_
  intro v w' hr'; obtain ⟨rfl, rfl⟩ := hr'
  show X φ 0 0 (c0 :: c1 :: c2 :: c3 :: c4 :: c5 :: c6 :: c7 :: c8 :: c9 :: c10 :: c11 :: (mo, oModel tn stt tr (nI R) (nI C) (bI op) mki mel mto mio mwy (bI hwb) mme mhs mso msr mrs mce mcp) :: (mki, aI g 40 kinds) :: (mel, aI g 40 elders) :: (mto, aI g 25 tof) :: (mio, aZ g 40 iof) :: (mwy, aI g 4096 wyf) :: (mme, aZ g 36 mef) :: (mhs, aZ g 3 hsf) :: (mso, aI g 3 sof) :: (msr, aI g 3 srf) :: (mrs, aI g 12 rsf) :: (mce, aI g 480 cef) :: (mcp, aI g 40 cpf) :: rest) [(0, .ref mo), (1, .int x)] 9 [.int (bI (wiB x 0 (nI (ctF kinds (thM R C op)))))]
  exact hr _ _ _ _ ⟨rfl, rfl⟩ (bI_01 _) dX5_isSize_9

set_option maxRecDepth 20000 in
set_option maxHeartbeats 400000 in
theorem m_bits (g : Gx) (w : va_W) (x : Int32) : Con g yX5_bits cX5_bits 3 (some .int) 0 0 0 0 [.int x] w (Rs (some (.int (bsM x 12))) w) := by
  refine Con.ofI (by decide +kernel) (Nat.le_of_ble_eq_true rfl) (fun φ K0 hr => ?_)
  show X φ 0 0 w [(0, .int x)] 0 []
  refine X_iconst (v := 0) K0 dX5_bits_0 (by decide) ?_
  refine X_istore_n (L' := [(1, .int 0), (0, .int x)]) K0 dX5_bits_1 rfl (by decide) rfl ?_
  refine X_iconst (v := 0) K0 dX5_bits_2 (by decide) ?_
  refine X_istore_n (L' := [(2, .int 0), (1, .int 0), (0, .int x)]) K0 dX5_bits_3 rfl (by decide) rfl ?_
  refine X.sub [2, 1, 0] (L' := [(0, .int x), (1, .int 0), (2, .int 0)]) rfl ?_
  have LOOP : ∀ (dd ii : Nat), ii + dd = 12 → X φ 0 0 w [(0, .int x), (1, .int (bsM x ii)), (2, .int (nI ii))] 4 [] := by
    intro dd
    induction dd with
    | zero =>
      intro ii hii 
      have hii2 : 12 = ii := by omega
      subst hii2
      refine X_iload_n K0 2 dX5_bits_4 rfl rfl ?_
      refine X_bipush (v := 12) K0 dX5_bits_5 (by decide) ?_
      refine X_icmp_ge K0 24 dX5_bits_7 (by decide) (fun h7 => ?_) (fun h7 => ?_)
      · refine X_iload_n K0 1 dX5_bits_24 rfl rfl ?_
        exact hr _ _ _ _ ⟨rfl, rfl⟩ dX5_bits_25
      · exact absurd (nI_le (Nat.le_refl 12) (by decide)) h7
    | succ dd ih =>
      intro ii hii 
      have hlt : ii < 12 := by omega
      refine X_iload_n K0 2 dX5_bits_4 rfl rfl ?_
      refine X_bipush (v := 12) K0 dX5_bits_5 (by decide) ?_
      refine X_icmp_ge K0 24 dX5_bits_7 (by decide) (fun h7 => ?_) (fun h7 => ?_)
      · exact absurd h7 (nI_ge (b := 12) hlt (by decide))
      · refine X_iload_n K0 1 dX5_bits_10 rfl rfl ?_
        refine X_iload_n K0 0 dX5_bits_11 rfl rfl ?_
        refine X_iload_n K0 2 dX5_bits_12 rfl rfl ?_
        refine X_ishr K0 dX5_bits_13 ?_
        refine X_iconst (v := 1) K0 dX5_bits_14 (by decide) ?_
        refine X_iand K0 dX5_bits_15 ?_
        refine X_iadd K0 dX5_bits_16 ?_
        refine X_istore_n (L' := [(1, .int ((bsM x ii) + ((x >>> ((nI ii) &&& 31)) &&& 1))), (0, .int x), (2, .int (nI ii))]) K0 dX5_bits_17 rfl (by decide) rfl ?_
        refine X_iinc (v := ((nI ii) + 1)) (L' := [(2, .int ((nI ii) + 1)), (1, .int ((bsM x ii) + ((x >>> ((nI ii) &&& 31)) &&& 1))), (0, .int x)]) K0 2 dX5_bits_18 rfl (by first | rfl | decide) (by decide) rfl ?_
        refine X_goto K0 4 dX5_bits_21 (by decide) ?_
        refine X.sub [2, 1, 0] (L' := [(0, .int x), (1, .int ((bsM x ii) + ((x >>> ((nI ii) &&& 31)) &&& 1))), (2, .int ((nI ii) + 1))]) rfl ?_
        exact X_eq rfl (by rw [nI_succ] <;> rfl) rfl (ih (ii + 1) (by omega))
  exact LOOP 12 0 (by omega)

set_option maxRecDepth 20000 in
set_option maxHeartbeats 400000 in
theorem m_trace (g : Gx) (c0 c1 c2 c3 c4 c5 c6 c7 c8 c9 c10 c11 : Nat × va_E) (mo mki mel mto mio mwy mme mhs mso msr mrs mce mcp : Nat) (tn stt : Int32) (tr : Int64) (R C : Nat) (op hwb : Bool) (kinds elders tof iof wyf mef hsf sof srf rsf cef cpf : Nat → Int32) (rest : va_W) : Con g yX5_trace cX5_trace 1 (some .long) 0 0 0 0 [.ref mo] (c0 :: c1 :: c2 :: c3 :: c4 :: c5 :: c6 :: c7 :: c8 :: c9 :: c10 :: c11 :: (mo, oModel tn stt tr (nI R) (nI C) (bI op) mki mel mto mio mwy (bI hwb) mme mhs mso msr mrs mce mcp) :: (mki, aI g 40 kinds) :: (mel, aI g 40 elders) :: (mto, aI g 25 tof) :: (mio, aZ g 40 iof) :: (mwy, aI g 4096 wyf) :: (mme, aZ g 36 mef) :: (mhs, aZ g 3 hsf) :: (mso, aI g 3 sof) :: (msr, aI g 3 srf) :: (mrs, aI g 12 rsf) :: (mce, aI g 480 cef) :: (mcp, aI g 40 cpf) :: rest) (Rs (some (.long tr)) (c0 :: c1 :: c2 :: c3 :: c4 :: c5 :: c6 :: c7 :: c8 :: c9 :: c10 :: c11 :: (mo, oModel 0 stt tr (nI R) (nI C) (bI op) mki mel mto mio mwy (bI hwb) mme mhs mso msr mrs mce mcp) :: (mki, aI g 40 kinds) :: (mel, aI g 40 elders) :: (mto, aI g 25 tof) :: (mio, aZ g 40 iof) :: (mwy, aI g 4096 wyf) :: (mme, aZ g 36 mef) :: (mhs, aZ g 3 hsf) :: (mso, aI g 3 sof) :: (msr, aI g 3 srf) :: (mrs, aI g 12 rsf) :: (mce, aI g 480 cef) :: (mcp, aI g 40 cpf) :: rest)) := by
  refine Con.ofL (by decide +kernel) (Nat.le_of_ble_eq_true rfl) (fun φ K0 hr => ?_)
  show X φ 0 0 (c0 :: c1 :: c2 :: c3 :: c4 :: c5 :: c6 :: c7 :: c8 :: c9 :: c10 :: c11 :: (mo, oModel tn stt tr (nI R) (nI C) (bI op) mki mel mto mio mwy (bI hwb) mme mhs mso msr mrs mce mcp) :: (mki, aI g 40 kinds) :: (mel, aI g 40 elders) :: (mto, aI g 25 tof) :: (mio, aZ g 40 iof) :: (mwy, aI g 4096 wyf) :: (mme, aZ g 36 mef) :: (mhs, aZ g 3 hsf) :: (mso, aI g 3 sof) :: (msr, aI g 3 srf) :: (mrs, aI g 12 rsf) :: (mce, aI g 480 cef) :: (mcp, aI g 40 cpf) :: rest) [(0, .ref mo)] 0 []
  refine X_aload_n K0 0 dX5_trace_0 rfl rfl ?_
  refine X_iconst (v := 0) K0 dX5_trace_1 (by decide) ?_
  refine X_put (w' := (c0 :: c1 :: c2 :: c3 :: c4 :: c5 :: c6 :: c7 :: c8 :: c9 :: c10 :: c11 :: (mo, oModel 0 stt tr (nI R) (nI C) (bI op) mki mel mto mio mwy (bI hwb) mme mhs mso msr mrs mce mcp) :: (mki, aI g 40 kinds) :: (mel, aI g 40 elders) :: (mto, aI g 25 tof) :: (mio, aZ g 40 iof) :: (mwy, aI g 4096 wyf) :: (mme, aZ g 36 mef) :: (mhs, aZ g 3 hsf) :: (mso, aI g 3 sof) :: (msr, aI g 3 srf) :: (mrs, aI g 12 rsf) :: (mce, aI g 480 cef) :: (mcp, aI g 40 cpf) :: rest)) K0 12 rfl rfl hin5 tyX5 tyX5_ok nmX5 0 (by decide) fl_RX5_58 rfl (tyX5_ok 0 (by decide)) rfl rfl (Nat.le_of_ble_eq_true rfl) dX5_trace_2 rfl ?_
  refine X_aload_n K0 0 dX5_trace_5 rfl rfl ?_
  refine X_get K0 12 rfl rfl hin5 2 (by decide) fl_RX5_110 rfl dX5_trace_6 ?_
  exact hr _ _ _ _ ⟨rfl, rfl⟩ dX5_trace_9

set_option maxRecDepth 20000 in
set_option maxHeartbeats 400000 in
theorem m_status (g : Gx) (c0 c1 c2 c3 c4 c5 c6 c7 c8 c9 c10 c11 : Nat × va_E) (mo mki mel mto mio mwy mme mhs mso msr mrs mce mcp : Nat) (tn stt : Int32) (tr : Int64) (R C : Nat) (op hwb : Bool) (kinds elders tof iof wyf mef hsf sof srf rsf cef cpf : Nat → Int32) (rest : va_W) : Con g yX5_status cX5_status 1 (some .int) 0 0 0 0 [.ref mo] (c0 :: c1 :: c2 :: c3 :: c4 :: c5 :: c6 :: c7 :: c8 :: c9 :: c10 :: c11 :: (mo, oModel tn stt tr (nI R) (nI C) (bI op) mki mel mto mio mwy (bI hwb) mme mhs mso msr mrs mce mcp) :: (mki, aI g 40 kinds) :: (mel, aI g 40 elders) :: (mto, aI g 25 tof) :: (mio, aZ g 40 iof) :: (mwy, aI g 4096 wyf) :: (mme, aZ g 36 mef) :: (mhs, aZ g 3 hsf) :: (mso, aI g 3 sof) :: (msr, aI g 3 srf) :: (mrs, aI g 12 rsf) :: (mce, aI g 480 cef) :: (mcp, aI g 40 cpf) :: rest) (Rs (some (.int stt)) (c0 :: c1 :: c2 :: c3 :: c4 :: c5 :: c6 :: c7 :: c8 :: c9 :: c10 :: c11 :: (mo, oModel 0 stt tr (nI R) (nI C) (bI op) mki mel mto mio mwy (bI hwb) mme mhs mso msr mrs mce mcp) :: (mki, aI g 40 kinds) :: (mel, aI g 40 elders) :: (mto, aI g 25 tof) :: (mio, aZ g 40 iof) :: (mwy, aI g 4096 wyf) :: (mme, aZ g 36 mef) :: (mhs, aZ g 3 hsf) :: (mso, aI g 3 sof) :: (msr, aI g 3 srf) :: (mrs, aI g 12 rsf) :: (mce, aI g 480 cef) :: (mcp, aI g 40 cpf) :: rest)) := by
  refine Con.ofI (by decide +kernel) (Nat.le_of_ble_eq_true rfl) (fun φ K0 hr => ?_)
  show X φ 0 0 (c0 :: c1 :: c2 :: c3 :: c4 :: c5 :: c6 :: c7 :: c8 :: c9 :: c10 :: c11 :: (mo, oModel tn stt tr (nI R) (nI C) (bI op) mki mel mto mio mwy (bI hwb) mme mhs mso msr mrs mce mcp) :: (mki, aI g 40 kinds) :: (mel, aI g 40 elders) :: (mto, aI g 25 tof) :: (mio, aZ g 40 iof) :: (mwy, aI g 4096 wyf) :: (mme, aZ g 36 mef) :: (mhs, aZ g 3 hsf) :: (mso, aI g 3 sof) :: (msr, aI g 3 srf) :: (mrs, aI g 12 rsf) :: (mce, aI g 480 cef) :: (mcp, aI g 40 cpf) :: rest) [(0, .ref mo)] 0 []
  refine X_aload_n K0 0 dX5_status_0 rfl rfl ?_
  refine X_iconst (v := 0) K0 dX5_status_1 (by decide) ?_
  refine X_put (w' := (c0 :: c1 :: c2 :: c3 :: c4 :: c5 :: c6 :: c7 :: c8 :: c9 :: c10 :: c11 :: (mo, oModel 0 stt tr (nI R) (nI C) (bI op) mki mel mto mio mwy (bI hwb) mme mhs mso msr mrs mce mcp) :: (mki, aI g 40 kinds) :: (mel, aI g 40 elders) :: (mto, aI g 25 tof) :: (mio, aZ g 40 iof) :: (mwy, aI g 4096 wyf) :: (mme, aZ g 36 mef) :: (mhs, aZ g 3 hsf) :: (mso, aI g 3 sof) :: (msr, aI g 3 srf) :: (mrs, aI g 12 rsf) :: (mce, aI g 480 cef) :: (mcp, aI g 40 cpf) :: rest)) K0 12 rfl rfl hin5 tyX5 tyX5_ok nmX5 0 (by decide) fl_RX5_58 rfl (tyX5_ok 0 (by decide)) rfl rfl (Nat.le_of_ble_eq_true rfl) dX5_status_2 rfl ?_
  refine X_aload_n K0 0 dX5_status_5 rfl rfl ?_
  refine X_get K0 12 rfl rfl hin5 1 (by decide) fl_RX5_175 rfl dX5_status_6 ?_
  exact hr _ _ _ _ ⟨rfl, rfl⟩ dX5_status_9
