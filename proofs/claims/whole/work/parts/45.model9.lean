set_option maxRecDepth 20000 in
set_option maxHeartbeats 400000 in
theorem m_read (g : Gx) (c0 c1 c2 c3 c4 c5 c6 c7 c8 c9 c10 c11 : Nat × va_E) (mo mki mel mto mio mwy mme mhs mso msr mrs mce mcp : Nat) (tn stt : Int32) (tr : Int64) (R C : Nat) (op hwb : Bool) (kinds elders tof iof wyf mef hsf sof srf rsf cef cpf : Nat → Int32) (rest : va_W) (hR : 1 ≤ R ∧ R ≤ 5) (hC : 1 ≤ C ∧ C ≤ 5) (hKI : KI (thM R C op) kinds elders) (hWY : WY R C op kinds elders hwb wyf) (abs : Nat → SH) (hMS : MSh abs hsf sof srf rsf cef) (x r : Int32) : Con g yX5_read cX5_read 6 (some .int) 5 106 0 0 [.ref mo, .int x, .int r] (c0 :: c1 :: c2 :: c3 :: c4 :: c5 :: c6 :: c7 :: c8 :: c9 :: c10 :: c11 :: (mo, oModel tn stt tr (nI R) (nI C) (bI op) mki mel mto mio mwy (bI hwb) mme mhs mso msr mrs mce mcp) :: (mki, aI g 40 kinds) :: (mel, aI g 40 elders) :: (mto, aI g 25 tof) :: (mio, aZ g 40 iof) :: (mwy, aI g 4096 wyf) :: (mme, aZ g 36 mef) :: (mhs, aZ g 3 hsf) :: (mso, aI g 3 sof) :: (msr, aI g 3 srf) :: (mrs, aI g 12 rsf) :: (mce, aI g 480 cef) :: (mcp, aI g 40 cpf) :: rest) (fun v' w' => (wiB x 0 2 = false ∧ v' = some (.int (-1)) ∧ (c0 :: c1 :: c2 :: c3 :: c4 :: c5 :: c6 :: c7 :: c8 :: c9 :: c10 :: c11 :: (mo, oModel 0 (-1) tr (nI R) (nI C) (bI op) mki mel mto mio mwy (bI hwb) mme mhs mso msr mrs mce mcp) :: (mki, aI g 40 kinds) :: (mel, aI g 40 elders) :: (mto, aI g 25 tof) :: (mio, aZ g 40 iof) :: (mwy, aI g 4096 wyf) :: (mme, aZ g 36 mef) :: (mhs, aZ g 3 hsf) :: (mso, aI g 3 sof) :: (msr, aI g 3 srf) :: (mrs, aI g 12 rsf) :: (mce, aI g 480 cef) :: (mcp, aI g 40 cpf) :: rest) = w') ∨ (∃ j, j < 3 ∧ x = nI j ∧ ((¬ rfD (abs j) r = 0 ∧ v' = some (.int 0) ∧ (c0 :: c1 :: c2 :: c3 :: c4 :: c5 :: c6 :: c7 :: c8 :: c9 :: c10 :: c11 :: (mo, oModel 0 (rfD (abs j) r) tr (nI R) (nI C) (bI op) mki mel mto mio mwy (bI hwb) mme mhs mso msr mrs mce mcp) :: (mki, aI g 40 kinds) :: (mel, aI g 40 elders) :: (mto, aI g 25 tof) :: (mio, aZ g 40 iof) :: (mwy, aI g 4096 wyf) :: (mme, aZ g 36 mef) :: (mhs, aZ g 3 hsf) :: (mso, aI g 3 sof) :: (msr, aI g 3 srf) :: (mrs, aI g 12 rsf) :: (mce, aI g 480 cef) :: (mcp, aI g 40 cpf) :: rest) = w') ∨ (∃ (so : Int32) (nr : Nat) (rows : Nat → RW) (jr len : Nat) (row : Nat → Int32), abs j = some (so, nr, rows) ∧ jr < nr ∧ r = nI jr ∧ rows jr = some (len, row) ∧ len ≤ 40 ∧ ∃ (i : Nat) (f : Int32) (kinds2 elders2 : Nat → Int32) (hq : Bool), v' = some (.int (nI i)) ∧ rkO (thM R C op) (if (thM R C op) < len then (thM R C op) else len) row kinds elders i f ∧ kinds2 = rkK row kinds i ∧ elders2 = rkE elders i ∧ KI (thM R C op) kinds2 elders2 ∧ WY R C op kinds2 elders2 hq wyf ∧ (c0 :: c1 :: c2 :: c3 :: c4 :: c5 :: c6 :: c7 :: c8 :: c9 :: c10 :: c11 :: (mo, oModel 0 f tr (nI R) (nI C) (bI op) mki mel mto mio mwy (bI hq) mme mhs mso msr mrs mce mcp) :: (mki, aI g 40 kinds2) :: (mel, aI g 40 elders2) :: (mto, aI g 25 tof) :: (mio, aZ g 40 iof) :: (mwy, aI g 4096 wyf) :: (mme, aZ g 36 mef) :: (mhs, aZ g 3 hsf) :: (mso, aI g 3 sof) :: (msr, aI g 3 srf) :: (mrs, aI g 12 rsf) :: (mce, aI g 480 cef) :: (mcp, aI g 40 cpf) :: rest) = w')))) := by
  have hTM := th_M (op := op) hR hC
  have hPM := pl_M hR hC
  have hRM := rd_M hR hC
  refine Con.ofI (by decide +kernel) (Nat.le_of_ble_eq_true rfl) (fun φ K0 hr => ?_)
  show X φ 0 0 (c0 :: c1 :: c2 :: c3 :: c4 :: c5 :: c6 :: c7 :: c8 :: c9 :: c10 :: c11 :: (mo, oModel tn stt tr (nI R) (nI C) (bI op) mki mel mto mio mwy (bI hwb) mme mhs mso msr mrs mce mcp) :: (mki, aI g 40 kinds) :: (mel, aI g 40 elders) :: (mto, aI g 25 tof) :: (mio, aZ g 40 iof) :: (mwy, aI g 4096 wyf) :: (mme, aZ g 36 mef) :: (mhs, aZ g 3 hsf) :: (mso, aI g 3 sof) :: (msr, aI g 3 srf) :: (mrs, aI g 12 rsf) :: (mce, aI g 480 cef) :: (mcp, aI g 40 cpf) :: rest) [(0, .ref mo), (1, .int x), (2, .int r)] 0 []
  refine X_aload_n K0 0 dX5_read_0 rfl rfl ?_
  refine X_iconst (v := 0) K0 dX5_read_1 (by decide) ?_
  refine X_put (w' := (c0 :: c1 :: c2 :: c3 :: c4 :: c5 :: c6 :: c7 :: c8 :: c9 :: c10 :: c11 :: (mo, oModel 0 stt tr (nI R) (nI C) (bI op) mki mel mto mio mwy (bI hwb) mme mhs mso msr mrs mce mcp) :: (mki, aI g 40 kinds) :: (mel, aI g 40 elders) :: (mto, aI g 25 tof) :: (mio, aZ g 40 iof) :: (mwy, aI g 4096 wyf) :: (mme, aZ g 36 mef) :: (mhs, aZ g 3 hsf) :: (mso, aI g 3 sof) :: (msr, aI g 3 srf) :: (mrs, aI g 12 rsf) :: (mce, aI g 480 cef) :: (mcp, aI g 40 cpf) :: rest)) K0 12 rfl rfl hin5 tyX5 tyX5_ok nmX5 0 (by decide) fl_RX5_58 rfl (tyX5_ok 0 (by decide)) rfl rfl (Nat.le_of_ble_eq_true rfl) dX5_read_2 rfl ?_
  refine X_aload_n K0 0 dX5_read_5 rfl rfl ?_
  refine X_iconst (v := 0) K0 dX5_read_6 (by decide) ?_
  refine X_put (w' := (c0 :: c1 :: c2 :: c3 :: c4 :: c5 :: c6 :: c7 :: c8 :: c9 :: c10 :: c11 :: (mo, oModel 0 0 tr (nI R) (nI C) (bI op) mki mel mto mio mwy (bI hwb) mme mhs mso msr mrs mce mcp) :: (mki, aI g 40 kinds) :: (mel, aI g 40 elders) :: (mto, aI g 25 tof) :: (mio, aZ g 40 iof) :: (mwy, aI g 4096 wyf) :: (mme, aZ g 36 mef) :: (mhs, aZ g 3 hsf) :: (mso, aI g 3 sof) :: (msr, aI g 3 srf) :: (mrs, aI g 12 rsf) :: (mce, aI g 480 cef) :: (mcp, aI g 40 cpf) :: rest)) K0 12 rfl rfl hin5 tyX5 tyX5_ok nmX5 1 (by decide) fl_RX5_175 rfl (tyX5_ok 1 (by decide)) rfl rfl (Nat.le_of_ble_eq_true rfl) dX5_read_7 rfl ?_
  refine X_iload_n K0 1 dX5_read_10 rfl rfl ?_
  refine X_iconst (v := 0) K0 dX5_read_11 (by decide) ?_
  refine X_iconst (v := 2) K0 dX5_read_12 (by decide) ?_
  refine X_callS (As := [.int x, .int 0, .int 2]) (rest := []) K0 (c_in g (c0 :: c1 :: c2 :: c3 :: c4 :: c5 :: c6 :: c7 :: c8 :: c9 :: c10 :: c11 :: (mo, oModel 0 0 tr (nI R) (nI C) (bI op) mki mel mto mio mwy (bI hwb) mme mhs mso msr mrs mce mcp) :: (mki, aI g 40 kinds) :: (mel, aI g 40 elders) :: (mto, aI g 25 tof) :: (mio, aZ g 40 iof) :: (mwy, aI g 4096 wyf) :: (mme, aZ g 36 mef) :: (mhs, aZ g 3 hsf) :: (mso, aI g 3 sof) :: (msr, aI g 3 srf) :: (mrs, aI g 12 rsf) :: (mce, aI g 480 cef) :: (mcp, aI g 40 cpf) :: rest) x 0 2) ms_X5_in rfl ml_RX5_81 rfl (Nat.le_of_ble_eq_true rfl) (by decide) ⟨Nat.le_of_ble_eq_true rfl, Nat.le_of_ble_eq_true rfl⟩ rfl rfl dX5_read_13 ?_
  intro v w' hr'; obtain ⟨rfl, rfl⟩ := hr'
  show X φ 0 0 (c0 :: c1 :: c2 :: c3 :: c4 :: c5 :: c6 :: c7 :: c8 :: c9 :: c10 :: c11 :: (mo, oModel 0 0 tr (nI R) (nI C) (bI op) mki mel mto mio mwy (bI hwb) mme mhs mso msr mrs mce mcp) :: (mki, aI g 40 kinds) :: (mel, aI g 40 elders) :: (mto, aI g 25 tof) :: (mio, aZ g 40 iof) :: (mwy, aI g 4096 wyf) :: (mme, aZ g 36 mef) :: (mhs, aZ g 3 hsf) :: (mso, aI g 3 sof) :: (msr, aI g 3 srf) :: (mrs, aI g 12 rsf) :: (mce, aI g 480 cef) :: (mcp, aI g 40 cpf) :: rest) [(0, .ref mo), (1, .int x), (2, .int r)] 16 [.int (bI (wiB x 0 2))]
  refine X_if_ne K0 25 dX5_read_16 (by decide) (fun h16 => ?_) (fun h16 => ?_)
  · obtain ⟨j, hj, rfl⟩ := wi_3 (bI_n0.mp h16)
    have hclj : (nI j).toNatClampNeg = j := nI_clamp (by omega)
    refine X_aload_n K0 0 dX5_read_25 rfl rfl ?_
    refine X_get K0 12 rfl rfl hin5 13 (by decide) fl_RX5_36 rfl dX5_read_26 ?_
    refine X_iload_n K0 1 dX5_read_29 rfl rfl ?_
    cases hab : abs j with
    | none =>
      refine X_zaldN K0 19 rfl (by omega) (by first | decide | omega) dX5_read_30 ?_
      refine X_v (ms_none hMS hj hab) ?_
      refine X_if_ne K0 42 dX5_read_31 (by decide) (fun h31 => ?_) (fun h31 => ?_)
      · exact absurd rfl h31
      · refine X_aload_n K0 0 dX5_read_34 rfl rfl ?_
        refine X_bipush (v := (-11)) K0 dX5_read_35 (by decide) ?_
        refine X_put (w' := (c0 :: c1 :: c2 :: c3 :: c4 :: c5 :: c6 :: c7 :: c8 :: c9 :: c10 :: c11 :: (mo, oModel 0 (-11) tr (nI R) (nI C) (bI op) mki mel mto mio mwy (bI hwb) mme mhs mso msr mrs mce mcp) :: (mki, aI g 40 kinds) :: (mel, aI g 40 elders) :: (mto, aI g 25 tof) :: (mio, aZ g 40 iof) :: (mwy, aI g 4096 wyf) :: (mme, aZ g 36 mef) :: (mhs, aZ g 3 hsf) :: (mso, aI g 3 sof) :: (msr, aI g 3 srf) :: (mrs, aI g 12 rsf) :: (mce, aI g 480 cef) :: (mcp, aI g 40 cpf) :: rest)) K0 12 rfl rfl hin5 tyX5 tyX5_ok nmX5 1 (by decide) fl_RX5_175 rfl (tyX5_ok 1 (by decide)) rfl rfl (Nat.le_of_ble_eq_true rfl) dX5_read_37 rfl ?_
        refine X_iconst (v := 0) K0 dX5_read_40 (by decide) ?_
        exact hr _ _ _ _ (Or.inr ⟨j, hj, rfl, Or.inl (by rw [hab, rf_none]; exact ⟨by decide, rfl, rfl⟩)⟩) dX5_read_41
    | some v =>
      obtain ⟨s1, nr, rows⟩ := v
      obtain ⟨e1, e2, e3, e4, e5, e6⟩ := ms_some hMS hj hab
      refine X_zaldN K0 19 rfl (by omega) (by first | decide | omega) dX5_read_30 ?_
      refine X_v e1 ?_
      refine X_if_ne K0 42 dX5_read_31 (by decide) (fun h31 => ?_) (fun h31 => ?_)
      · refine X_iload_n K0 2 dX5_read_42 rfl rfl ?_
        refine X_iconst (v := 0) K0 dX5_read_43 (by decide) ?_
        refine X_aload_n K0 0 dX5_read_44 rfl rfl ?_
        refine X_get K0 12 rfl rfl hin5 15 (by decide) fl_RX5_42 rfl dX5_read_45 ?_
        refine X_iload_n K0 1 dX5_read_48 rfl rfl ?_
        refine X_ialdN K0 21 rfl (by omega) (by first | decide | omega) dX5_read_49 ?_
        refine X_v e3 ?_
        refine X_iconst (v := 1) K0 dX5_read_50 (by decide) ?_
        refine X_isub K0 dX5_read_51 ?_
        refine X_callS (As := [.int r, .int 0, .int ((nI nr) - 1)]) (rest := []) K0 (c_in g (c0 :: c1 :: c2 :: c3 :: c4 :: c5 :: c6 :: c7 :: c8 :: c9 :: c10 :: c11 :: (mo, oModel 0 0 tr (nI R) (nI C) (bI op) mki mel mto mio mwy (bI hwb) mme mhs mso msr mrs mce mcp) :: (mki, aI g 40 kinds) :: (mel, aI g 40 elders) :: (mto, aI g 25 tof) :: (mio, aZ g 40 iof) :: (mwy, aI g 4096 wyf) :: (mme, aZ g 36 mef) :: (mhs, aZ g 3 hsf) :: (mso, aI g 3 sof) :: (msr, aI g 3 srf) :: (mrs, aI g 12 rsf) :: (mce, aI g 480 cef) :: (mcp, aI g 40 cpf) :: rest) r 0 ((nI nr) - 1)) ms_X5_in rfl ml_RX5_81 rfl (Nat.le_of_ble_eq_true rfl) (by decide) ⟨Nat.le_of_ble_eq_true rfl, Nat.le_of_ble_eq_true rfl⟩ rfl rfl dX5_read_52 ?_
        intro v w' hr'; obtain ⟨rfl, rfl⟩ := hr'
        show X φ 0 0 (c0 :: c1 :: c2 :: c3 :: c4 :: c5 :: c6 :: c7 :: c8 :: c9 :: c10 :: c11 :: (mo, oModel 0 0 tr (nI R) (nI C) (bI op) mki mel mto mio mwy (bI hwb) mme mhs mso msr mrs mce mcp) :: (mki, aI g 40 kinds) :: (mel, aI g 40 elders) :: (mto, aI g 25 tof) :: (mio, aZ g 40 iof) :: (mwy, aI g 4096 wyf) :: (mme, aZ g 36 mef) :: (mhs, aZ g 3 hsf) :: (mso, aI g 3 sof) :: (msr, aI g 3 srf) :: (mrs, aI g 12 rsf) :: (mce, aI g 480 cef) :: (mcp, aI g 40 cpf) :: rest) [(0, .ref mo), (1, .int (nI j)), (2, .int r)] 55 [.int (bI (wiB r 0 ((nI nr) - 1)))]
        refine X_if_ne K0 66 dX5_read_55 (by decide) (fun h55 => ?_) (fun h55 => ?_)
        · obtain ⟨jr, hjr, rfl⟩ := hr_of (hry e5 h55) e5
          refine X_aload_n K0 0 dX5_read_66 rfl rfl ?_
          refine X_get K0 12 rfl rfl hin5 16 (by decide) fl_RX5_45 rfl dX5_read_67 ?_
          refine X_iconst (v := 4) K0 dX5_read_70 (by decide) ?_
          refine X_iload_n K0 1 dX5_read_71 rfl rfl ?_
          refine X_imul K0 dX5_read_72 ?_
          refine X_v (z := (nI (4 * j))) (pk_mul 4 j) ?_
          refine X_iload_n K0 2 dX5_read_73 rfl rfl ?_
          refine X_iadd K0 dX5_read_74 ?_
          refine X_v (z := (nI (4 * j + jr))) (nI_add _ _) ?_
          cases hrw : rows jr with
          | none =>
            refine X_ialdN K0 22 rfl (by omega) (by first | decide | omega) dX5_read_75 ?_
            refine X_v (mr_none (e6 jr hjr) hrw) ?_
            refine X_istore_n (L' := [(3, .int (-9)), (0, .ref mo), (1, .int (nI j)), (2, .int (nI jr))]) K0 dX5_read_76 rfl (by decide) rfl ?_
            refine X_iload_n K0 0 dX5_read_77 rfl rfl ?_
            refine X_bipush (v := (-9)) K0 dX5_read_78 (by decide) ?_
            refine X_icmp_ne K0 91 dX5_read_80 (by decide) (fun h80 => ?_) (fun h80 => ?_)
            · exact absurd rfl h80
            · refine X_aload_n K0 1 dX5_read_83 rfl rfl ?_
              refine X_bipush (v := (-11)) K0 dX5_read_84 (by decide) ?_
              refine X_put (w' := (c0 :: c1 :: c2 :: c3 :: c4 :: c5 :: c6 :: c7 :: c8 :: c9 :: c10 :: c11 :: (mo, oModel 0 (-11) tr (nI R) (nI C) (bI op) mki mel mto mio mwy (bI hwb) mme mhs mso msr mrs mce mcp) :: (mki, aI g 40 kinds) :: (mel, aI g 40 elders) :: (mto, aI g 25 tof) :: (mio, aZ g 40 iof) :: (mwy, aI g 4096 wyf) :: (mme, aZ g 36 mef) :: (mhs, aZ g 3 hsf) :: (mso, aI g 3 sof) :: (msr, aI g 3 srf) :: (mrs, aI g 12 rsf) :: (mce, aI g 480 cef) :: (mcp, aI g 40 cpf) :: rest)) K0 12 rfl rfl hin5 tyX5 tyX5_ok nmX5 1 (by decide) fl_RX5_175 rfl (tyX5_ok 1 (by decide)) rfl rfl (Nat.le_of_ble_eq_true rfl) dX5_read_86 rfl ?_
              refine X_iconst (v := 0) K0 dX5_read_89 (by decide) ?_
              exact hr _ _ _ _ (Or.inr ⟨j, hj, rfl, Or.inl (by rw [hab, rf_rn hjr e5 hrw]; exact ⟨by decide, rfl, rfl⟩)⟩) dX5_read_90
          | some u =>
            obtain ⟨len, f⟩ := u
            obtain ⟨m1, m2, m3⟩ := mr_some (e6 jr hjr) hrw
            refine X_ialdN K0 22 rfl (by omega) (by first | decide | omega) dX5_read_75 ?_
            refine X_v m1 ?_
            refine X_istore_n (L' := [(3, .int (nI len)), (0, .ref mo), (1, .int (nI j)), (2, .int (nI jr))]) K0 dX5_read_76 rfl (by decide) rfl ?_
            refine X_iload_n K0 0 dX5_read_77 rfl rfl ?_
            refine X_bipush (v := (-9)) K0 dX5_read_78 (by decide) ?_
            refine X_icmp_ne K0 91 dX5_read_80 (by decide) (fun h80 => ?_) (fun h80 => ?_)
            · refine X_iconst (v := 0) K0 dX5_read_91 (by decide) ?_
              refine X_istore (L' := [(4, .int 0), (3, .int (nI len)), (0, .ref mo), (1, .int (nI j)), (2, .int (nI jr))]) K0 dX5_read_92 (by decide) rfl ?_
              obtain ⟨n, hn, hnT, hnl, hmin⟩ : ∃ n, n = (if (thM R C op) < len then (thM R C op) else len) ∧ n ≤ (thM R C op) ∧ n ≤ len ∧ (n = (thM R C op) ∨ n = len) := ⟨_, rfl, by split <;> omega, by split <;> omega, by split; exact Or.inl rfl; exact Or.inr rfl⟩
              refine X.sub [2, 3, 4, 1, 0] (L' := [(0, .ref mo), (1, .int (nI j)), (2, .int (nI jr)), (3, .int (nI len)), (4, .int 0)]) rfl ?_
              have LOOP : ∀ (dd ii : Nat), ii + dd = n → ∀ (kinds2 elders2 : Nat → Int32) (hq : Bool), kinds2 = rkK f kinds ii → elders2 = rkE elders ii → KI (thM R C op) kinds2 elders2 → WY R C op kinds2 elders2 hq wyf → (∀ t, t < ii → rkD (thM R C op) f kinds elders t = none) → X φ 0 0 (c0 :: c1 :: c2 :: c3 :: c4 :: c5 :: c6 :: c7 :: c8 :: c9 :: c10 :: c11 :: (mo, oModel 0 0 tr (nI R) (nI C) (bI op) mki mel mto mio mwy (bI hq) mme mhs mso msr mrs mce mcp) :: (mki, aI g 40 kinds2) :: (mel, aI g 40 elders2) :: (mto, aI g 25 tof) :: (mio, aZ g 40 iof) :: (mwy, aI g 4096 wyf) :: (mme, aZ g 36 mef) :: (mhs, aZ g 3 hsf) :: (mso, aI g 3 sof) :: (msr, aI g 3 srf) :: (mrs, aI g 12 rsf) :: (mce, aI g 480 cef) :: (mcp, aI g 40 cpf) :: rest) [(0, .ref mo), (1, .int (nI j)), (2, .int (nI jr)), (3, .int (nI len)), (4, .int (nI ii))] 94 [] := by
                intro dd
                induction dd with
                | zero =>
                  intro ii hii kinds2 elders2 hq hk2 he2 hKI2 hWY2 hno
                  have hii2 : n = ii := by omega
                  subst hii2
                  refine X_iload K0 4 dX5_read_94 rfl ?_
                  refine X_iload_n K0 3 dX5_read_96 rfl rfl ?_
                  refine X_icmp_ge K0 155 dX5_read_97 (by decide) (fun h97 => ?_) (fun h97 => ?_)
                  · refine X_iload K0 4 dX5_read_155 rfl ?_
                    exact hr _ _ _ _ (Or.inr ⟨j, hj, rfl, Or.inr ⟨s1, nr, rows, jr, len, f, hab, hjr, rfl, hrw, m2, n, 0, kinds2, elders2, hq, rfl, hn ▸ ⟨Nat.le_refl _, hno, Or.inl ⟨rfl, rfl⟩⟩, hk2, he2, hKI2, hWY2, rfl⟩⟩) dX5_read_157
                  · refine X_iload K0 4 dX5_read_100 rfl ?_
                    refine X_aload_n K0 0 dX5_read_102 rfl rfl ?_
                    refine X_callV (As := []) (rest := [.int (nI n)]) K0 12 (m_things g c0 c1 c2 c3 c4 c5 c6 c7 c8 c9 c10 c11 mo mki mel mto mio mwy mme mhs mso msr mrs mce mcp 0 0 tr R C op hq kinds2 elders2 tof iof wyf mef hsf sof srf rsf cef cpf rest hR hC ) mi_X5_things rfl rfl rfl ml_RX5_78 rfl (Nat.le_of_ble_eq_true rfl) (by decide) ⟨Nat.le_of_ble_eq_true rfl, Nat.le_of_ble_eq_true rfl⟩ rfl rfl dX5_read_103 ?_
                    intro v w' hr'; obtain ⟨rfl, rfl⟩ := hr'
                    show X φ 0 0 (c0 :: c1 :: c2 :: c3 :: c4 :: c5 :: c6 :: c7 :: c8 :: c9 :: c10 :: c11 :: (mo, oModel 0 0 tr (nI R) (nI C) (bI op) mki mel mto mio mwy (bI hq) mme mhs mso msr mrs mce mcp) :: (mki, aI g 40 kinds2) :: (mel, aI g 40 elders2) :: (mto, aI g 25 tof) :: (mio, aZ g 40 iof) :: (mwy, aI g 4096 wyf) :: (mme, aZ g 36 mef) :: (mhs, aZ g 3 hsf) :: (mso, aI g 3 sof) :: (msr, aI g 3 srf) :: (mrs, aI g 12 rsf) :: (mce, aI g 480 cef) :: (mcp, aI g 40 cpf) :: rest) [(0, .ref mo), (1, .int (nI j)), (2, .int (nI jr)), (3, .int (nI len)), (4, .int (nI n))] 106 [.int (nI (thM R C op)), .int (nI n)]
                    refine X_icmp_ge K0 155 dX5_read_106 (by decide) (fun h106 => ?_) (fun h106 => ?_)
                    · refine X_iload K0 4 dX5_read_155 rfl ?_
                      exact hr _ _ _ _ (Or.inr ⟨j, hj, rfl, Or.inr ⟨s1, nr, rows, jr, len, f, hab, hjr, rfl, hrw, m2, n, 0, kinds2, elders2, hq, rfl, hn ▸ ⟨Nat.le_refl _, hno, Or.inl ⟨rfl, rfl⟩⟩, hk2, he2, hKI2, hWY2, rfl⟩⟩) dX5_read_157
                    · have q1 := nlt_nat h97 (by omega) (by omega)
                      have q2 := nlt_nat h106 (by omega) (by omega)
                      omega
                | succ dd ih =>
                  intro ii hii kinds2 elders2 hq hk2 he2 hKI2 hWY2 hno
                  have hlt : ii < n := by omega
                  refine X_iload K0 4 dX5_read_94 rfl ?_
                  refine X_iload_n K0 3 dX5_read_96 rfl rfl ?_
                  refine X_icmp_ge K0 155 dX5_read_97 (by decide) (fun h97 => ?_) (fun h97 => ?_)
                  · exact absurd h97 (nI_ge (by omega) (by omega))
                  · refine X_iload K0 4 dX5_read_100 rfl ?_
                    refine X_aload_n K0 0 dX5_read_102 rfl rfl ?_
                    refine X_callV (As := []) (rest := [.int (nI ii)]) K0 12 (m_things g c0 c1 c2 c3 c4 c5 c6 c7 c8 c9 c10 c11 mo mki mel mto mio mwy mme mhs mso msr mrs mce mcp 0 0 tr R C op hq kinds2 elders2 tof iof wyf mef hsf sof srf rsf cef cpf rest hR hC ) mi_X5_things rfl rfl rfl ml_RX5_78 rfl (Nat.le_of_ble_eq_true rfl) (by decide) ⟨Nat.le_of_ble_eq_true rfl, Nat.le_of_ble_eq_true rfl⟩ rfl rfl dX5_read_103 ?_
                    intro v w' hr'; obtain ⟨rfl, rfl⟩ := hr'
                    show X φ 0 0 (c0 :: c1 :: c2 :: c3 :: c4 :: c5 :: c6 :: c7 :: c8 :: c9 :: c10 :: c11 :: (mo, oModel 0 0 tr (nI R) (nI C) (bI op) mki mel mto mio mwy (bI hq) mme mhs mso msr mrs mce mcp) :: (mki, aI g 40 kinds2) :: (mel, aI g 40 elders2) :: (mto, aI g 25 tof) :: (mio, aZ g 40 iof) :: (mwy, aI g 4096 wyf) :: (mme, aZ g 36 mef) :: (mhs, aZ g 3 hsf) :: (mso, aI g 3 sof) :: (msr, aI g 3 srf) :: (mrs, aI g 12 rsf) :: (mce, aI g 480 cef) :: (mcp, aI g 40 cpf) :: rest) [(0, .ref mo), (1, .int (nI j)), (2, .int (nI jr)), (3, .int (nI len)), (4, .int (nI ii))] 106 [.int (nI (thM R C op)), .int (nI ii)]
                    refine X_icmp_ge K0 155 dX5_read_106 (by decide) (fun h106 => ?_) (fun h106 => ?_)
                    · exact absurd h106 (nI_ge (by omega) (by omega))
                    · refine X_aload_n K0 0 dX5_read_109 rfl rfl ?_
                      refine X_iload K0 4 dX5_read_110 rfl ?_
                      refine X_aload_n K0 0 dX5_read_112 rfl rfl ?_
                      refine X_get K0 12 rfl rfl hin5 17 (by decide) fl_RX5_48 rfl dX5_read_113 ?_
                      refine X_sipush (v := 160) K0 dX5_read_116 (by decide) ?_
                      refine X_iload_n K0 1 dX5_read_119 rfl rfl ?_
                      refine X_imul K0 dX5_read_120 ?_
                      refine X_v (z := (nI (160 * j))) (pk_mul 160 j) ?_
                      refine X_bipush (v := 40) K0 dX5_read_121 (by decide) ?_
                      refine X_iload_n K0 2 dX5_read_123 rfl rfl ?_
                      refine X_imul K0 dX5_read_124 ?_
                      refine X_v (z := (nI (40 * jr))) (pk_mul 40 jr) ?_
                      refine X_iadd K0 dX5_read_125 ?_
                      refine X_v (z := (nI (160 * j + 40 * jr))) (nI_add _ _) ?_
                      refine X_iload K0 4 dX5_read_126 rfl ?_
                      refine X_iadd K0 dX5_read_128 ?_
                      refine X_v (z := (nI (160 * j + 40 * jr + ii))) (nI_add _ _) ?_
                      refine X_ialdN K0 23 rfl (by omega) (by first | decide | omega) dX5_read_129 ?_
                      refine X_v (m3 ii (by omega)) ?_
                      refine X_callV (As := [.int (nI ii), .int (f ii)]) (rest := []) K0 12 (m_becomes g c0 c1 c2 c3 c4 c5 c6 c7 c8 c9 c10 c11 mo mki mel mto mio mwy mme mhs mso msr mrs mce mcp 0 0 tr R C op hq kinds2 elders2 tof iof wyf mef hsf sof srf rsf cef cpf rest hR hC hKI2 (nI ii) (f ii)) mi_X5_becomes rfl rfl rfl ml_RX5_95 rfl (Nat.le_of_ble_eq_true rfl) (by decide) ⟨Nat.le_of_ble_eq_true rfl, Nat.le_of_ble_eq_true rfl⟩ rfl rfl dX5_read_130 ?_
                      intro v' w' hr'; rcases hr' with ⟨e, hkd, rfl, rfl⟩ | ⟨hkd, jj, hjj, hjx, rfl, rfl⟩
                      · show X φ 0 0 (c0 :: c1 :: c2 :: c3 :: c4 :: c5 :: c6 :: c7 :: c8 :: c9 :: c10 :: c11 :: (mo, oModel 0 0 tr (nI R) (nI C) (bI op) mki mel mto mio mwy (bI hq) mme mhs mso msr mrs mce mcp) :: (mki, aI g 40 kinds2) :: (mel, aI g 40 elders2) :: (mto, aI g 25 tof) :: (mio, aZ g 40 iof) :: (mwy, aI g 4096 wyf) :: (mme, aZ g 36 mef) :: (mhs, aZ g 3 hsf) :: (mso, aI g 3 sof) :: (msr, aI g 3 srf) :: (mrs, aI g 12 rsf) :: (mce, aI g 480 cef) :: (mcp, aI g 40 cpf) :: rest) [(0, .ref mo), (1, .int (nI j)), (2, .int (nI jr)), (3, .int (nI len)), (4, .int (nI ii))] 133 [.int e]
                        refine X_istore (L' := [(5, .int e), (0, .ref mo), (1, .int (nI j)), (2, .int (nI jr)), (3, .int (nI len)), (4, .int (nI ii))]) K0 dX5_read_133 (by decide) rfl ?_
                        refine X_iload K0 0 dX5_read_135 rfl ?_
                        refine X_if_ge K0 149 dX5_read_137 (by decide) (fun h137 => ?_) (fun h137 => ?_)
                        · exact absurd h137 (kd_neg hkd)
                        · refine X_aload_n K0 1 dX5_read_140 rfl rfl ?_
                          refine X_iload K0 0 dX5_read_141 rfl ?_
                          refine X_put (w' := (c0 :: c1 :: c2 :: c3 :: c4 :: c5 :: c6 :: c7 :: c8 :: c9 :: c10 :: c11 :: (mo, oModel 0 e tr (nI R) (nI C) (bI op) mki mel mto mio mwy (bI hq) mme mhs mso msr mrs mce mcp) :: (mki, aI g 40 kinds2) :: (mel, aI g 40 elders2) :: (mto, aI g 25 tof) :: (mio, aZ g 40 iof) :: (mwy, aI g 4096 wyf) :: (mme, aZ g 36 mef) :: (mhs, aZ g 3 hsf) :: (mso, aI g 3 sof) :: (msr, aI g 3 srf) :: (mrs, aI g 12 rsf) :: (mce, aI g 480 cef) :: (mcp, aI g 40 cpf) :: rest)) K0 12 rfl rfl hin5 tyX5 tyX5_ok nmX5 1 (by decide) fl_RX5_175 rfl (tyX5_ok 1 (by decide)) rfl rfl (Nat.le_of_ble_eq_true rfl) dX5_read_143 rfl ?_
                          refine X_iload K0 5 dX5_read_146 rfl ?_
                          exact hr _ _ _ _ (Or.inr ⟨j, hj, rfl, Or.inr ⟨s1, nr, rows, jr, len, f, hab, hjr, rfl, hrw, m2, ii, e, kinds2, elders2, hq, rfl, ⟨by omega, hno, Or.inr ⟨by omega, by rw [rkD, ← hk2, ← he2]; exact hkd⟩⟩, hk2, he2, hKI2, hWY2, rfl⟩⟩) dX5_read_148
                      · obtain rfl : ii = jj := (nI_eq (by omega) (by omega)).mp hjx
                        show X φ 0 0 (c0 :: c1 :: c2 :: c3 :: c4 :: c5 :: c6 :: c7 :: c8 :: c9 :: c10 :: c11 :: (mo, oModel 0 0 tr (nI R) (nI C) (bI op) mki mel mto mio mwy (bI false) mme mhs mso msr mrs mce mcp) :: (mki, aI g 40 (upd kinds2 ii (f ii))) :: (mel, aI g 40 (upd elders2 ii (-9))) :: (mto, aI g 25 tof) :: (mio, aZ g 40 iof) :: (mwy, aI g 4096 wyf) :: (mme, aZ g 36 mef) :: (mhs, aZ g 3 hsf) :: (mso, aI g 3 sof) :: (msr, aI g 3 srf) :: (mrs, aI g 12 rsf) :: (mce, aI g 480 cef) :: (mcp, aI g 40 cpf) :: rest) [(0, .ref mo), (1, .int (nI j)), (2, .int (nI jr)), (3, .int (nI len)), (4, .int (nI ii))] 133 [.int (kinds2 ii)]
                        refine X_istore (L' := [(5, .int (kinds2 ii)), (0, .ref mo), (1, .int (nI j)), (2, .int (nI jr)), (3, .int (nI len)), (4, .int (nI ii))]) K0 dX5_read_133 (by decide) rfl ?_
                        refine X_iload K0 0 dX5_read_135 rfl ?_
                        refine X_if_ge K0 149 dX5_read_137 (by decide) (fun h137 => ?_) (fun h137 => ?_)
                        · refine X_iinc (v := ((nI ii) + 1)) (L' := [(4, .int ((nI ii) + 1)), (5, .int (kinds2 ii)), (0, .ref mo), (1, .int (nI j)), (2, .int (nI jr)), (3, .int (nI len))]) K0 5 dX5_read_149 rfl (by first | rfl | decide) (by decide) rfl ?_
                          refine X_goto K0 94 dX5_read_152 (by decide) ?_
                          refine X.sub [2, 3, 4, 5, 0] (L' := [(0, .ref mo), (1, .int (nI j)), (2, .int (nI jr)), (3, .int (nI len)), (4, .int ((nI ii) + 1))]) rfl ?_
                          exact X_eq rfl (by rw [nI_succ] <;> rfl) rfl (ih (ii + 1) (by omega) (upd kinds2 ii (f ii)) (upd elders2 ii (-9)) false (by rw [hk2]; rfl) (by rw [he2]; rfl) (hKI2.step hTM (by omega) hkd) (fun q => by cases q) (lt_s hno (by rw [rkD, ← hk2, ← he2]; exact hkd)))
                        · exact absurd (hKI2.ge0 (by omega)) h137
              exact LOOP n 0 (by omega) kinds elders hwb rfl rfl hKI hWY (fun t h => absurd h (Nat.not_lt_zero t))
            · exact absurd h80 (nI_n9 (by omega))
        · refine X_aload_n K0 0 dX5_read_58 rfl rfl ?_
          refine X_bipush (v := (-12)) K0 dX5_read_59 (by decide) ?_
          refine X_put (w' := (c0 :: c1 :: c2 :: c3 :: c4 :: c5 :: c6 :: c7 :: c8 :: c9 :: c10 :: c11 :: (mo, oModel 0 (-12) tr (nI R) (nI C) (bI op) mki mel mto mio mwy (bI hwb) mme mhs mso msr mrs mce mcp) :: (mki, aI g 40 kinds) :: (mel, aI g 40 elders) :: (mto, aI g 25 tof) :: (mio, aZ g 40 iof) :: (mwy, aI g 4096 wyf) :: (mme, aZ g 36 mef) :: (mhs, aZ g 3 hsf) :: (mso, aI g 3 sof) :: (msr, aI g 3 srf) :: (mrs, aI g 12 rsf) :: (mce, aI g 480 cef) :: (mcp, aI g 40 cpf) :: rest)) K0 12 rfl rfl hin5 tyX5 tyX5_ok nmX5 1 (by decide) fl_RX5_175 rfl (tyX5_ok 1 (by decide)) rfl rfl (Nat.le_of_ble_eq_true rfl) dX5_read_61 rfl ?_
          refine X_iconst (v := 0) K0 dX5_read_64 (by decide) ?_
          exact hr _ _ _ _ (Or.inr ⟨j, hj, rfl, Or.inl (by rw [hab, rf_hr (hrn e5 h55)]; exact ⟨by decide, rfl, rfl⟩)⟩) dX5_read_65
      · exact absurd h31 (by decide)
  · refine X_aload_n K0 0 dX5_read_19 rfl rfl ?_
    refine X_iconst (v := (-1)) K0 dX5_read_20 (by decide) ?_
    refine X_callV (As := [.int (-1)]) (rest := []) K0 12 (m_no g c0 c1 c2 c3 c4 c5 c6 c7 c8 c9 c10 c11 mo mki mel mto mio mwy mme mhs mso msr mrs mce mcp 0 0 tr R C op hwb kinds elders tof iof wyf mef hsf sof srf rsf cef cpf rest (-1)) mi_X5_no rfl rfl rfl ml_RX5_178 rfl (Nat.le_of_ble_eq_true rfl) (by decide) ⟨Nat.le_of_ble_eq_true rfl, Nat.le_of_ble_eq_true rfl⟩ rfl rfl dX5_read_21 ?_
    intro v w' hr'; obtain ⟨rfl, rfl⟩ := hr'
    show X φ 0 0 (c0 :: c1 :: c2 :: c3 :: c4 :: c5 :: c6 :: c7 :: c8 :: c9 :: c10 :: c11 :: (mo, oModel 0 (-1) tr (nI R) (nI C) (bI op) mki mel mto mio mwy (bI hwb) mme mhs mso msr mrs mce mcp) :: (mki, aI g 40 kinds) :: (mel, aI g 40 elders) :: (mto, aI g 25 tof) :: (mio, aZ g 40 iof) :: (mwy, aI g 4096 wyf) :: (mme, aZ g 36 mef) :: (mhs, aZ g 3 hsf) :: (mso, aI g 3 sof) :: (msr, aI g 3 srf) :: (mrs, aI g 12 rsf) :: (mce, aI g 480 cef) :: (mcp, aI g 40 cpf) :: rest) [(0, .ref mo), (1, .int x), (2, .int r)] 24 [.int (-1)]
    exact hr _ _ _ _ (Or.inl ⟨bI_0.mp h16, rfl, rfl⟩) dX5_read_24

set_option maxRecDepth 20000 in
set_option maxHeartbeats 400000 in
theorem m_init (g : Gx) (c0 c1 c2 c3 c4 c5 c6 c7 c8 c9 c10 c11 : Nat × va_E) (mo : Nat) : Con g yX5_init cX5_init 1 none 1 22 12 4818 [.ref mo] (c0 :: c1 :: c2 :: c3 :: c4 :: c5 :: c6 :: c7 :: c8 :: c9 :: c10 :: c11 :: (mo, .inr (5, [.int 0, .int 0, .long 0, .int 0, .int 0, .int 0, .null, .null, .null, .null, .null, .int 0, .null, .null, .null, .null, .null, .null, .null])) :: []) (fun v w' => v = none ∧ ∃ mki mel mto mio mwy mme mhs mso msr mrs mce mcp : Nat, (c0 :: c1 :: c2 :: c3 :: c4 :: c5 :: c6 :: c7 :: c8 :: c9 :: c10 :: c11 :: (mo, oModel 0 0 0 (nI 2) (nI 2) (bI false) mki mel mto mio mwy (bI false) mme mhs mso msr mrs mce mcp) :: (mki, aI g 40 (fiF (fun _ => 0) 1 40)) :: (mel, aI g 40 (fiF (fun _ => 0) (-9) 40)) :: (mto, aI g 25 (fun _ => 0)) :: (mio, aZ g 40 (fun _ => 0)) :: (mwy, aI g 4096 (fun _ => 0)) :: (mme, aZ g 36 (fun _ => 0)) :: (mhs, aZ g 3 (fun _ => 0)) :: (mso, aI g 3 (fun _ => 0)) :: (msr, aI g 3 (fun _ => 0)) :: (mrs, aI g 12 (fun _ => 0)) :: (mce, aI g 480 (fun _ => 0)) :: (mcp, aI g 40 (fun _ => 0)) :: []) = w') := by
  refine Con.ofV (by decide +kernel) (Nat.le_of_ble_eq_true rfl) (fun φ K0 hr => ?_)
  show X φ 0 0 (c0 :: c1 :: c2 :: c3 :: c4 :: c5 :: c6 :: c7 :: c8 :: c9 :: c10 :: c11 :: (mo, .inr (5, [.int 0, .int 0, .long 0, .int 0, .int 0, .int 0, .null, .null, .null, .null, .null, .int 0, .null, .null, .null, .null, .null, .null, .null])) :: []) [(0, .ref mo)] 0 []
  refine X_aload_n K0 0 dX5_init_0 rfl rfl ?_
  refine X_objInit K0 ml_RX5_1 (by decide) (Nat.le_of_ble_eq_true rfl) im_objectInit co_objectInit dX5_init_1 ?_
  refine X_aload_n K0 0 dX5_init_4 rfl rfl ?_
  refine X_iconst (v := 2) K0 dX5_init_5 (by decide) ?_
  refine X_put (w' := (c0 :: c1 :: c2 :: c3 :: c4 :: c5 :: c6 :: c7 :: c8 :: c9 :: c10 :: c11 :: (mo, .inr (5, [.int 0, .int 0, .long 0, .int 2, .int 0, .int 0, .null, .null, .null, .null, .null, .int 0, .null, .null, .null, .null, .null, .null, .null])) :: [])) K0 12 rfl rfl hin5 tyX5 tyX5_ok nmX5 3 (by decide) fl_RX5_7 rfl (tyX5_ok 3 (by decide)) rfl rfl (Nat.le_of_ble_eq_true rfl) dX5_init_6 rfl ?_
  refine X_aload_n K0 0 dX5_init_9 rfl rfl ?_
  refine X_iconst (v := 2) K0 dX5_init_10 (by decide) ?_
  refine X_put (w' := (c0 :: c1 :: c2 :: c3 :: c4 :: c5 :: c6 :: c7 :: c8 :: c9 :: c10 :: c11 :: (mo, .inr (5, [.int 0, .int 0, .long 0, .int 2, .int 2, .int 0, .null, .null, .null, .null, .null, .int 0, .null, .null, .null, .null, .null, .null, .null])) :: [])) K0 12 rfl rfl hin5 tyX5 tyX5_ok nmX5 4 (by decide) fl_RX5_13 rfl (tyX5_ok 4 (by decide)) rfl rfl (Nat.le_of_ble_eq_true rfl) dX5_init_11 rfl ?_
  refine X_aload_n K0 0 dX5_init_14 rfl rfl ?_
  refine X_bipush (v := 40) K0 dX5_init_15 (by decide) ?_
  refine X_newa (N' := 40) (a0 := (40, .inl (fun _ => 0))) K0 0 ac_int rfl rfl trivial (fun _ => rfl) (by decide) (by decide) (by decide) (by omega) (by omega) rfl rfl dX5_init_17 (fun mki => ?_)
  show X φ 1 40 (c0 :: c1 :: c2 :: c3 :: c4 :: c5 :: c6 :: c7 :: c8 :: c9 :: c10 :: c11 :: (mo, .inr (5, [.int 0, .int 0, .long 0, .int 2, .int 2, .int 0, .null, .null, .null, .null, .null, .int 0, .null, .null, .null, .null, .null, .null, .null])) :: (mki, aI g 40 (fun _ => 0)) :: []) [(0, .ref mo)] 19 [.ref mki, .ref mo]
  refine X_putF (w' := (c0 :: c1 :: c2 :: c3 :: c4 :: c5 :: c6 :: c7 :: c8 :: c9 :: c10 :: c11 :: (mo, .inr (5, [.int 0, .int 0, .long 0, .int 2, .int 2, .int 0, .ref mki, .null, .null, .null, .null, .int 0, .null, .null, .null, .null, .null, .null, .null])) :: (mki, aI g 40 (fun _ => 0)) :: [])) K0 12 rfl rfl hin5 tyX5 tyX5_ok nmX5 6 (by decide) fl_RX5_16 rfl rfl rfl (tyX5_ok 6 (by decide)) rfl rfl (Nat.le_of_ble_eq_true rfl) dX5_init_19 rfl ?_
  refine X_aload_n K0 0 dX5_init_22 rfl rfl ?_
  refine X_bipush (v := 40) K0 dX5_init_23 (by decide) ?_
  refine X_newa (N' := 40) (a0 := (40, .inl (fun _ => 0))) K0 0 ac_int rfl rfl trivial (fun _ => rfl) (by decide) (by decide) (by decide) (by omega) (by omega) rfl rfl dX5_init_25 (fun mel => ?_)
  show X φ 2 80 (c0 :: c1 :: c2 :: c3 :: c4 :: c5 :: c6 :: c7 :: c8 :: c9 :: c10 :: c11 :: (mo, .inr (5, [.int 0, .int 0, .long 0, .int 2, .int 2, .int 0, .ref mki, .null, .null, .null, .null, .int 0, .null, .null, .null, .null, .null, .null, .null])) :: (mki, aI g 40 (fun _ => 0)) :: (mel, aI g 40 (fun _ => 0)) :: []) [(0, .ref mo)] 27 [.ref mel, .ref mo]
  refine X_putF (w' := (c0 :: c1 :: c2 :: c3 :: c4 :: c5 :: c6 :: c7 :: c8 :: c9 :: c10 :: c11 :: (mo, .inr (5, [.int 0, .int 0, .long 0, .int 2, .int 2, .int 0, .ref mki, .ref mel, .null, .null, .null, .int 0, .null, .null, .null, .null, .null, .null, .null])) :: (mki, aI g 40 (fun _ => 0)) :: (mel, aI g 40 (fun _ => 0)) :: [])) K0 12 rfl rfl hin5 tyX5 tyX5_ok nmX5 7 (by decide) fl_RX5_20 rfl rfl rfl (tyX5_ok 7 (by decide)) rfl rfl (Nat.le_of_ble_eq_true rfl) dX5_init_27 rfl ?_
  refine X_aload_n K0 0 dX5_init_30 rfl rfl ?_
  refine X_bipush (v := 25) K0 dX5_init_31 (by decide) ?_
  refine X_newa (N' := 25) (a0 := (25, .inl (fun _ => 0))) K0 0 ac_int rfl rfl trivial (fun _ => rfl) (by decide) (by decide) (by decide) (by omega) (by omega) rfl rfl dX5_init_33 (fun mto => ?_)
  show X φ 3 105 (c0 :: c1 :: c2 :: c3 :: c4 :: c5 :: c6 :: c7 :: c8 :: c9 :: c10 :: c11 :: (mo, .inr (5, [.int 0, .int 0, .long 0, .int 2, .int 2, .int 0, .ref mki, .ref mel, .null, .null, .null, .int 0, .null, .null, .null, .null, .null, .null, .null])) :: (mki, aI g 40 (fun _ => 0)) :: (mel, aI g 40 (fun _ => 0)) :: (mto, aI g 25 (fun _ => 0)) :: []) [(0, .ref mo)] 35 [.ref mto, .ref mo]
  refine X_putF (w' := (c0 :: c1 :: c2 :: c3 :: c4 :: c5 :: c6 :: c7 :: c8 :: c9 :: c10 :: c11 :: (mo, .inr (5, [.int 0, .int 0, .long 0, .int 2, .int 2, .int 0, .ref mki, .ref mel, .ref mto, .null, .null, .int 0, .null, .null, .null, .null, .null, .null, .null])) :: (mki, aI g 40 (fun _ => 0)) :: (mel, aI g 40 (fun _ => 0)) :: (mto, aI g 25 (fun _ => 0)) :: [])) K0 12 rfl rfl hin5 tyX5 tyX5_ok nmX5 8 (by decide) fl_RX5_23 rfl rfl rfl (tyX5_ok 8 (by decide)) rfl rfl (Nat.le_of_ble_eq_true rfl) dX5_init_35 rfl ?_
  refine X_aload_n K0 0 dX5_init_38 rfl rfl ?_
  refine X_bipush (v := 40) K0 dX5_init_39 (by decide) ?_
  refine X_newa (N' := 40) (a0 := (40, .inl (fun _ => 0))) K0 2 ac_boolean rfl rfl trivial (fun _ => rfl) (by decide) (by decide) (by decide) (by omega) (by omega) rfl rfl dX5_init_41 (fun mio => ?_)
  show X φ 4 145 (c0 :: c1 :: c2 :: c3 :: c4 :: c5 :: c6 :: c7 :: c8 :: c9 :: c10 :: c11 :: (mo, .inr (5, [.int 0, .int 0, .long 0, .int 2, .int 2, .int 0, .ref mki, .ref mel, .ref mto, .null, .null, .int 0, .null, .null, .null, .null, .null, .null, .null])) :: (mki, aI g 40 (fun _ => 0)) :: (mel, aI g 40 (fun _ => 0)) :: (mto, aI g 25 (fun _ => 0)) :: (mio, aZ g 40 (fun _ => 0)) :: []) [(0, .ref mo)] 43 [.ref mio, .ref mo]
  refine X_putF (w' := (c0 :: c1 :: c2 :: c3 :: c4 :: c5 :: c6 :: c7 :: c8 :: c9 :: c10 :: c11 :: (mo, .inr (5, [.int 0, .int 0, .long 0, .int 2, .int 2, .int 0, .ref mki, .ref mel, .ref mto, .ref mio, .null, .int 0, .null, .null, .null, .null, .null, .null, .null])) :: (mki, aI g 40 (fun _ => 0)) :: (mel, aI g 40 (fun _ => 0)) :: (mto, aI g 25 (fun _ => 0)) :: (mio, aZ g 40 (fun _ => 0)) :: [])) K0 12 rfl rfl hin5 tyX5 tyX5_ok nmX5 9 (by decide) fl_RX5_26 rfl rfl rfl (tyX5_ok 9 (by decide)) rfl rfl (Nat.le_of_ble_eq_true rfl) dX5_init_43 rfl ?_
  refine X_aload_n K0 0 dX5_init_46 rfl rfl ?_
  refine X_sipush (v := 4096) K0 dX5_init_47 (by decide) ?_
  refine X_newa (N' := 4096) (a0 := (4096, .inl (fun _ => 0))) K0 0 ac_int rfl rfl trivial (fun _ => rfl) (by decide) (by decide) (by decide) (by omega) (by omega) rfl rfl dX5_init_50 (fun mwy => ?_)
  show X φ 5 4241 (c0 :: c1 :: c2 :: c3 :: c4 :: c5 :: c6 :: c7 :: c8 :: c9 :: c10 :: c11 :: (mo, .inr (5, [.int 0, .int 0, .long 0, .int 2, .int 2, .int 0, .ref mki, .ref mel, .ref mto, .ref mio, .null, .int 0, .null, .null, .null, .null, .null, .null, .null])) :: (mki, aI g 40 (fun _ => 0)) :: (mel, aI g 40 (fun _ => 0)) :: (mto, aI g 25 (fun _ => 0)) :: (mio, aZ g 40 (fun _ => 0)) :: (mwy, aI g 4096 (fun _ => 0)) :: []) [(0, .ref mo)] 52 [.ref mwy, .ref mo]
  refine X_putF (w' := (c0 :: c1 :: c2 :: c3 :: c4 :: c5 :: c6 :: c7 :: c8 :: c9 :: c10 :: c11 :: (mo, .inr (5, [.int 0, .int 0, .long 0, .int 2, .int 2, .int 0, .ref mki, .ref mel, .ref mto, .ref mio, .ref mwy, .int 0, .null, .null, .null, .null, .null, .null, .null])) :: (mki, aI g 40 (fun _ => 0)) :: (mel, aI g 40 (fun _ => 0)) :: (mto, aI g 25 (fun _ => 0)) :: (mio, aZ g 40 (fun _ => 0)) :: (mwy, aI g 4096 (fun _ => 0)) :: [])) K0 12 rfl rfl hin5 tyX5 tyX5_ok nmX5 10 (by decide) fl_RX5_30 rfl rfl rfl (tyX5_ok 10 (by decide)) rfl rfl (Nat.le_of_ble_eq_true rfl) dX5_init_52 rfl ?_
  refine X_aload_n K0 0 dX5_init_55 rfl rfl ?_
  refine X_bipush (v := 36) K0 dX5_init_56 (by decide) ?_
  refine X_newa (N' := 36) (a0 := (36, .inl (fun _ => 0))) K0 2 ac_boolean rfl rfl trivial (fun _ => rfl) (by decide) (by decide) (by decide) (by omega) (by omega) rfl rfl dX5_init_58 (fun mme => ?_)
  show X φ 6 4277 (c0 :: c1 :: c2 :: c3 :: c4 :: c5 :: c6 :: c7 :: c8 :: c9 :: c10 :: c11 :: (mo, .inr (5, [.int 0, .int 0, .long 0, .int 2, .int 2, .int 0, .ref mki, .ref mel, .ref mto, .ref mio, .ref mwy, .int 0, .null, .null, .null, .null, .null, .null, .null])) :: (mki, aI g 40 (fun _ => 0)) :: (mel, aI g 40 (fun _ => 0)) :: (mto, aI g 25 (fun _ => 0)) :: (mio, aZ g 40 (fun _ => 0)) :: (mwy, aI g 4096 (fun _ => 0)) :: (mme, aZ g 36 (fun _ => 0)) :: []) [(0, .ref mo)] 60 [.ref mme, .ref mo]
  refine X_putF (w' := (c0 :: c1 :: c2 :: c3 :: c4 :: c5 :: c6 :: c7 :: c8 :: c9 :: c10 :: c11 :: (mo, .inr (5, [.int 0, .int 0, .long 0, .int 2, .int 2, .int 0, .ref mki, .ref mel, .ref mto, .ref mio, .ref mwy, .int 0, .ref mme, .null, .null, .null, .null, .null, .null])) :: (mki, aI g 40 (fun _ => 0)) :: (mel, aI g 40 (fun _ => 0)) :: (mto, aI g 25 (fun _ => 0)) :: (mio, aZ g 40 (fun _ => 0)) :: (mwy, aI g 4096 (fun _ => 0)) :: (mme, aZ g 36 (fun _ => 0)) :: [])) K0 12 rfl rfl hin5 tyX5 tyX5_ok nmX5 12 (by decide) fl_RX5_33 rfl rfl rfl (tyX5_ok 12 (by decide)) rfl rfl (Nat.le_of_ble_eq_true rfl) dX5_init_60 rfl ?_
  refine X_aload_n K0 0 dX5_init_63 rfl rfl ?_
  refine X_iconst (v := 3) K0 dX5_init_64 (by decide) ?_
  refine X_newa (N' := 3) (a0 := (3, .inl (fun _ => 0))) K0 2 ac_boolean rfl rfl trivial (fun _ => rfl) (by decide) (by decide) (by decide) (by omega) (by omega) rfl rfl dX5_init_65 (fun mhs => ?_)
  show X φ 7 4280 (c0 :: c1 :: c2 :: c3 :: c4 :: c5 :: c6 :: c7 :: c8 :: c9 :: c10 :: c11 :: (mo, .inr (5, [.int 0, .int 0, .long 0, .int 2, .int 2, .int 0, .ref mki, .ref mel, .ref mto, .ref mio, .ref mwy, .int 0, .ref mme, .null, .null, .null, .null, .null, .null])) :: (mki, aI g 40 (fun _ => 0)) :: (mel, aI g 40 (fun _ => 0)) :: (mto, aI g 25 (fun _ => 0)) :: (mio, aZ g 40 (fun _ => 0)) :: (mwy, aI g 4096 (fun _ => 0)) :: (mme, aZ g 36 (fun _ => 0)) :: (mhs, aZ g 3 (fun _ => 0)) :: []) [(0, .ref mo)] 67 [.ref mhs, .ref mo]
  refine X_putF (w' := (c0 :: c1 :: c2 :: c3 :: c4 :: c5 :: c6 :: c7 :: c8 :: c9 :: c10 :: c11 :: (mo, .inr (5, [.int 0, .int 0, .long 0, .int 2, .int 2, .int 0, .ref mki, .ref mel, .ref mto, .ref mio, .ref mwy, .int 0, .ref mme, .ref mhs, .null, .null, .null, .null, .null])) :: (mki, aI g 40 (fun _ => 0)) :: (mel, aI g 40 (fun _ => 0)) :: (mto, aI g 25 (fun _ => 0)) :: (mio, aZ g 40 (fun _ => 0)) :: (mwy, aI g 4096 (fun _ => 0)) :: (mme, aZ g 36 (fun _ => 0)) :: (mhs, aZ g 3 (fun _ => 0)) :: [])) K0 12 rfl rfl hin5 tyX5 tyX5_ok nmX5 13 (by decide) fl_RX5_36 rfl rfl rfl (tyX5_ok 13 (by decide)) rfl rfl (Nat.le_of_ble_eq_true rfl) dX5_init_67 rfl ?_
  refine X_aload_n K0 0 dX5_init_70 rfl rfl ?_
  refine X_iconst (v := 3) K0 dX5_init_71 (by decide) ?_
  refine X_newa (N' := 3) (a0 := (3, .inl (fun _ => 0))) K0 0 ac_int rfl rfl trivial (fun _ => rfl) (by decide) (by decide) (by decide) (by omega) (by omega) rfl rfl dX5_init_72 (fun mso => ?_)
  show X φ 8 4283 (c0 :: c1 :: c2 :: c3 :: c4 :: c5 :: c6 :: c7 :: c8 :: c9 :: c10 :: c11 :: (mo, .inr (5, [.int 0, .int 0, .long 0, .int 2, .int 2, .int 0, .ref mki, .ref mel, .ref mto, .ref mio, .ref mwy, .int 0, .ref mme, .ref mhs, .null, .null, .null, .null, .null])) :: (mki, aI g 40 (fun _ => 0)) :: (mel, aI g 40 (fun _ => 0)) :: (mto, aI g 25 (fun _ => 0)) :: (mio, aZ g 40 (fun _ => 0)) :: (mwy, aI g 4096 (fun _ => 0)) :: (mme, aZ g 36 (fun _ => 0)) :: (mhs, aZ g 3 (fun _ => 0)) :: (mso, aI g 3 (fun _ => 0)) :: []) [(0, .ref mo)] 74 [.ref mso, .ref mo]
  refine X_putF (w' := (c0 :: c1 :: c2 :: c3 :: c4 :: c5 :: c6 :: c7 :: c8 :: c9 :: c10 :: c11 :: (mo, .inr (5, [.int 0, .int 0, .long 0, .int 2, .int 2, .int 0, .ref mki, .ref mel, .ref mto, .ref mio, .ref mwy, .int 0, .ref mme, .ref mhs, .ref mso, .null, .null, .null, .null])) :: (mki, aI g 40 (fun _ => 0)) :: (mel, aI g 40 (fun _ => 0)) :: (mto, aI g 25 (fun _ => 0)) :: (mio, aZ g 40 (fun _ => 0)) :: (mwy, aI g 4096 (fun _ => 0)) :: (mme, aZ g 36 (fun _ => 0)) :: (mhs, aZ g 3 (fun _ => 0)) :: (mso, aI g 3 (fun _ => 0)) :: [])) K0 12 rfl rfl hin5 tyX5 tyX5_ok nmX5 14 (by decide) fl_RX5_39 rfl rfl rfl (tyX5_ok 14 (by decide)) rfl rfl (Nat.le_of_ble_eq_true rfl) dX5_init_74 rfl ?_
  refine X_aload_n K0 0 dX5_init_77 rfl rfl ?_
  refine X_iconst (v := 3) K0 dX5_init_78 (by decide) ?_
  refine X_newa (N' := 3) (a0 := (3, .inl (fun _ => 0))) K0 0 ac_int rfl rfl trivial (fun _ => rfl) (by decide) (by decide) (by decide) (by omega) (by omega) rfl rfl dX5_init_79 (fun msr => ?_)
  show X φ 9 4286 (c0 :: c1 :: c2 :: c3 :: c4 :: c5 :: c6 :: c7 :: c8 :: c9 :: c10 :: c11 :: (mo, .inr (5, [.int 0, .int 0, .long 0, .int 2, .int 2, .int 0, .ref mki, .ref mel, .ref mto, .ref mio, .ref mwy, .int 0, .ref mme, .ref mhs, .ref mso, .null, .null, .null, .null])) :: (mki, aI g 40 (fun _ => 0)) :: (mel, aI g 40 (fun _ => 0)) :: (mto, aI g 25 (fun _ => 0)) :: (mio, aZ g 40 (fun _ => 0)) :: (mwy, aI g 4096 (fun _ => 0)) :: (mme, aZ g 36 (fun _ => 0)) :: (mhs, aZ g 3 (fun _ => 0)) :: (mso, aI g 3 (fun _ => 0)) :: (msr, aI g 3 (fun _ => 0)) :: []) [(0, .ref mo)] 81 [.ref msr, .ref mo]
  refine X_putF (w' := (c0 :: c1 :: c2 :: c3 :: c4 :: c5 :: c6 :: c7 :: c8 :: c9 :: c10 :: c11 :: (mo, .inr (5, [.int 0, .int 0, .long 0, .int 2, .int 2, .int 0, .ref mki, .ref mel, .ref mto, .ref mio, .ref mwy, .int 0, .ref mme, .ref mhs, .ref mso, .ref msr, .null, .null, .null])) :: (mki, aI g 40 (fun _ => 0)) :: (mel, aI g 40 (fun _ => 0)) :: (mto, aI g 25 (fun _ => 0)) :: (mio, aZ g 40 (fun _ => 0)) :: (mwy, aI g 4096 (fun _ => 0)) :: (mme, aZ g 36 (fun _ => 0)) :: (mhs, aZ g 3 (fun _ => 0)) :: (mso, aI g 3 (fun _ => 0)) :: (msr, aI g 3 (fun _ => 0)) :: [])) K0 12 rfl rfl hin5 tyX5 tyX5_ok nmX5 15 (by decide) fl_RX5_42 rfl rfl rfl (tyX5_ok 15 (by decide)) rfl rfl (Nat.le_of_ble_eq_true rfl) dX5_init_81 rfl ?_
  refine X_aload_n K0 0 dX5_init_84 rfl rfl ?_
  refine X_bipush (v := 12) K0 dX5_init_85 (by decide) ?_
  refine X_newa (N' := 12) (a0 := (12, .inl (fun _ => 0))) K0 0 ac_int rfl rfl trivial (fun _ => rfl) (by decide) (by decide) (by decide) (by omega) (by omega) rfl rfl dX5_init_87 (fun mrs => ?_)
  show X φ 10 4298 (c0 :: c1 :: c2 :: c3 :: c4 :: c5 :: c6 :: c7 :: c8 :: c9 :: c10 :: c11 :: (mo, .inr (5, [.int 0, .int 0, .long 0, .int 2, .int 2, .int 0, .ref mki, .ref mel, .ref mto, .ref mio, .ref mwy, .int 0, .ref mme, .ref mhs, .ref mso, .ref msr, .null, .null, .null])) :: (mki, aI g 40 (fun _ => 0)) :: (mel, aI g 40 (fun _ => 0)) :: (mto, aI g 25 (fun _ => 0)) :: (mio, aZ g 40 (fun _ => 0)) :: (mwy, aI g 4096 (fun _ => 0)) :: (mme, aZ g 36 (fun _ => 0)) :: (mhs, aZ g 3 (fun _ => 0)) :: (mso, aI g 3 (fun _ => 0)) :: (msr, aI g 3 (fun _ => 0)) :: (mrs, aI g 12 (fun _ => 0)) :: []) [(0, .ref mo)] 89 [.ref mrs, .ref mo]
  refine X_putF (w' := (c0 :: c1 :: c2 :: c3 :: c4 :: c5 :: c6 :: c7 :: c8 :: c9 :: c10 :: c11 :: (mo, .inr (5, [.int 0, .int 0, .long 0, .int 2, .int 2, .int 0, .ref mki, .ref mel, .ref mto, .ref mio, .ref mwy, .int 0, .ref mme, .ref mhs, .ref mso, .ref msr, .ref mrs, .null, .null])) :: (mki, aI g 40 (fun _ => 0)) :: (mel, aI g 40 (fun _ => 0)) :: (mto, aI g 25 (fun _ => 0)) :: (mio, aZ g 40 (fun _ => 0)) :: (mwy, aI g 4096 (fun _ => 0)) :: (mme, aZ g 36 (fun _ => 0)) :: (mhs, aZ g 3 (fun _ => 0)) :: (mso, aI g 3 (fun _ => 0)) :: (msr, aI g 3 (fun _ => 0)) :: (mrs, aI g 12 (fun _ => 0)) :: [])) K0 12 rfl rfl hin5 tyX5 tyX5_ok nmX5 16 (by decide) fl_RX5_45 rfl rfl rfl (tyX5_ok 16 (by decide)) rfl rfl (Nat.le_of_ble_eq_true rfl) dX5_init_89 rfl ?_
  refine X_aload_n K0 0 dX5_init_92 rfl rfl ?_
  refine X_sipush (v := 480) K0 dX5_init_93 (by decide) ?_
  refine X_newa (N' := 480) (a0 := (480, .inl (fun _ => 0))) K0 0 ac_int rfl rfl trivial (fun _ => rfl) (by decide) (by decide) (by decide) (by omega) (by omega) rfl rfl dX5_init_96 (fun mce => ?_)
  show X φ 11 4778 (c0 :: c1 :: c2 :: c3 :: c4 :: c5 :: c6 :: c7 :: c8 :: c9 :: c10 :: c11 :: (mo, .inr (5, [.int 0, .int 0, .long 0, .int 2, .int 2, .int 0, .ref mki, .ref mel, .ref mto, .ref mio, .ref mwy, .int 0, .ref mme, .ref mhs, .ref mso, .ref msr, .ref mrs, .null, .null])) :: (mki, aI g 40 (fun _ => 0)) :: (mel, aI g 40 (fun _ => 0)) :: (mto, aI g 25 (fun _ => 0)) :: (mio, aZ g 40 (fun _ => 0)) :: (mwy, aI g 4096 (fun _ => 0)) :: (mme, aZ g 36 (fun _ => 0)) :: (mhs, aZ g 3 (fun _ => 0)) :: (mso, aI g 3 (fun _ => 0)) :: (msr, aI g 3 (fun _ => 0)) :: (mrs, aI g 12 (fun _ => 0)) :: (mce, aI g 480 (fun _ => 0)) :: []) [(0, .ref mo)] 98 [.ref mce, .ref mo]
  refine X_putF (w' := (c0 :: c1 :: c2 :: c3 :: c4 :: c5 :: c6 :: c7 :: c8 :: c9 :: c10 :: c11 :: (mo, .inr (5, [.int 0, .int 0, .long 0, .int 2, .int 2, .int 0, .ref mki, .ref mel, .ref mto, .ref mio, .ref mwy, .int 0, .ref mme, .ref mhs, .ref mso, .ref msr, .ref mrs, .ref mce, .null])) :: (mki, aI g 40 (fun _ => 0)) :: (mel, aI g 40 (fun _ => 0)) :: (mto, aI g 25 (fun _ => 0)) :: (mio, aZ g 40 (fun _ => 0)) :: (mwy, aI g 4096 (fun _ => 0)) :: (mme, aZ g 36 (fun _ => 0)) :: (mhs, aZ g 3 (fun _ => 0)) :: (mso, aI g 3 (fun _ => 0)) :: (msr, aI g 3 (fun _ => 0)) :: (mrs, aI g 12 (fun _ => 0)) :: (mce, aI g 480 (fun _ => 0)) :: [])) K0 12 rfl rfl hin5 tyX5 tyX5_ok nmX5 17 (by decide) fl_RX5_48 rfl rfl rfl (tyX5_ok 17 (by decide)) rfl rfl (Nat.le_of_ble_eq_true rfl) dX5_init_98 rfl ?_
  refine X_aload_n K0 0 dX5_init_101 rfl rfl ?_
  refine X_bipush (v := 40) K0 dX5_init_102 (by decide) ?_
  refine X_newa (N' := 40) (a0 := (40, .inl (fun _ => 0))) K0 0 ac_int rfl rfl trivial (fun _ => rfl) (by decide) (by decide) (by decide) (by omega) (by omega) rfl rfl dX5_init_104 (fun mcp => ?_)
  show X φ 12 4818 (c0 :: c1 :: c2 :: c3 :: c4 :: c5 :: c6 :: c7 :: c8 :: c9 :: c10 :: c11 :: (mo, .inr (5, [.int 0, .int 0, .long 0, .int 2, .int 2, .int 0, .ref mki, .ref mel, .ref mto, .ref mio, .ref mwy, .int 0, .ref mme, .ref mhs, .ref mso, .ref msr, .ref mrs, .ref mce, .null])) :: (mki, aI g 40 (fun _ => 0)) :: (mel, aI g 40 (fun _ => 0)) :: (mto, aI g 25 (fun _ => 0)) :: (mio, aZ g 40 (fun _ => 0)) :: (mwy, aI g 4096 (fun _ => 0)) :: (mme, aZ g 36 (fun _ => 0)) :: (mhs, aZ g 3 (fun _ => 0)) :: (mso, aI g 3 (fun _ => 0)) :: (msr, aI g 3 (fun _ => 0)) :: (mrs, aI g 12 (fun _ => 0)) :: (mce, aI g 480 (fun _ => 0)) :: (mcp, aI g 40 (fun _ => 0)) :: []) [(0, .ref mo)] 106 [.ref mcp, .ref mo]
  refine X_putF (w' := (c0 :: c1 :: c2 :: c3 :: c4 :: c5 :: c6 :: c7 :: c8 :: c9 :: c10 :: c11 :: (mo, oModel 0 0 0 2 2 0 mki mel mto mio mwy 0 mme mhs mso msr mrs mce mcp) :: (mki, aI g 40 (fun _ => 0)) :: (mel, aI g 40 (fun _ => 0)) :: (mto, aI g 25 (fun _ => 0)) :: (mio, aZ g 40 (fun _ => 0)) :: (mwy, aI g 4096 (fun _ => 0)) :: (mme, aZ g 36 (fun _ => 0)) :: (mhs, aZ g 3 (fun _ => 0)) :: (mso, aI g 3 (fun _ => 0)) :: (msr, aI g 3 (fun _ => 0)) :: (mrs, aI g 12 (fun _ => 0)) :: (mce, aI g 480 (fun _ => 0)) :: (mcp, aI g 40 (fun _ => 0)) :: [])) K0 12 rfl rfl hin5 tyX5 tyX5_ok nmX5 18 (by decide) fl_RX5_51 rfl rfl rfl (tyX5_ok 18 (by decide)) rfl rfl (Nat.le_of_ble_eq_true rfl) dX5_init_106 rfl ?_
  show X φ 12 4818 (c0 :: c1 :: c2 :: c3 :: c4 :: c5 :: c6 :: c7 :: c8 :: c9 :: c10 :: c11 :: (mo, oModel 0 0 0 (nI 2) (nI 2) (bI false) mki mel mto mio mwy (bI false) mme mhs mso msr mrs mce mcp) :: (mki, aI g 40 (fun _ => 0)) :: (mel, aI g 40 (fun _ => 0)) :: (mto, aI g 25 (fun _ => 0)) :: (mio, aZ g 40 (fun _ => 0)) :: (mwy, aI g 4096 (fun _ => 0)) :: (mme, aZ g 36 (fun _ => 0)) :: (mhs, aZ g 3 (fun _ => 0)) :: (mso, aI g 3 (fun _ => 0)) :: (msr, aI g 3 (fun _ => 0)) :: (mrs, aI g 12 (fun _ => 0)) :: (mce, aI g 480 (fun _ => 0)) :: (mcp, aI g 40 (fun _ => 0)) :: []) [(0, .ref mo)] 109 []
  refine X_aload_n K0 0 dX5_init_109 rfl rfl ?_
  refine X_iconst (v := 1) K0 dX5_init_110 (by decide) ?_
  refine X_callV (As := [.int 1]) (rest := []) K0 12 (m_all g c0 c1 c2 c3 c4 c5 c6 c7 c8 c9 c10 c11 mo mki mel mto mio mwy mme mhs mso msr mrs mce mcp 0 0 0 2 2 false false (fun _ => 0) (fun _ => 0) (fun _ => 0) (fun _ => 0) (fun _ => 0) (fun _ => 0) (fun _ => 0) (fun _ => 0) (fun _ => 0) (fun _ => 0) (fun _ => 0) (fun _ => 0) [] 1) mi_X5_all rfl rfl rfl ml_RX5_54 rfl (Nat.le_of_ble_eq_true rfl) (by decide) ⟨Nat.le_of_ble_eq_true rfl, Nat.le_of_ble_eq_true rfl⟩ rfl rfl dX5_init_111 ?_
  intro v w' hr'; obtain ⟨rfl, rfl⟩ := hr'
  show X φ 12 4818 (c0 :: c1 :: c2 :: c3 :: c4 :: c5 :: c6 :: c7 :: c8 :: c9 :: c10 :: c11 :: (mo, oModel 0 0 0 (nI 2) (nI 2) (bI false) mki mel mto mio mwy (bI false) mme mhs mso msr mrs mce mcp) :: (mki, aI g 40 (fiF (fun _ => 0) 1 40)) :: (mel, aI g 40 (fiF (fun _ => 0) (-9) 40)) :: (mto, aI g 25 (fun _ => 0)) :: (mio, aZ g 40 (fun _ => 0)) :: (mwy, aI g 4096 (fun _ => 0)) :: (mme, aZ g 36 (fun _ => 0)) :: (mhs, aZ g 3 (fun _ => 0)) :: (mso, aI g 3 (fun _ => 0)) :: (msr, aI g 3 (fun _ => 0)) :: (mrs, aI g 12 (fun _ => 0)) :: (mce, aI g 480 (fun _ => 0)) :: (mcp, aI g 40 (fun _ => 0)) :: []) [(0, .ref mo)] 114 []
  exact hr _ _ _ ⟨rfl, mki, mel, mto, mio, mwy, mme, mhs, mso, msr, mrs, mce, mcp, rfl⟩ dX5_init_114
