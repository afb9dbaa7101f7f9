set_option maxRecDepth 20000 in
set_option maxHeartbeats 400000 in
theorem m_copy (g : Gx) (c0 c1 c2 c3 c4 c5 c6 c7 c8 c9 c10 c11 : Nat × va_E) (mo mki mel mto mio mwy mme mhs mso msr mrs mce mcp : Nat) (tn stt : Int32) (tr : Int64) (R C : Nat) (op hwb : Bool) (kinds elders tof iof wyf mef hsf sof srf rsf cef cpf : Nat → Int32) (rest : va_W) (abs : Nat → SH) (hMS : MSh abs hsf sof srf rsf cef) (x r i o2 s j2 n : Int32) : Con g yX5_copy cX5_copy 11 (some .int) 1 22 0 0 [.ref mo, .int x, .int r, .int i, .int o2, .int s, .int j2, .int n] (c0 :: c1 :: c2 :: c3 :: c4 :: c5 :: c6 :: c7 :: c8 :: c9 :: c10 :: c11 :: (mo, oModel tn stt tr (nI R) (nI C) (bI op) mki mel mto mio mwy (bI hwb) mme mhs mso msr mrs mce mcp) :: (mki, aI g 40 kinds) :: (mel, aI g 40 elders) :: (mto, aI g 25 tof) :: (mio, aZ g 40 iof) :: (mwy, aI g 4096 wyf) :: (mme, aZ g 36 mef) :: (mhs, aZ g 3 hsf) :: (mso, aI g 3 sof) :: (msr, aI g 3 srf) :: (mrs, aI g 12 rsf) :: (mce, aI g 480 cef) :: (mcp, aI g 40 cpf) :: rest) (fun v' w' => (¬ (cpD abs x r i o2 s j2 n) = 0 ∧ v' = some (.int (cpD abs x r i o2 s j2 n)) ∧ (c0 :: c1 :: c2 :: c3 :: c4 :: c5 :: c6 :: c7 :: c8 :: c9 :: c10 :: c11 :: (mo, oModel 0 (cpD abs x r i o2 s j2 n) tr (nI R) (nI C) (bI op) mki mel mto mio mwy (bI hwb) mme mhs mso msr mrs mce mcp) :: (mki, aI g 40 kinds) :: (mel, aI g 40 elders) :: (mto, aI g 25 tof) :: (mio, aZ g 40 iof) :: (mwy, aI g 4096 wyf) :: (mme, aZ g 36 mef) :: (mhs, aZ g 3 hsf) :: (mso, aI g 3 sof) :: (msr, aI g 3 srf) :: (mrs, aI g 12 rsf) :: (mce, aI g 480 cef) :: (mcp, aI g 40 cpf) :: rest) = w') ∨ ((cpD abs x r i o2 s j2 n) = 0 ∧ v' = some (.int n) ∧ ∃ (a b jr js i' j' n' : Nat) (so : Int32) (n1 n2 : Nat) (rows1 rows2 : Nat → RW) (l1 l2 : Nat) (f1 f2 ce1 cp1 : Nat → Int32), a < 3 ∧ b < 3 ∧ x = nI a ∧ o2 = nI b ∧ abs a = some (so, n1, rows1) ∧ abs b = some (so, n2, rows2) ∧ jr < n1 ∧ js < n2 ∧ r = nI jr ∧ s = nI js ∧ rows1 jr = some (l1, f1) ∧ rows2 js = some (l2, f2) ∧ i = nI i' ∧ j2 = nI j' ∧ n = nI n' ∧ i' + n' ≤ l1 ∧ j' + n' ≤ l2 ∧ MSh (upA abs b (some (so, n2, upA rows2 js (some (l2, va_cpy f1 f2 i' j' n'))))) hsf sof srf rsf ce1 ∧ (c0 :: c1 :: c2 :: c3 :: c4 :: c5 :: c6 :: c7 :: c8 :: c9 :: c10 :: c11 :: (mo, oModel 0 0 tr (nI R) (nI C) (bI op) mki mel mto mio mwy (bI hwb) mme mhs mso msr mrs mce mcp) :: (mki, aI g 40 kinds) :: (mel, aI g 40 elders) :: (mto, aI g 25 tof) :: (mio, aZ g 40 iof) :: (mwy, aI g 4096 wyf) :: (mme, aZ g 36 mef) :: (mhs, aZ g 3 hsf) :: (mso, aI g 3 sof) :: (msr, aI g 3 srf) :: (mrs, aI g 12 rsf) :: (mce, aI g 480 ce1) :: (mcp, aI g 40 cp1) :: rest) = w')) := by
  refine Con.ofI (by decide +kernel) (Nat.le_of_ble_eq_true rfl) (fun φ K0 hr => ?_)
  show X φ 0 0 (c0 :: c1 :: c2 :: c3 :: c4 :: c5 :: c6 :: c7 :: c8 :: c9 :: c10 :: c11 :: (mo, oModel tn stt tr (nI R) (nI C) (bI op) mki mel mto mio mwy (bI hwb) mme mhs mso msr mrs mce mcp) :: (mki, aI g 40 kinds) :: (mel, aI g 40 elders) :: (mto, aI g 25 tof) :: (mio, aZ g 40 iof) :: (mwy, aI g 4096 wyf) :: (mme, aZ g 36 mef) :: (mhs, aZ g 3 hsf) :: (mso, aI g 3 sof) :: (msr, aI g 3 srf) :: (mrs, aI g 12 rsf) :: (mce, aI g 480 cef) :: (mcp, aI g 40 cpf) :: rest) [(0, .ref mo), (1, .int x), (2, .int r), (3, .int i), (4, .int o2), (5, .int s), (6, .int j2), (7, .int n)] 0 []
  refine X_aload_n K0 0 dX5_copy_0 rfl rfl ?_
  refine X_iconst (v := 0) K0 dX5_copy_1 (by decide) ?_
  refine X_put (w' := (c0 :: c1 :: c2 :: c3 :: c4 :: c5 :: c6 :: c7 :: c8 :: c9 :: c10 :: c11 :: (mo, oModel 0 stt tr (nI R) (nI C) (bI op) mki mel mto mio mwy (bI hwb) mme mhs mso msr mrs mce mcp) :: (mki, aI g 40 kinds) :: (mel, aI g 40 elders) :: (mto, aI g 25 tof) :: (mio, aZ g 40 iof) :: (mwy, aI g 4096 wyf) :: (mme, aZ g 36 mef) :: (mhs, aZ g 3 hsf) :: (mso, aI g 3 sof) :: (msr, aI g 3 srf) :: (mrs, aI g 12 rsf) :: (mce, aI g 480 cef) :: (mcp, aI g 40 cpf) :: rest)) K0 12 rfl rfl hin5 tyX5 tyX5_ok nmX5 0 (by decide) fl_RX5_58 rfl (tyX5_ok 0 (by decide)) rfl rfl (Nat.le_of_ble_eq_true rfl) dX5_copy_2 rfl ?_
  refine X_aload_n K0 0 dX5_copy_5 rfl rfl ?_
  refine X_iconst (v := 0) K0 dX5_copy_6 (by decide) ?_
  refine X_put (w' := (c0 :: c1 :: c2 :: c3 :: c4 :: c5 :: c6 :: c7 :: c8 :: c9 :: c10 :: c11 :: (mo, oModel 0 0 tr (nI R) (nI C) (bI op) mki mel mto mio mwy (bI hwb) mme mhs mso msr mrs mce mcp) :: (mki, aI g 40 kinds) :: (mel, aI g 40 elders) :: (mto, aI g 25 tof) :: (mio, aZ g 40 iof) :: (mwy, aI g 4096 wyf) :: (mme, aZ g 36 mef) :: (mhs, aZ g 3 hsf) :: (mso, aI g 3 sof) :: (msr, aI g 3 srf) :: (mrs, aI g 12 rsf) :: (mce, aI g 480 cef) :: (mcp, aI g 40 cpf) :: rest)) K0 12 rfl rfl hin5 tyX5 tyX5_ok nmX5 1 (by decide) fl_RX5_175 rfl (tyX5_ok 1 (by decide)) rfl rfl (Nat.le_of_ble_eq_true rfl) dX5_copy_7 rfl ?_
  refine X_iload_n K0 1 dX5_copy_10 rfl rfl ?_
  refine X_iconst (v := 0) K0 dX5_copy_11 (by decide) ?_
  refine X_iconst (v := 2) K0 dX5_copy_12 (by decide) ?_
  refine X_callS (As := [.int x, .int 0, .int 2]) (rest := []) K0 (c_in g (c0 :: c1 :: c2 :: c3 :: c4 :: c5 :: c6 :: c7 :: c8 :: c9 :: c10 :: c11 :: (mo, oModel 0 0 tr (nI R) (nI C) (bI op) mki mel mto mio mwy (bI hwb) mme mhs mso msr mrs mce mcp) :: (mki, aI g 40 kinds) :: (mel, aI g 40 elders) :: (mto, aI g 25 tof) :: (mio, aZ g 40 iof) :: (mwy, aI g 4096 wyf) :: (mme, aZ g 36 mef) :: (mhs, aZ g 3 hsf) :: (mso, aI g 3 sof) :: (msr, aI g 3 srf) :: (mrs, aI g 12 rsf) :: (mce, aI g 480 cef) :: (mcp, aI g 40 cpf) :: rest) x 0 2) ms_X5_in rfl ml_RX5_81 rfl (Nat.le_of_ble_eq_true rfl) (by decide) ⟨Nat.le_of_ble_eq_true rfl, Nat.le_of_ble_eq_true rfl⟩ rfl rfl dX5_copy_13 ?_
  intro v w' hr'; obtain ⟨rfl, rfl⟩ := hr'
  show X φ 0 0 (c0 :: c1 :: c2 :: c3 :: c4 :: c5 :: c6 :: c7 :: c8 :: c9 :: c10 :: c11 :: (mo, oModel 0 0 tr (nI R) (nI C) (bI op) mki mel mto mio mwy (bI hwb) mme mhs mso msr mrs mce mcp) :: (mki, aI g 40 kinds) :: (mel, aI g 40 elders) :: (mto, aI g 25 tof) :: (mio, aZ g 40 iof) :: (mwy, aI g 4096 wyf) :: (mme, aZ g 36 mef) :: (mhs, aZ g 3 hsf) :: (mso, aI g 3 sof) :: (msr, aI g 3 srf) :: (mrs, aI g 12 rsf) :: (mce, aI g 480 cef) :: (mcp, aI g 40 cpf) :: rest) [(0, .ref mo), (1, .int x), (2, .int r), (3, .int i), (4, .int o2), (5, .int s), (6, .int j2), (7, .int n)] 16 [.int (bI (wiB x 0 2))]
  refine X_if_eq K0 29 dX5_copy_16 (by decide) (fun h16 => ?_) (fun h16 => ?_)
  · refine X_aload_n K0 0 dX5_copy_29 rfl rfl ?_
    refine X_iconst (v := (-1)) K0 dX5_copy_30 (by decide) ?_
    refine X_callV (As := [.int (-1)]) (rest := []) K0 12 (m_no g c0 c1 c2 c3 c4 c5 c6 c7 c8 c9 c10 c11 mo mki mel mto mio mwy mme mhs mso msr mrs mce mcp 0 0 tr R C op hwb kinds elders tof iof wyf mef hsf sof srf rsf cef cpf rest (-1)) mi_X5_no rfl rfl rfl ml_RX5_178 rfl (Nat.le_of_ble_eq_true rfl) (by decide) ⟨Nat.le_of_ble_eq_true rfl, Nat.le_of_ble_eq_true rfl⟩ rfl rfl dX5_copy_31 ?_
    intro v w' hr'; obtain ⟨rfl, rfl⟩ := hr'
    show X φ 0 0 (c0 :: c1 :: c2 :: c3 :: c4 :: c5 :: c6 :: c7 :: c8 :: c9 :: c10 :: c11 :: (mo, oModel 0 (-1) tr (nI R) (nI C) (bI op) mki mel mto mio mwy (bI hwb) mme mhs mso msr mrs mce mcp) :: (mki, aI g 40 kinds) :: (mel, aI g 40 elders) :: (mto, aI g 25 tof) :: (mio, aZ g 40 iof) :: (mwy, aI g 4096 wyf) :: (mme, aZ g 36 mef) :: (mhs, aZ g 3 hsf) :: (mso, aI g 3 sof) :: (msr, aI g 3 srf) :: (mrs, aI g 12 rsf) :: (mce, aI g 480 cef) :: (mcp, aI g 40 cpf) :: rest) [(0, .ref mo), (1, .int x), (2, .int r), (3, .int i), (4, .int o2), (5, .int s), (6, .int j2), (7, .int n)] 34 [.int (-1)]
    exact hr _ _ _ _ (Or.inl (by rw [show (cpD abs x r i o2 s j2 n) = -1 by first | exact cp_b1 h16 | exact cp_b2 h26]; exact ⟨by decide, rfl, rfl⟩)) dX5_copy_34
  · refine X_iload K0 4 dX5_copy_19 rfl ?_
    refine X_iconst (v := 0) K0 dX5_copy_21 (by decide) ?_
    refine X_iconst (v := 2) K0 dX5_copy_22 (by decide) ?_
    refine X_callS (As := [.int o2, .int 0, .int 2]) (rest := []) K0 (c_in g (c0 :: c1 :: c2 :: c3 :: c4 :: c5 :: c6 :: c7 :: c8 :: c9 :: c10 :: c11 :: (mo, oModel 0 0 tr (nI R) (nI C) (bI op) mki mel mto mio mwy (bI hwb) mme mhs mso msr mrs mce mcp) :: (mki, aI g 40 kinds) :: (mel, aI g 40 elders) :: (mto, aI g 25 tof) :: (mio, aZ g 40 iof) :: (mwy, aI g 4096 wyf) :: (mme, aZ g 36 mef) :: (mhs, aZ g 3 hsf) :: (mso, aI g 3 sof) :: (msr, aI g 3 srf) :: (mrs, aI g 12 rsf) :: (mce, aI g 480 cef) :: (mcp, aI g 40 cpf) :: rest) o2 0 2) ms_X5_in rfl ml_RX5_81 rfl (Nat.le_of_ble_eq_true rfl) (by decide) ⟨Nat.le_of_ble_eq_true rfl, Nat.le_of_ble_eq_true rfl⟩ rfl rfl dX5_copy_23 ?_
    intro v w' hr'; obtain ⟨rfl, rfl⟩ := hr'
    show X φ 0 0 (c0 :: c1 :: c2 :: c3 :: c4 :: c5 :: c6 :: c7 :: c8 :: c9 :: c10 :: c11 :: (mo, oModel 0 0 tr (nI R) (nI C) (bI op) mki mel mto mio mwy (bI hwb) mme mhs mso msr mrs mce mcp) :: (mki, aI g 40 kinds) :: (mel, aI g 40 elders) :: (mto, aI g 25 tof) :: (mio, aZ g 40 iof) :: (mwy, aI g 4096 wyf) :: (mme, aZ g 36 mef) :: (mhs, aZ g 3 hsf) :: (mso, aI g 3 sof) :: (msr, aI g 3 srf) :: (mrs, aI g 12 rsf) :: (mce, aI g 480 cef) :: (mcp, aI g 40 cpf) :: rest) [(0, .ref mo), (1, .int x), (2, .int r), (3, .int i), (4, .int o2), (5, .int s), (6, .int j2), (7, .int n)] 26 [.int (bI (wiB o2 0 2))]
    refine X_if_ne K0 35 dX5_copy_26 (by decide) (fun h26 => ?_) (fun h26 => ?_)
    · obtain ⟨a, ha, rfl⟩ := wi_3 (bI_n0.mp h16)
      obtain ⟨b, hb, rfl⟩ := wi_3 (bI_n0.mp h26)
      refine X_aload_n K0 0 dX5_copy_35 rfl rfl ?_
      refine X_get K0 12 rfl rfl hin5 13 (by decide) fl_RX5_36 rfl dX5_copy_36 ?_
      refine X_iload_n K0 1 dX5_copy_39 rfl rfl ?_
      cases haba : abs a with
      | none =>
        refine X_zaldN K0 19 rfl (by omega) (by first | decide | omega) dX5_copy_40 ?_
        refine X_v (ms_none hMS ha haba) ?_
        refine X_if_eq K0 54 dX5_copy_41 (by decide) (fun h41 => ?_) (fun h41 => ?_)
        · refine X_aload_n K0 0 dX5_copy_54 rfl rfl ?_
          refine X_bipush (v := (-11)) K0 dX5_copy_55 (by decide) ?_
          refine X_callV (As := [.int (-11)]) (rest := []) K0 12 (m_no g c0 c1 c2 c3 c4 c5 c6 c7 c8 c9 c10 c11 mo mki mel mto mio mwy mme mhs mso msr mrs mce mcp 0 0 tr R C op hwb kinds elders tof iof wyf mef hsf sof srf rsf cef cpf rest (-11)) mi_X5_no rfl rfl rfl ml_RX5_178 rfl (Nat.le_of_ble_eq_true rfl) (by decide) ⟨Nat.le_of_ble_eq_true rfl, Nat.le_of_ble_eq_true rfl⟩ rfl rfl dX5_copy_57 ?_
          intro v w' hr'; obtain ⟨rfl, rfl⟩ := hr'
          show X φ 0 0 (c0 :: c1 :: c2 :: c3 :: c4 :: c5 :: c6 :: c7 :: c8 :: c9 :: c10 :: c11 :: (mo, oModel 0 (-11) tr (nI R) (nI C) (bI op) mki mel mto mio mwy (bI hwb) mme mhs mso msr mrs mce mcp) :: (mki, aI g 40 kinds) :: (mel, aI g 40 elders) :: (mto, aI g 25 tof) :: (mio, aZ g 40 iof) :: (mwy, aI g 4096 wyf) :: (mme, aZ g 36 mef) :: (mhs, aZ g 3 hsf) :: (mso, aI g 3 sof) :: (msr, aI g 3 srf) :: (mrs, aI g 12 rsf) :: (mce, aI g 480 cef) :: (mcp, aI g 40 cpf) :: rest) [(0, .ref mo), (1, .int (nI a)), (2, .int r), (3, .int i), (4, .int (nI b)), (5, .int s), (6, .int j2), (7, .int n)] 60 [.int (-11)]
          exact hr _ _ _ _ (Or.inl (by rw [show (cpD abs (nI a) r i (nI b) s j2 n) = -11 by exact cp_no1 ha hb h16 h26 haba]; exact ⟨by decide, rfl, rfl⟩)) dX5_copy_60
        · exact absurd (by decide) h41
      | some va =>
        obtain ⟨s1a, nra, rowsa⟩ := va
        obtain ⟨e1a, e2a, e3a, e4a, e5a, e6a⟩ := ms_some hMS ha haba
        refine X_zaldN K0 19 rfl (by omega) (by first | decide | omega) dX5_copy_40 ?_
        refine X_v e1a ?_
        refine X_if_eq K0 54 dX5_copy_41 (by decide) (fun h41 => ?_) (fun h41 => ?_)
        · exact absurd h41 (by decide)
        · refine X_aload_n K0 0 dX5_copy_44 rfl rfl ?_
          refine X_get K0 12 rfl rfl hin5 13 (by decide) fl_RX5_36 rfl dX5_copy_45 ?_
          refine X_iload K0 4 dX5_copy_48 rfl ?_
          cases habb : abs b with
          | none =>
            refine X_zaldN K0 19 rfl (by omega) (by first | decide | omega) dX5_copy_50 ?_
            refine X_v (ms_none hMS hb habb) ?_
            refine X_if_ne K0 61 dX5_copy_51 (by decide) (fun h51 => ?_) (fun h51 => ?_)
            · exact absurd rfl h51
            · refine X_aload_n K0 0 dX5_copy_54 rfl rfl ?_
              refine X_bipush (v := (-11)) K0 dX5_copy_55 (by decide) ?_
              refine X_callV (As := [.int (-11)]) (rest := []) K0 12 (m_no g c0 c1 c2 c3 c4 c5 c6 c7 c8 c9 c10 c11 mo mki mel mto mio mwy mme mhs mso msr mrs mce mcp 0 0 tr R C op hwb kinds elders tof iof wyf mef hsf sof srf rsf cef cpf rest (-11)) mi_X5_no rfl rfl rfl ml_RX5_178 rfl (Nat.le_of_ble_eq_true rfl) (by decide) ⟨Nat.le_of_ble_eq_true rfl, Nat.le_of_ble_eq_true rfl⟩ rfl rfl dX5_copy_57 ?_
              intro v w' hr'; obtain ⟨rfl, rfl⟩ := hr'
              show X φ 0 0 (c0 :: c1 :: c2 :: c3 :: c4 :: c5 :: c6 :: c7 :: c8 :: c9 :: c10 :: c11 :: (mo, oModel 0 (-11) tr (nI R) (nI C) (bI op) mki mel mto mio mwy (bI hwb) mme mhs mso msr mrs mce mcp) :: (mki, aI g 40 kinds) :: (mel, aI g 40 elders) :: (mto, aI g 25 tof) :: (mio, aZ g 40 iof) :: (mwy, aI g 4096 wyf) :: (mme, aZ g 36 mef) :: (mhs, aZ g 3 hsf) :: (mso, aI g 3 sof) :: (msr, aI g 3 srf) :: (mrs, aI g 12 rsf) :: (mce, aI g 480 cef) :: (mcp, aI g 40 cpf) :: rest) [(0, .ref mo), (1, .int (nI a)), (2, .int r), (3, .int i), (4, .int (nI b)), (5, .int s), (6, .int j2), (7, .int n)] 60 [.int (-11)]
              exact hr _ _ _ _ (Or.inl (by rw [show (cpD abs (nI a) r i (nI b) s j2 n) = -11 by exact cp_no2 ha hb h16 h26 habb]; exact ⟨by decide, rfl, rfl⟩)) dX5_copy_60
          | some vb =>
            obtain ⟨s1b, nrb, rowsb⟩ := vb
            obtain ⟨e1b, e2b, e3b, e4b, e5b, e6b⟩ := ms_some hMS hb habb
            refine X_zaldN K0 19 rfl (by omega) (by first | decide | omega) dX5_copy_50 ?_
            refine X_v e1b ?_
            refine X_if_ne K0 61 dX5_copy_51 (by decide) (fun h51 => ?_) (fun h51 => ?_)
            · refine X_aload_n K0 0 dX5_copy_61 rfl rfl ?_
              refine X_get K0 12 rfl rfl hin5 14 (by decide) fl_RX5_39 rfl dX5_copy_62 ?_
              refine X_iload_n K0 1 dX5_copy_65 rfl rfl ?_
              refine X_ialdN K0 20 rfl (by omega) (by first | decide | omega) dX5_copy_66 ?_
              refine X_v e2a ?_
              refine X_aload_n K0 0 dX5_copy_67 rfl rfl ?_
              refine X_get K0 12 rfl rfl hin5 14 (by decide) fl_RX5_39 rfl dX5_copy_68 ?_
              refine X_iload K0 4 dX5_copy_71 rfl ?_
              refine X_ialdN K0 20 rfl (by omega) (by first | decide | omega) dX5_copy_73 ?_
              refine X_v e2b ?_
              refine X_icmp_eq K0 84 dX5_copy_74 (by decide) (fun h74 => ?_) (fun h74 => ?_)
              · refine X_iload_n K0 2 dX5_copy_84 rfl rfl ?_
                refine X_iconst (v := 0) K0 dX5_copy_85 (by decide) ?_
                refine X_aload_n K0 0 dX5_copy_86 rfl rfl ?_
                refine X_get K0 12 rfl rfl hin5 15 (by decide) fl_RX5_42 rfl dX5_copy_87 ?_
                refine X_iload_n K0 1 dX5_copy_90 rfl rfl ?_
                refine X_ialdN K0 21 rfl (by omega) (by first | decide | omega) dX5_copy_91 ?_
                refine X_v e3a ?_
                refine X_iconst (v := 1) K0 dX5_copy_92 (by decide) ?_
                refine X_isub K0 dX5_copy_93 ?_
                refine X_callS (As := [.int r, .int 0, .int ((nI nra) - 1)]) (rest := []) K0 (c_in g (c0 :: c1 :: c2 :: c3 :: c4 :: c5 :: c6 :: c7 :: c8 :: c9 :: c10 :: c11 :: (mo, oModel 0 0 tr (nI R) (nI C) (bI op) mki mel mto mio mwy (bI hwb) mme mhs mso msr mrs mce mcp) :: (mki, aI g 40 kinds) :: (mel, aI g 40 elders) :: (mto, aI g 25 tof) :: (mio, aZ g 40 iof) :: (mwy, aI g 4096 wyf) :: (mme, aZ g 36 mef) :: (mhs, aZ g 3 hsf) :: (mso, aI g 3 sof) :: (msr, aI g 3 srf) :: (mrs, aI g 12 rsf) :: (mce, aI g 480 cef) :: (mcp, aI g 40 cpf) :: rest) r 0 ((nI nra) - 1)) ms_X5_in rfl ml_RX5_81 rfl (Nat.le_of_ble_eq_true rfl) (by decide) ⟨Nat.le_of_ble_eq_true rfl, Nat.le_of_ble_eq_true rfl⟩ rfl rfl dX5_copy_94 ?_
                intro v w' hr'; obtain ⟨rfl, rfl⟩ := hr'
                show X φ 0 0 (c0 :: c1 :: c2 :: c3 :: c4 :: c5 :: c6 :: c7 :: c8 :: c9 :: c10 :: c11 :: (mo, oModel 0 0 tr (nI R) (nI C) (bI op) mki mel mto mio mwy (bI hwb) mme mhs mso msr mrs mce mcp) :: (mki, aI g 40 kinds) :: (mel, aI g 40 elders) :: (mto, aI g 25 tof) :: (mio, aZ g 40 iof) :: (mwy, aI g 4096 wyf) :: (mme, aZ g 36 mef) :: (mhs, aZ g 3 hsf) :: (mso, aI g 3 sof) :: (msr, aI g 3 srf) :: (mrs, aI g 12 rsf) :: (mce, aI g 480 cef) :: (mcp, aI g 40 cpf) :: rest) [(0, .ref mo), (1, .int (nI a)), (2, .int r), (3, .int i), (4, .int (nI b)), (5, .int s), (6, .int j2), (7, .int n)] 97 [.int (bI (wiB r 0 ((nI nra) - 1)))]
                refine X_if_eq K0 118 dX5_copy_97 (by decide) (fun h97 => ?_) (fun h97 => ?_)
                · refine X_aload_n K0 0 dX5_copy_118 rfl rfl ?_
                  refine X_bipush (v := (-12)) K0 dX5_copy_119 (by decide) ?_
                  refine X_callV (As := [.int (-12)]) (rest := []) K0 12 (m_no g c0 c1 c2 c3 c4 c5 c6 c7 c8 c9 c10 c11 mo mki mel mto mio mwy mme mhs mso msr mrs mce mcp 0 0 tr R C op hwb kinds elders tof iof wyf mef hsf sof srf rsf cef cpf rest (-12)) mi_X5_no rfl rfl rfl ml_RX5_178 rfl (Nat.le_of_ble_eq_true rfl) (by decide) ⟨Nat.le_of_ble_eq_true rfl, Nat.le_of_ble_eq_true rfl⟩ rfl rfl dX5_copy_121 ?_
                  intro v w' hr'; obtain ⟨rfl, rfl⟩ := hr'
                  show X φ 0 0 (c0 :: c1 :: c2 :: c3 :: c4 :: c5 :: c6 :: c7 :: c8 :: c9 :: c10 :: c11 :: (mo, oModel 0 (-12) tr (nI R) (nI C) (bI op) mki mel mto mio mwy (bI hwb) mme mhs mso msr mrs mce mcp) :: (mki, aI g 40 kinds) :: (mel, aI g 40 elders) :: (mto, aI g 25 tof) :: (mio, aZ g 40 iof) :: (mwy, aI g 4096 wyf) :: (mme, aZ g 36 mef) :: (mhs, aZ g 3 hsf) :: (mso, aI g 3 sof) :: (msr, aI g 3 srf) :: (mrs, aI g 12 rsf) :: (mce, aI g 480 cef) :: (mcp, aI g 40 cpf) :: rest) [(0, .ref mo), (1, .int (nI a)), (2, .int r), (3, .int i), (4, .int (nI b)), (5, .int s), (6, .int j2), (7, .int n)] 124 [.int (-12)]
                  exact hr _ _ _ _ (Or.inl (by rw [show (cpD abs (nI a) r i (nI b) s j2 n) = -12 by first | (rw [cp_at ha hb h16 h26 haba habb, cp_r1 h74 (hr0 e5a h97)]) | (rw [cp_at ha hb h16 h26 haba habb, cp_r2 h74 (hr0 e5b h115)])]; exact ⟨by decide, rfl, rfl⟩)) dX5_copy_124
                · refine X_iload K0 5 dX5_copy_100 rfl ?_
                  refine X_iconst (v := 0) K0 dX5_copy_102 (by decide) ?_
                  refine X_aload_n K0 0 dX5_copy_103 rfl rfl ?_
                  refine X_get K0 12 rfl rfl hin5 15 (by decide) fl_RX5_42 rfl dX5_copy_104 ?_
                  refine X_iload K0 4 dX5_copy_107 rfl ?_
                  refine X_ialdN K0 21 rfl (by omega) (by first | decide | omega) dX5_copy_109 ?_
                  refine X_v e3b ?_
                  refine X_iconst (v := 1) K0 dX5_copy_110 (by decide) ?_
                  refine X_isub K0 dX5_copy_111 ?_
                  refine X_callS (As := [.int s, .int 0, .int ((nI nrb) - 1)]) (rest := []) K0 (c_in g (c0 :: c1 :: c2 :: c3 :: c4 :: c5 :: c6 :: c7 :: c8 :: c9 :: c10 :: c11 :: (mo, oModel 0 0 tr (nI R) (nI C) (bI op) mki mel mto mio mwy (bI hwb) mme mhs mso msr mrs mce mcp) :: (mki, aI g 40 kinds) :: (mel, aI g 40 elders) :: (mto, aI g 25 tof) :: (mio, aZ g 40 iof) :: (mwy, aI g 4096 wyf) :: (mme, aZ g 36 mef) :: (mhs, aZ g 3 hsf) :: (mso, aI g 3 sof) :: (msr, aI g 3 srf) :: (mrs, aI g 12 rsf) :: (mce, aI g 480 cef) :: (mcp, aI g 40 cpf) :: rest) s 0 ((nI nrb) - 1)) ms_X5_in rfl ml_RX5_81 rfl (Nat.le_of_ble_eq_true rfl) (by decide) ⟨Nat.le_of_ble_eq_true rfl, Nat.le_of_ble_eq_true rfl⟩ rfl rfl dX5_copy_112 ?_
                  intro v w' hr'; obtain ⟨rfl, rfl⟩ := hr'
                  show X φ 0 0 (c0 :: c1 :: c2 :: c3 :: c4 :: c5 :: c6 :: c7 :: c8 :: c9 :: c10 :: c11 :: (mo, oModel 0 0 tr (nI R) (nI C) (bI op) mki mel mto mio mwy (bI hwb) mme mhs mso msr mrs mce mcp) :: (mki, aI g 40 kinds) :: (mel, aI g 40 elders) :: (mto, aI g 25 tof) :: (mio, aZ g 40 iof) :: (mwy, aI g 4096 wyf) :: (mme, aZ g 36 mef) :: (mhs, aZ g 3 hsf) :: (mso, aI g 3 sof) :: (msr, aI g 3 srf) :: (mrs, aI g 12 rsf) :: (mce, aI g 480 cef) :: (mcp, aI g 40 cpf) :: rest) [(0, .ref mo), (1, .int (nI a)), (2, .int r), (3, .int i), (4, .int (nI b)), (5, .int s), (6, .int j2), (7, .int n)] 115 [.int (bI (wiB s 0 ((nI nrb) - 1)))]
                  refine X_if_ne K0 125 dX5_copy_115 (by decide) (fun h115 => ?_) (fun h115 => ?_)
                  · obtain ⟨jr, hjr, rfl⟩ := hr_of (hry e5a h97) e5a
                    obtain ⟨js, hjs, rfl⟩ := hr_of (hry e5b h115) e5b
                    refine X_aload_n K0 0 dX5_copy_125 rfl rfl ?_
                    refine X_get K0 12 rfl rfl hin5 16 (by decide) fl_RX5_45 rfl dX5_copy_126 ?_
                    refine X_iconst (v := 4) K0 dX5_copy_129 (by decide) ?_
                    refine X_iload_n K0 1 dX5_copy_130 rfl rfl ?_
                    refine X_imul K0 dX5_copy_131 ?_
                    refine X_v (z := (nI (4 * a))) (pk_mul 4 a) ?_
                    refine X_iload_n K0 2 dX5_copy_132 rfl rfl ?_
                    refine X_iadd K0 dX5_copy_133 ?_
                    refine X_v (z := (nI (4 * a + jr))) (nI_add _ _) ?_
                    cases hrwa : rowsa jr with
                    | none =>
                      refine X_ialdN K0 22 rfl (by omega) (by first | decide | omega) dX5_copy_134 ?_
                      refine X_v (mr_none (e6a jr hjr) hrwa) ?_
                      refine X_istore (L' := [(8, .int (-9)), (0, .ref mo), (1, .int (nI a)), (2, .int (nI jr)), (3, .int i), (4, .int (nI b)), (5, .int (nI js)), (6, .int j2), (7, .int n)]) K0 dX5_copy_135 (by decide) rfl ?_
                      refine X_aload_n K0 1 dX5_copy_137 rfl rfl ?_
                      refine X_get K0 12 rfl rfl hin5 16 (by decide) fl_RX5_45 rfl dX5_copy_138 ?_
                      refine X_iconst (v := 4) K0 dX5_copy_141 (by decide) ?_
                      refine X_iload K0 5 dX5_copy_142 rfl ?_
                      refine X_imul K0 dX5_copy_144 ?_
                      refine X_v (z := (nI (4 * b))) (pk_mul 4 b) ?_
                      refine X_iload K0 6 dX5_copy_145 rfl ?_
                      refine X_iadd K0 dX5_copy_147 ?_
                      refine X_v (z := (nI (4 * b + js))) (nI_add _ _) ?_
                      cases hrwb : rowsb js with
                      | none =>
                        refine X_ialdN K0 22 rfl (by omega) (by first | decide | omega) dX5_copy_148 ?_
                        refine X_v (mr_none (e6b js hjs) hrwb) ?_
                        refine X_istore (L' := [(9, .int (-9)), (8, .int (-9)), (0, .ref mo), (1, .int (nI a)), (2, .int (nI jr)), (3, .int i), (4, .int (nI b)), (5, .int (nI js)), (6, .int j2), (7, .int n)]) K0 dX5_copy_149 (by decide) rfl ?_
                        refine X_iload K0 1 dX5_copy_151 rfl ?_
                        refine X_bipush (v := (-9)) K0 dX5_copy_153 (by decide) ?_
                        refine X_icmp_eq K0 165 dX5_copy_155 (by decide) (fun h155 => ?_) (fun h155 => ?_)
                        · refine X_aload_n K0 2 dX5_copy_165 rfl rfl ?_
                          refine X_bipush (v := (-11)) K0 dX5_copy_166 (by decide) ?_
                          refine X_callV (As := [.int (-11)]) (rest := []) K0 12 (m_no g c0 c1 c2 c3 c4 c5 c6 c7 c8 c9 c10 c11 mo mki mel mto mio mwy mme mhs mso msr mrs mce mcp 0 0 tr R C op hwb kinds elders tof iof wyf mef hsf sof srf rsf cef cpf rest (-11)) mi_X5_no rfl rfl rfl ml_RX5_178 rfl (Nat.le_of_ble_eq_true rfl) (by decide) ⟨Nat.le_of_ble_eq_true rfl, Nat.le_of_ble_eq_true rfl⟩ rfl rfl dX5_copy_168 ?_
                          intro v w' hr'; obtain ⟨rfl, rfl⟩ := hr'
                          show X φ 0 0 (c0 :: c1 :: c2 :: c3 :: c4 :: c5 :: c6 :: c7 :: c8 :: c9 :: c10 :: c11 :: (mo, oModel 0 (-11) tr (nI R) (nI C) (bI op) mki mel mto mio mwy (bI hwb) mme mhs mso msr mrs mce mcp) :: (mki, aI g 40 kinds) :: (mel, aI g 40 elders) :: (mto, aI g 25 tof) :: (mio, aZ g 40 iof) :: (mwy, aI g 4096 wyf) :: (mme, aZ g 36 mef) :: (mhs, aZ g 3 hsf) :: (mso, aI g 3 sof) :: (msr, aI g 3 srf) :: (mrs, aI g 12 rsf) :: (mce, aI g 480 cef) :: (mcp, aI g 40 cpf) :: rest) [(9, .int (-9)), (8, .int (-9)), (0, .ref mo), (1, .int (nI a)), (2, .int (nI jr)), (3, .int i), (4, .int (nI b)), (5, .int (nI js)), (6, .int j2), (7, .int n)] 171 [.int (-11)]
                          exact hr _ _ _ _ (Or.inl (by rw [show (cpD abs (nI a) (nI jr) i (nI b) (nI js) j2 n) = -11 by first | (rw [cp_at ha hb h16 h26 haba habb, cp_m1 h74 hjr e5a hjs e5b hrwa]) | (rw [cp_at ha hb h16 h26 haba habb, cp_m2 h74 hjr e5a hjs e5b hrwb])]; exact ⟨by decide, rfl, rfl⟩)) dX5_copy_171
                        · exact absurd rfl h155
                      | some ub =>
                        obtain ⟨lenb, fb⟩ := ub
                        obtain ⟨m1b, m2b, m3b⟩ := mr_some (e6b js hjs) hrwb
                        refine X_ialdN K0 22 rfl (by omega) (by first | decide | omega) dX5_copy_148 ?_
                        refine X_v m1b ?_
                        refine X_istore (L' := [(9, .int (nI lenb)), (8, .int (-9)), (0, .ref mo), (1, .int (nI a)), (2, .int (nI jr)), (3, .int i), (4, .int (nI b)), (5, .int (nI js)), (6, .int j2), (7, .int n)]) K0 dX5_copy_149 (by decide) rfl ?_
                        refine X_iload K0 1 dX5_copy_151 rfl ?_
                        refine X_bipush (v := (-9)) K0 dX5_copy_153 (by decide) ?_
                        refine X_icmp_eq K0 165 dX5_copy_155 (by decide) (fun h155 => ?_) (fun h155 => ?_)
                        · refine X_aload_n K0 2 dX5_copy_165 rfl rfl ?_
                          refine X_bipush (v := (-11)) K0 dX5_copy_166 (by decide) ?_
                          refine X_callV (As := [.int (-11)]) (rest := []) K0 12 (m_no g c0 c1 c2 c3 c4 c5 c6 c7 c8 c9 c10 c11 mo mki mel mto mio mwy mme mhs mso msr mrs mce mcp 0 0 tr R C op hwb kinds elders tof iof wyf mef hsf sof srf rsf cef cpf rest (-11)) mi_X5_no rfl rfl rfl ml_RX5_178 rfl (Nat.le_of_ble_eq_true rfl) (by decide) ⟨Nat.le_of_ble_eq_true rfl, Nat.le_of_ble_eq_true rfl⟩ rfl rfl dX5_copy_168 ?_
                          intro v w' hr'; obtain ⟨rfl, rfl⟩ := hr'
                          show X φ 0 0 (c0 :: c1 :: c2 :: c3 :: c4 :: c5 :: c6 :: c7 :: c8 :: c9 :: c10 :: c11 :: (mo, oModel 0 (-11) tr (nI R) (nI C) (bI op) mki mel mto mio mwy (bI hwb) mme mhs mso msr mrs mce mcp) :: (mki, aI g 40 kinds) :: (mel, aI g 40 elders) :: (mto, aI g 25 tof) :: (mio, aZ g 40 iof) :: (mwy, aI g 4096 wyf) :: (mme, aZ g 36 mef) :: (mhs, aZ g 3 hsf) :: (mso, aI g 3 sof) :: (msr, aI g 3 srf) :: (mrs, aI g 12 rsf) :: (mce, aI g 480 cef) :: (mcp, aI g 40 cpf) :: rest) [(9, .int (nI lenb)), (8, .int (-9)), (0, .ref mo), (1, .int (nI a)), (2, .int (nI jr)), (3, .int i), (4, .int (nI b)), (5, .int (nI js)), (6, .int j2), (7, .int n)] 171 [.int (-11)]
                          exact hr _ _ _ _ (Or.inl (by rw [show (cpD abs (nI a) (nI jr) i (nI b) (nI js) j2 n) = -11 by first | (rw [cp_at ha hb h16 h26 haba habb, cp_m1 h74 hjr e5a hjs e5b hrwa]) | (rw [cp_at ha hb h16 h26 haba habb, cp_m2 h74 hjr e5a hjs e5b hrwb])]; exact ⟨by decide, rfl, rfl⟩)) dX5_copy_171
                        · exact absurd rfl h155
                    | some ua =>
                      obtain ⟨lena, fa⟩ := ua
                      obtain ⟨m1a, m2a, m3a⟩ := mr_some (e6a jr hjr) hrwa
                      refine X_ialdN K0 22 rfl (by omega) (by first | decide | omega) dX5_copy_134 ?_
                      refine X_v m1a ?_
                      refine X_istore (L' := [(8, .int (nI lena)), (0, .ref mo), (1, .int (nI a)), (2, .int (nI jr)), (3, .int i), (4, .int (nI b)), (5, .int (nI js)), (6, .int j2), (7, .int n)]) K0 dX5_copy_135 (by decide) rfl ?_
                      refine X_aload_n K0 1 dX5_copy_137 rfl rfl ?_
                      refine X_get K0 12 rfl rfl hin5 16 (by decide) fl_RX5_45 rfl dX5_copy_138 ?_
                      refine X_iconst (v := 4) K0 dX5_copy_141 (by decide) ?_
                      refine X_iload K0 5 dX5_copy_142 rfl ?_
                      refine X_imul K0 dX5_copy_144 ?_
                      refine X_v (z := (nI (4 * b))) (pk_mul 4 b) ?_
                      refine X_iload K0 6 dX5_copy_145 rfl ?_
                      refine X_iadd K0 dX5_copy_147 ?_
                      refine X_v (z := (nI (4 * b + js))) (nI_add _ _) ?_
                      cases hrwb : rowsb js with
                      | none =>
                        refine X_ialdN K0 22 rfl (by omega) (by first | decide | omega) dX5_copy_148 ?_
                        refine X_v (mr_none (e6b js hjs) hrwb) ?_
                        refine X_istore (L' := [(9, .int (-9)), (8, .int (nI lena)), (0, .ref mo), (1, .int (nI a)), (2, .int (nI jr)), (3, .int i), (4, .int (nI b)), (5, .int (nI js)), (6, .int j2), (7, .int n)]) K0 dX5_copy_149 (by decide) rfl ?_
                        refine X_iload K0 1 dX5_copy_151 rfl ?_
                        refine X_bipush (v := (-9)) K0 dX5_copy_153 (by decide) ?_
                        refine X_icmp_eq K0 165 dX5_copy_155 (by decide) (fun h155 => ?_) (fun h155 => ?_)
                        · exact absurd h155 (nI_n9 (by omega))
                        · refine X_iload K0 0 dX5_copy_158 rfl ?_
                          refine X_bipush (v := (-9)) K0 dX5_copy_160 (by decide) ?_
                          refine X_icmp_ne K0 172 dX5_copy_162 (by decide) (fun h162 => ?_) (fun h162 => ?_)
                          · exact absurd rfl h162
                          · refine X_aload_n K0 2 dX5_copy_165 rfl rfl ?_
                            refine X_bipush (v := (-11)) K0 dX5_copy_166 (by decide) ?_
                            refine X_callV (As := [.int (-11)]) (rest := []) K0 12 (m_no g c0 c1 c2 c3 c4 c5 c6 c7 c8 c9 c10 c11 mo mki mel mto mio mwy mme mhs mso msr mrs mce mcp 0 0 tr R C op hwb kinds elders tof iof wyf mef hsf sof srf rsf cef cpf rest (-11)) mi_X5_no rfl rfl rfl ml_RX5_178 rfl (Nat.le_of_ble_eq_true rfl) (by decide) ⟨Nat.le_of_ble_eq_true rfl, Nat.le_of_ble_eq_true rfl⟩ rfl rfl dX5_copy_168 ?_
                            intro v w' hr'; obtain ⟨rfl, rfl⟩ := hr'
                            show X φ 0 0 (c0 :: c1 :: c2 :: c3 :: c4 :: c5 :: c6 :: c7 :: c8 :: c9 :: c10 :: c11 :: (mo, oModel 0 (-11) tr (nI R) (nI C) (bI op) mki mel mto mio mwy (bI hwb) mme mhs mso msr mrs mce mcp) :: (mki, aI g 40 kinds) :: (mel, aI g 40 elders) :: (mto, aI g 25 tof) :: (mio, aZ g 40 iof) :: (mwy, aI g 4096 wyf) :: (mme, aZ g 36 mef) :: (mhs, aZ g 3 hsf) :: (mso, aI g 3 sof) :: (msr, aI g 3 srf) :: (mrs, aI g 12 rsf) :: (mce, aI g 480 cef) :: (mcp, aI g 40 cpf) :: rest) [(9, .int (-9)), (8, .int (nI lena)), (0, .ref mo), (1, .int (nI a)), (2, .int (nI jr)), (3, .int i), (4, .int (nI b)), (5, .int (nI js)), (6, .int j2), (7, .int n)] 171 [.int (-11)]
                            exact hr _ _ _ _ (Or.inl (by rw [show (cpD abs (nI a) (nI jr) i (nI b) (nI js) j2 n) = -11 by first | (rw [cp_at ha hb h16 h26 haba habb, cp_m1 h74 hjr e5a hjs e5b hrwa]) | (rw [cp_at ha hb h16 h26 haba habb, cp_m2 h74 hjr e5a hjs e5b hrwb])]; exact ⟨by decide, rfl, rfl⟩)) dX5_copy_171
                      | some ub =>
                        obtain ⟨lenb, fb⟩ := ub
                        obtain ⟨m1b, m2b, m3b⟩ := mr_some (e6b js hjs) hrwb
                        refine X_ialdN K0 22 rfl (by omega) (by first | decide | omega) dX5_copy_148 ?_
                        refine X_v m1b ?_
                        refine X_istore (L' := [(9, .int (nI lenb)), (8, .int (nI lena)), (0, .ref mo), (1, .int (nI a)), (2, .int (nI jr)), (3, .int i), (4, .int (nI b)), (5, .int (nI js)), (6, .int j2), (7, .int n)]) K0 dX5_copy_149 (by decide) rfl ?_
                        refine X_iload K0 1 dX5_copy_151 rfl ?_
                        refine X_bipush (v := (-9)) K0 dX5_copy_153 (by decide) ?_
                        refine X_icmp_eq K0 165 dX5_copy_155 (by decide) (fun h155 => ?_) (fun h155 => ?_)
                        · exact absurd h155 (nI_n9 (by omega))
                        · refine X_iload K0 0 dX5_copy_158 rfl ?_
                          refine X_bipush (v := (-9)) K0 dX5_copy_160 (by decide) ?_
                          refine X_icmp_ne K0 172 dX5_copy_162 (by decide) (fun h162 => ?_) (fun h162 => ?_)
                          · refine X_iload_n K0 5 dX5_copy_172 rfl rfl ?_
                            refine X_iload K0 9 dX5_copy_173 rfl ?_
                            refine X_iload K0 1 dX5_copy_175 rfl ?_
                            refine X_callS (As := [.int i, .int n, .int (nI lena)]) (rest := []) K0 (m_areThere g (c0 :: c1 :: c2 :: c3 :: c4 :: c5 :: c6 :: c7 :: c8 :: c9 :: c10 :: c11 :: (mo, oModel 0 0 tr (nI R) (nI C) (bI op) mki mel mto mio mwy (bI hwb) mme mhs mso msr mrs mce mcp) :: (mki, aI g 40 kinds) :: (mel, aI g 40 elders) :: (mto, aI g 25 tof) :: (mio, aZ g 40 iof) :: (mwy, aI g 4096 wyf) :: (mme, aZ g 36 mef) :: (mhs, aZ g 3 hsf) :: (mso, aI g 3 sof) :: (msr, aI g 3 srf) :: (mrs, aI g 12 rsf) :: (mce, aI g 480 cef) :: (mcp, aI g 40 cpf) :: rest) lena m2a i n) ms_X5_areThere rfl ml_RX5_181 rfl (Nat.le_of_ble_eq_true rfl) (by decide) ⟨Nat.le_of_ble_eq_true rfl, Nat.le_of_ble_eq_true rfl⟩ rfl rfl dX5_copy_177 ?_
                            intro v w' hr'; obtain ⟨rfl, rfl⟩ := hr'
                            show X φ 0 0 (c0 :: c1 :: c2 :: c3 :: c4 :: c5 :: c6 :: c7 :: c8 :: c9 :: c10 :: c11 :: (mo, oModel 0 0 tr (nI R) (nI C) (bI op) mki mel mto mio mwy (bI hwb) mme mhs mso msr mrs mce mcp) :: (mki, aI g 40 kinds) :: (mel, aI g 40 elders) :: (mto, aI g 25 tof) :: (mio, aZ g 40 iof) :: (mwy, aI g 4096 wyf) :: (mme, aZ g 36 mef) :: (mhs, aZ g 3 hsf) :: (mso, aI g 3 sof) :: (msr, aI g 3 srf) :: (mrs, aI g 12 rsf) :: (mce, aI g 480 cef) :: (mcp, aI g 40 cpf) :: rest) [(9, .int (nI lenb)), (8, .int (nI lena)), (0, .ref mo), (1, .int (nI a)), (2, .int (nI jr)), (3, .int i), (4, .int (nI b)), (5, .int (nI js)), (6, .int j2), (7, .int n)] 180 [.int (bI (hoB lena i n))]
                            refine X_if_eq K0 195 dX5_copy_180 (by decide) (fun h180 => ?_) (fun h180 => ?_)
                            · refine X_aload_n K0 2 dX5_copy_195 rfl rfl ?_
                              refine X_bipush (v := (-12)) K0 dX5_copy_196 (by decide) ?_
                              refine X_callV (As := [.int (-12)]) (rest := []) K0 12 (m_no g c0 c1 c2 c3 c4 c5 c6 c7 c8 c9 c10 c11 mo mki mel mto mio mwy mme mhs mso msr mrs mce mcp 0 0 tr R C op hwb kinds elders tof iof wyf mef hsf sof srf rsf cef cpf rest (-12)) mi_X5_no rfl rfl rfl ml_RX5_178 rfl (Nat.le_of_ble_eq_true rfl) (by decide) ⟨Nat.le_of_ble_eq_true rfl, Nat.le_of_ble_eq_true rfl⟩ rfl rfl dX5_copy_198 ?_
                              intro v w' hr'; obtain ⟨rfl, rfl⟩ := hr'
                              show X φ 0 0 (c0 :: c1 :: c2 :: c3 :: c4 :: c5 :: c6 :: c7 :: c8 :: c9 :: c10 :: c11 :: (mo, oModel 0 (-12) tr (nI R) (nI C) (bI op) mki mel mto mio mwy (bI hwb) mme mhs mso msr mrs mce mcp) :: (mki, aI g 40 kinds) :: (mel, aI g 40 elders) :: (mto, aI g 25 tof) :: (mio, aZ g 40 iof) :: (mwy, aI g 4096 wyf) :: (mme, aZ g 36 mef) :: (mhs, aZ g 3 hsf) :: (mso, aI g 3 sof) :: (msr, aI g 3 srf) :: (mrs, aI g 12 rsf) :: (mce, aI g 480 cef) :: (mcp, aI g 40 cpf) :: rest) [(9, .int (nI lenb)), (8, .int (nI lena)), (0, .ref mo), (1, .int (nI a)), (2, .int (nI jr)), (3, .int i), (4, .int (nI b)), (5, .int (nI js)), (6, .int j2), (7, .int n)] 201 [.int (-12)]
                              exact hr _ _ _ _ (Or.inl (by rw [show (cpD abs (nI a) (nI jr) i (nI b) (nI js) j2 n) = -12 by first | (rw [cp_at ha hb h16 h26 haba habb, cp_ok h74 hjr e5a hjs e5b hrwa hrwb, cp_n1 h180]) | (rw [cp_at ha hb h16 h26 haba habb, cp_ok h74 hjr e5a hjs e5b hrwa hrwb, cp_n2 h192])]; exact ⟨by decide, rfl, rfl⟩)) dX5_copy_201
                            · refine X_iload K0 8 dX5_copy_183 rfl ?_
                              refine X_iload K0 9 dX5_copy_185 rfl ?_
                              refine X_iload K0 0 dX5_copy_187 rfl ?_
                              refine X_callS (As := [.int j2, .int n, .int (nI lenb)]) (rest := []) K0 (m_areThere g (c0 :: c1 :: c2 :: c3 :: c4 :: c5 :: c6 :: c7 :: c8 :: c9 :: c10 :: c11 :: (mo, oModel 0 0 tr (nI R) (nI C) (bI op) mki mel mto mio mwy (bI hwb) mme mhs mso msr mrs mce mcp) :: (mki, aI g 40 kinds) :: (mel, aI g 40 elders) :: (mto, aI g 25 tof) :: (mio, aZ g 40 iof) :: (mwy, aI g 4096 wyf) :: (mme, aZ g 36 mef) :: (mhs, aZ g 3 hsf) :: (mso, aI g 3 sof) :: (msr, aI g 3 srf) :: (mrs, aI g 12 rsf) :: (mce, aI g 480 cef) :: (mcp, aI g 40 cpf) :: rest) lenb m2b j2 n) ms_X5_areThere rfl ml_RX5_181 rfl (Nat.le_of_ble_eq_true rfl) (by decide) ⟨Nat.le_of_ble_eq_true rfl, Nat.le_of_ble_eq_true rfl⟩ rfl rfl dX5_copy_189 ?_
                              intro v w' hr'; obtain ⟨rfl, rfl⟩ := hr'
                              show X φ 0 0 (c0 :: c1 :: c2 :: c3 :: c4 :: c5 :: c6 :: c7 :: c8 :: c9 :: c10 :: c11 :: (mo, oModel 0 0 tr (nI R) (nI C) (bI op) mki mel mto mio mwy (bI hwb) mme mhs mso msr mrs mce mcp) :: (mki, aI g 40 kinds) :: (mel, aI g 40 elders) :: (mto, aI g 25 tof) :: (mio, aZ g 40 iof) :: (mwy, aI g 4096 wyf) :: (mme, aZ g 36 mef) :: (mhs, aZ g 3 hsf) :: (mso, aI g 3 sof) :: (msr, aI g 3 srf) :: (mrs, aI g 12 rsf) :: (mce, aI g 480 cef) :: (mcp, aI g 40 cpf) :: rest) [(9, .int (nI lenb)), (8, .int (nI lena)), (0, .ref mo), (1, .int (nI a)), (2, .int (nI jr)), (3, .int i), (4, .int (nI b)), (5, .int (nI js)), (6, .int j2), (7, .int n)] 192 [.int (bI (hoB lenb j2 n))]
                              refine X_if_ne K0 202 dX5_copy_192 (by decide) (fun h192 => ?_) (fun h192 => ?_)
                              · obtain ⟨i', n', rfl, rfl, k1⟩ := ho_of (bI_n0.mp h180) m2a
                                obtain ⟨j', n2, rfl, hnn, k2⟩ := ho_of (bI_n0.mp h192) m2b
                                obtain rfl : n' = n2 := (nI_eq (by omega) (by omega)).mp hnn
                                have habb2 : abs b = some (s1a, nrb, rowsb) := by rw [h74]; exact habb
                                refine X_iconst (v := 0) K0 dX5_copy_202 (by decide) ?_
                                refine X_istore (L' := [(10, .int 0), (9, .int (nI lenb)), (8, .int (nI lena)), (0, .ref mo), (1, .int (nI a)), (2, .int (nI jr)), (3, .int (nI i')), (4, .int (nI b)), (5, .int (nI js)), (6, .int (nI j')), (7, .int (nI n'))]) K0 dX5_copy_203 (by decide) rfl ?_
                                refine X.sub [3, 4, 5, 6, 7, 8, 9, 10, 2, 1, 0] (L' := [(0, .ref mo), (1, .int (nI a)), (2, .int (nI jr)), (3, .int (nI i')), (4, .int (nI b)), (5, .int (nI js)), (6, .int (nI j')), (7, .int (nI n')), (8, .int (nI lena)), (9, .int (nI lenb)), (10, .int 0)]) rfl ?_
                                have LOOPc : ∀ (ddc iic : Nat), iic + ddc = n' → X φ 0 0 (c0 :: c1 :: c2 :: c3 :: c4 :: c5 :: c6 :: c7 :: c8 :: c9 :: c10 :: c11 :: (mo, oModel 0 0 tr (nI R) (nI C) (bI op) mki mel mto mio mwy (bI hwb) mme mhs mso msr mrs mce mcp) :: (mki, aI g 40 kinds) :: (mel, aI g 40 elders) :: (mto, aI g 25 tof) :: (mio, aZ g 40 iof) :: (mwy, aI g 4096 wyf) :: (mme, aZ g 36 mef) :: (mhs, aZ g 3 hsf) :: (mso, aI g 3 sof) :: (msr, aI g 3 srf) :: (mrs, aI g 12 rsf) :: (mce, aI g 480 cef) :: (mcp, aI g 40 (ovr iic (fun k => cef (160 * a + 40 * jr + i' + k)) cpf)) :: rest) [(0, .ref mo), (1, .int (nI a)), (2, .int (nI jr)), (3, .int (nI i')), (4, .int (nI b)), (5, .int (nI js)), (6, .int (nI j')), (7, .int (nI n')), (8, .int (nI lena)), (9, .int (nI lenb)), (10, .int (nI iic))] 205 [] := by
                                  intro ddc
                                  induction ddc with
                                  | zero =>
                                    intro iic hiic 
                                    have hii2c : n' = iic := by omega
                                    subst hii2c
                                    refine X_iload K0 10 dX5_copy_205 rfl ?_
                                    refine X_iload K0 7 dX5_copy_207 rfl ?_
                                    refine X_icmp_ge K0 245 dX5_copy_209 (by decide) (fun h209 => ?_) (fun h209 => ?_)
                                    · refine X_iconst (v := 0) K0 dX5_copy_245 (by decide) ?_
                                      refine X_istore (L' := [(10, .int 0), (0, .ref mo), (1, .int (nI a)), (2, .int (nI jr)), (3, .int (nI i')), (4, .int (nI b)), (5, .int (nI js)), (6, .int (nI j')), (7, .int (nI n')), (8, .int (nI lena)), (9, .int (nI lenb))]) K0 dX5_copy_246 (by decide) rfl ?_
                                      refine X.sub [1, 2, 3, 4, 5, 6, 7, 8, 9, 10, 0] (L' := [(0, .ref mo), (1, .int (nI a)), (2, .int (nI jr)), (3, .int (nI i')), (4, .int (nI b)), (5, .int (nI js)), (6, .int (nI j')), (7, .int (nI n')), (8, .int (nI lena)), (9, .int (nI lenb)), (10, .int 0)]) rfl ?_
                                      have LOOPd : ∀ (ddd iid : Nat), iid + ddd = n' → X φ 0 0 (c0 :: c1 :: c2 :: c3 :: c4 :: c5 :: c6 :: c7 :: c8 :: c9 :: c10 :: c11 :: (mo, oModel 0 0 tr (nI R) (nI C) (bI op) mki mel mto mio mwy (bI hwb) mme mhs mso msr mrs mce mcp) :: (mki, aI g 40 kinds) :: (mel, aI g 40 elders) :: (mto, aI g 25 tof) :: (mio, aZ g 40 iof) :: (mwy, aI g 4096 wyf) :: (mme, aZ g 36 mef) :: (mhs, aZ g 3 hsf) :: (mso, aI g 3 sof) :: (msr, aI g 3 srf) :: (mrs, aI g 12 rsf) :: (mce, aI g 480 (ovW (160 * b + 40 * js + j') iid (ovr n' (fun k => cef (160 * a + 40 * jr + i' + k)) cpf) cef)) :: (mcp, aI g 40 (ovr (n') (fun k => cef (160 * a + 40 * jr + i' + k)) cpf)) :: rest) [(0, .ref mo), (1, .int (nI a)), (2, .int (nI jr)), (3, .int (nI i')), (4, .int (nI b)), (5, .int (nI js)), (6, .int (nI j')), (7, .int (nI n')), (8, .int (nI lena)), (9, .int (nI lenb)), (10, .int (nI iid))] 248 [] := by
                                        intro ddd
                                        induction ddd with
                                        | zero =>
                                          intro iid hiid 
                                          have hii2d : n' = iid := by omega
                                          subst hii2d
                                          refine X_iload K0 10 dX5_copy_248 rfl ?_
                                          refine X_iload K0 7 dX5_copy_250 rfl ?_
                                          refine X_icmp_ge K0 291 dX5_copy_252 (by decide) (fun h252 => ?_) (fun h252 => ?_)
                                          · refine X_iload K0 7 dX5_copy_291 rfl ?_
                                            exact hr _ _ _ _ (Or.inr ⟨by rw [cp_at ha hb h16 h26 haba habb, cp_ok h74 hjr e5a hjs e5b hrwa hrwb, cp_y h180 h192], rfl, a, b, jr, js, i', j', n', s1a, nra, nrb, rowsa, rowsb, lena, lenb, fa, fb, _, _, ha, hb, rfl, rfl, haba, habb2, hjr, hjs, rfl, rfl, hrwa, hrwb, rfl, rfl, rfl, k1, k2, ms_copy (cp' := ovr n' (fun k => cef (160 * a + 40 * jr + i' + k)) cpf) hMS ha hb haba habb2 hjr hjs hrwa hrwb k1 k2 (fun k hk => ovr_lt hk), rfl⟩) dX5_copy_293
                                          · exact absurd (nI_le (Nat.le_refl _) (by omega)) h252
                                        | succ ddd ihd =>
                                          intro iid hiid 
                                          have hltd : iid < n' := by omega
                                          refine X_iload K0 10 dX5_copy_248 rfl ?_
                                          refine X_iload K0 7 dX5_copy_250 rfl ?_
                                          refine X_icmp_ge K0 291 dX5_copy_252 (by decide) (fun h252 => ?_) (fun h252 => ?_)
                                          · exact absurd h252 (nI_ge hltd (by omega))
                                          · refine X_aload_n K0 0 dX5_copy_255 rfl rfl ?_
                                            refine X_get K0 12 rfl rfl hin5 17 (by decide) fl_RX5_48 rfl dX5_copy_256 ?_
                                            refine X_sipush (v := 160) K0 dX5_copy_259 (by decide) ?_
                                            refine X_iload K0 4 dX5_copy_262 rfl ?_
                                            refine X_imul K0 dX5_copy_264 ?_
                                            refine X_v (z := (nI (160 * b))) (pk_mul 160 b) ?_
                                            refine X_bipush (v := 40) K0 dX5_copy_265 (by decide) ?_
                                            refine X_iload K0 5 dX5_copy_267 rfl ?_
                                            refine X_imul K0 dX5_copy_269 ?_
                                            refine X_v (z := (nI (40 * js))) (pk_mul 40 js) ?_
                                            refine X_iadd K0 dX5_copy_270 ?_
                                            refine X_v (z := (nI (160 * b + 40 * js))) (nI_add _ _) ?_
                                            refine X_iload K0 6 dX5_copy_271 rfl ?_
                                            refine X_iadd K0 dX5_copy_273 ?_
                                            refine X_v (z := (nI (160 * b + 40 * js + j'))) (nI_add _ _) ?_
                                            refine X_iload K0 10 dX5_copy_274 rfl ?_
                                            refine X_iadd K0 dX5_copy_276 ?_
                                            refine X_v (z := (nI (160 * b + 40 * js + j' + iid))) (nI_add _ _) ?_
                                            refine X_aload_n K0 0 dX5_copy_277 rfl rfl ?_
                                            refine X_get K0 12 rfl rfl hin5 18 (by decide) fl_RX5_51 rfl dX5_copy_278 ?_
                                            refine X_iload K0 10 dX5_copy_281 rfl ?_
                                            refine X_ialdN K0 24 rfl (by omega) (by first | decide | omega) dX5_copy_283 ?_
                                            refine X_iastN (w' := (c0 :: c1 :: c2 :: c3 :: c4 :: c5 :: c6 :: c7 :: c8 :: c9 :: c10 :: c11 :: (mo, oModel 0 0 tr (nI R) (nI C) (bI op) mki mel mto mio mwy (bI hwb) mme mhs mso msr mrs mce mcp) :: (mki, aI g 40 kinds) :: (mel, aI g 40 elders) :: (mto, aI g 25 tof) :: (mio, aZ g 40 iof) :: (mwy, aI g 4096 wyf) :: (mme, aZ g 36 mef) :: (mhs, aZ g 3 hsf) :: (mso, aI g 3 sof) :: (msr, aI g 3 srf) :: (mrs, aI g 12 rsf) :: (mce, aI g 480 (upd (ovW (160 * b + 40 * js + j') iid (ovr n' (fun k => cef (160 * a + 40 * jr + i' + k)) cpf) cef) (160 * b + 40 * js + j' + iid) ((ovr (n') (fun k => cef (160 * a + 40 * jr + i' + k)) cpf) iid))) :: (mcp, aI g 40 (ovr (n') (fun k => cef (160 * a + 40 * jr + i' + k)) cpf)) :: rest)) K0 23 rfl (by omega) (by first | decide | omega) dX5_copy_284 rfl ?_
                                            refine X_iinc (v := ((nI iid) + 1)) (L' := [(10, .int ((nI iid) + 1)), (0, .ref mo), (1, .int (nI a)), (2, .int (nI jr)), (3, .int (nI i')), (4, .int (nI b)), (5, .int (nI js)), (6, .int (nI j')), (7, .int (nI n')), (8, .int (nI lena)), (9, .int (nI lenb))]) K0 10 dX5_copy_285 rfl (by first | rfl | decide) (by decide) rfl ?_
                                            refine X_goto K0 248 dX5_copy_288 (by decide) ?_
                                            refine X.sub [1, 2, 3, 4, 5, 6, 7, 8, 9, 10, 0] (L' := [(0, .ref mo), (1, .int (nI a)), (2, .int (nI jr)), (3, .int (nI i')), (4, .int (nI b)), (5, .int (nI js)), (6, .int (nI j')), (7, .int (nI n')), (8, .int (nI lena)), (9, .int (nI lenb)), (10, .int ((nI iid) + 1))]) rfl ?_
                                            exact X_eq (by rw [ovW_s (160 * b + 40 * js + j') iid (ovr n' (fun k => cef (160 * a + 40 * jr + i' + k)) cpf) cef rfl]) (by rw [nI_succ] <;> rfl) rfl (ihd (iid + 1) (by omega))
                                      exact X_eq (by rw [ovW_0]) rfl rfl (LOOPd (n') 0 (by omega))
                                    · exact absurd (nI_le (Nat.le_refl _) (by omega)) h209
                                  | succ ddc ihc =>
                                    intro iic hiic 
                                    have hltc : iic < n' := by omega
                                    refine X_iload K0 10 dX5_copy_205 rfl ?_
                                    refine X_iload K0 7 dX5_copy_207 rfl ?_
                                    refine X_icmp_ge K0 245 dX5_copy_209 (by decide) (fun h209 => ?_) (fun h209 => ?_)
                                    · exact absurd h209 (nI_ge hltc (by omega))
                                    · refine X_aload_n K0 0 dX5_copy_212 rfl rfl ?_
                                      refine X_get K0 12 rfl rfl hin5 18 (by decide) fl_RX5_51 rfl dX5_copy_213 ?_
                                      refine X_iload K0 10 dX5_copy_216 rfl ?_
                                      refine X_aload_n K0 0 dX5_copy_218 rfl rfl ?_
                                      refine X_get K0 12 rfl rfl hin5 17 (by decide) fl_RX5_48 rfl dX5_copy_219 ?_
                                      refine X_sipush (v := 160) K0 dX5_copy_222 (by decide) ?_
                                      refine X_iload_n K0 1 dX5_copy_225 rfl rfl ?_
                                      refine X_imul K0 dX5_copy_226 ?_
                                      refine X_v (z := (nI (160 * a))) (pk_mul 160 a) ?_
                                      refine X_bipush (v := 40) K0 dX5_copy_227 (by decide) ?_
                                      refine X_iload_n K0 2 dX5_copy_229 rfl rfl ?_
                                      refine X_imul K0 dX5_copy_230 ?_
                                      refine X_v (z := (nI (40 * jr))) (pk_mul 40 jr) ?_
                                      refine X_iadd K0 dX5_copy_231 ?_
                                      refine X_v (z := (nI (160 * a + 40 * jr))) (nI_add _ _) ?_
                                      refine X_iload_n K0 3 dX5_copy_232 rfl rfl ?_
                                      refine X_iadd K0 dX5_copy_233 ?_
                                      refine X_v (z := (nI (160 * a + 40 * jr + i'))) (nI_add _ _) ?_
                                      refine X_iload K0 10 dX5_copy_234 rfl ?_
                                      refine X_iadd K0 dX5_copy_236 ?_
                                      refine X_v (z := (nI (160 * a + 40 * jr + i' + iic))) (nI_add _ _) ?_
                                      refine X_ialdN K0 23 rfl (by omega) (by first | decide | omega) dX5_copy_237 ?_
                                      refine X_iastN (w' := (c0 :: c1 :: c2 :: c3 :: c4 :: c5 :: c6 :: c7 :: c8 :: c9 :: c10 :: c11 :: (mo, oModel 0 0 tr (nI R) (nI C) (bI op) mki mel mto mio mwy (bI hwb) mme mhs mso msr mrs mce mcp) :: (mki, aI g 40 kinds) :: (mel, aI g 40 elders) :: (mto, aI g 25 tof) :: (mio, aZ g 40 iof) :: (mwy, aI g 4096 wyf) :: (mme, aZ g 36 mef) :: (mhs, aZ g 3 hsf) :: (mso, aI g 3 sof) :: (msr, aI g 3 srf) :: (mrs, aI g 12 rsf) :: (mce, aI g 480 cef) :: (mcp, aI g 40 (upd (ovr iic (fun k => cef (160 * a + 40 * jr + i' + k)) cpf) iic (cef (160 * a + 40 * jr + i' + iic)))) :: rest)) K0 24 rfl (by omega) (by first | decide | omega) dX5_copy_238 rfl ?_
                                      refine X_iinc (v := ((nI iic) + 1)) (L' := [(10, .int ((nI iic) + 1)), (0, .ref mo), (1, .int (nI a)), (2, .int (nI jr)), (3, .int (nI i')), (4, .int (nI b)), (5, .int (nI js)), (6, .int (nI j')), (7, .int (nI n')), (8, .int (nI lena)), (9, .int (nI lenb))]) K0 10 dX5_copy_239 rfl (by first | rfl | decide) (by decide) rfl ?_
                                      refine X_goto K0 205 dX5_copy_242 (by decide) ?_
                                      refine X.sub [1, 2, 3, 4, 5, 6, 7, 8, 9, 10, 0] (L' := [(0, .ref mo), (1, .int (nI a)), (2, .int (nI jr)), (3, .int (nI i')), (4, .int (nI b)), (5, .int (nI js)), (6, .int (nI j')), (7, .int (nI n')), (8, .int (nI lena)), (9, .int (nI lenb)), (10, .int ((nI iic) + 1))]) rfl ?_
                                      exact X_eq (by rw [ovr_s iic (fun k => cef (160 * a + 40 * jr + i' + k)) cpf rfl]) (by rw [nI_succ] <;> rfl) rfl (ihc (iic + 1) (by omega))
                                exact X_eq (by rw [ovr_0]) rfl rfl (LOOPc (n') 0 (by omega))
                              · refine X_aload_n K0 2 dX5_copy_195 rfl rfl ?_
                                refine X_bipush (v := (-12)) K0 dX5_copy_196 (by decide) ?_
                                refine X_callV (As := [.int (-12)]) (rest := []) K0 12 (m_no g c0 c1 c2 c3 c4 c5 c6 c7 c8 c9 c10 c11 mo mki mel mto mio mwy mme mhs mso msr mrs mce mcp 0 0 tr R C op hwb kinds elders tof iof wyf mef hsf sof srf rsf cef cpf rest (-12)) mi_X5_no rfl rfl rfl ml_RX5_178 rfl (Nat.le_of_ble_eq_true rfl) (by decide) ⟨Nat.le_of_ble_eq_true rfl, Nat.le_of_ble_eq_true rfl⟩ rfl rfl dX5_copy_198 ?_
                                intro v w' hr'; obtain ⟨rfl, rfl⟩ := hr'
                                show X φ 0 0 (c0 :: c1 :: c2 :: c3 :: c4 :: c5 :: c6 :: c7 :: c8 :: c9 :: c10 :: c11 :: (mo, oModel 0 (-12) tr (nI R) (nI C) (bI op) mki mel mto mio mwy (bI hwb) mme mhs mso msr mrs mce mcp) :: (mki, aI g 40 kinds) :: (mel, aI g 40 elders) :: (mto, aI g 25 tof) :: (mio, aZ g 40 iof) :: (mwy, aI g 4096 wyf) :: (mme, aZ g 36 mef) :: (mhs, aZ g 3 hsf) :: (mso, aI g 3 sof) :: (msr, aI g 3 srf) :: (mrs, aI g 12 rsf) :: (mce, aI g 480 cef) :: (mcp, aI g 40 cpf) :: rest) [(9, .int (nI lenb)), (8, .int (nI lena)), (0, .ref mo), (1, .int (nI a)), (2, .int (nI jr)), (3, .int i), (4, .int (nI b)), (5, .int (nI js)), (6, .int j2), (7, .int n)] 201 [.int (-12)]
                                exact hr _ _ _ _ (Or.inl (by rw [show (cpD abs (nI a) (nI jr) i (nI b) (nI js) j2 n) = -12 by first | (rw [cp_at ha hb h16 h26 haba habb, cp_ok h74 hjr e5a hjs e5b hrwa hrwb, cp_n1 h180]) | (rw [cp_at ha hb h16 h26 haba habb, cp_ok h74 hjr e5a hjs e5b hrwa hrwb, cp_n2 h192])]; exact ⟨by decide, rfl, rfl⟩)) dX5_copy_201
                          · exact absurd h162 (nI_n9 (by omega))
                  · refine X_aload_n K0 0 dX5_copy_118 rfl rfl ?_
                    refine X_bipush (v := (-12)) K0 dX5_copy_119 (by decide) ?_
                    refine X_callV (As := [.int (-12)]) (rest := []) K0 12 (m_no g c0 c1 c2 c3 c4 c5 c6 c7 c8 c9 c10 c11 mo mki mel mto mio mwy mme mhs mso msr mrs mce mcp 0 0 tr R C op hwb kinds elders tof iof wyf mef hsf sof srf rsf cef cpf rest (-12)) mi_X5_no rfl rfl rfl ml_RX5_178 rfl (Nat.le_of_ble_eq_true rfl) (by decide) ⟨Nat.le_of_ble_eq_true rfl, Nat.le_of_ble_eq_true rfl⟩ rfl rfl dX5_copy_121 ?_
                    intro v w' hr'; obtain ⟨rfl, rfl⟩ := hr'
                    show X φ 0 0 (c0 :: c1 :: c2 :: c3 :: c4 :: c5 :: c6 :: c7 :: c8 :: c9 :: c10 :: c11 :: (mo, oModel 0 (-12) tr (nI R) (nI C) (bI op) mki mel mto mio mwy (bI hwb) mme mhs mso msr mrs mce mcp) :: (mki, aI g 40 kinds) :: (mel, aI g 40 elders) :: (mto, aI g 25 tof) :: (mio, aZ g 40 iof) :: (mwy, aI g 4096 wyf) :: (mme, aZ g 36 mef) :: (mhs, aZ g 3 hsf) :: (mso, aI g 3 sof) :: (msr, aI g 3 srf) :: (mrs, aI g 12 rsf) :: (mce, aI g 480 cef) :: (mcp, aI g 40 cpf) :: rest) [(0, .ref mo), (1, .int (nI a)), (2, .int r), (3, .int i), (4, .int (nI b)), (5, .int s), (6, .int j2), (7, .int n)] 124 [.int (-12)]
                    exact hr _ _ _ _ (Or.inl (by rw [show (cpD abs (nI a) r i (nI b) s j2 n) = -12 by first | (rw [cp_at ha hb h16 h26 haba habb, cp_r1 h74 (hr0 e5a h97)]) | (rw [cp_at ha hb h16 h26 haba habb, cp_r2 h74 (hr0 e5b h115)])]; exact ⟨by decide, rfl, rfl⟩)) dX5_copy_124
              · refine X_aload_n K0 0 dX5_copy_77 rfl rfl ?_
                refine X_bipush (v := (-13)) K0 dX5_copy_78 (by decide) ?_
                refine X_callV (As := [.int (-13)]) (rest := []) K0 12 (m_no g c0 c1 c2 c3 c4 c5 c6 c7 c8 c9 c10 c11 mo mki mel mto mio mwy mme mhs mso msr mrs mce mcp 0 0 tr R C op hwb kinds elders tof iof wyf mef hsf sof srf rsf cef cpf rest (-13)) mi_X5_no rfl rfl rfl ml_RX5_178 rfl (Nat.le_of_ble_eq_true rfl) (by decide) ⟨Nat.le_of_ble_eq_true rfl, Nat.le_of_ble_eq_true rfl⟩ rfl rfl dX5_copy_80 ?_
                intro v w' hr'; obtain ⟨rfl, rfl⟩ := hr'
                show X φ 0 0 (c0 :: c1 :: c2 :: c3 :: c4 :: c5 :: c6 :: c7 :: c8 :: c9 :: c10 :: c11 :: (mo, oModel 0 (-13) tr (nI R) (nI C) (bI op) mki mel mto mio mwy (bI hwb) mme mhs mso msr mrs mce mcp) :: (mki, aI g 40 kinds) :: (mel, aI g 40 elders) :: (mto, aI g 25 tof) :: (mio, aZ g 40 iof) :: (mwy, aI g 4096 wyf) :: (mme, aZ g 36 mef) :: (mhs, aZ g 3 hsf) :: (mso, aI g 3 sof) :: (msr, aI g 3 srf) :: (mrs, aI g 12 rsf) :: (mce, aI g 480 cef) :: (mcp, aI g 40 cpf) :: rest) [(0, .ref mo), (1, .int (nI a)), (2, .int r), (3, .int i), (4, .int (nI b)), (5, .int s), (6, .int j2), (7, .int n)] 83 [.int (-13)]
                exact hr _ _ _ _ (Or.inl (by rw [show (cpD abs (nI a) r i (nI b) s j2 n) = -13 by rw [cp_at ha hb h16 h26 haba habb, cp_c h74]]; exact ⟨by decide, rfl, rfl⟩)) dX5_copy_83
            · exact absurd h51 (by decide)
    · refine X_aload_n K0 0 dX5_copy_29 rfl rfl ?_
      refine X_iconst (v := (-1)) K0 dX5_copy_30 (by decide) ?_
      refine X_callV (As := [.int (-1)]) (rest := []) K0 12 (m_no g c0 c1 c2 c3 c4 c5 c6 c7 c8 c9 c10 c11 mo mki mel mto mio mwy mme mhs mso msr mrs mce mcp 0 0 tr R C op hwb kinds elders tof iof wyf mef hsf sof srf rsf cef cpf rest (-1)) mi_X5_no rfl rfl rfl ml_RX5_178 rfl (Nat.le_of_ble_eq_true rfl) (by decide) ⟨Nat.le_of_ble_eq_true rfl, Nat.le_of_ble_eq_true rfl⟩ rfl rfl dX5_copy_31 ?_
      intro v w' hr'; obtain ⟨rfl, rfl⟩ := hr'
      show X φ 0 0 (c0 :: c1 :: c2 :: c3 :: c4 :: c5 :: c6 :: c7 :: c8 :: c9 :: c10 :: c11 :: (mo, oModel 0 (-1) tr (nI R) (nI C) (bI op) mki mel mto mio mwy (bI hwb) mme mhs mso msr mrs mce mcp) :: (mki, aI g 40 kinds) :: (mel, aI g 40 elders) :: (mto, aI g 25 tof) :: (mio, aZ g 40 iof) :: (mwy, aI g 4096 wyf) :: (mme, aZ g 36 mef) :: (mhs, aZ g 3 hsf) :: (mso, aI g 3 sof) :: (msr, aI g 3 srf) :: (mrs, aI g 12 rsf) :: (mce, aI g 480 cef) :: (mcp, aI g 40 cpf) :: rest) [(0, .ref mo), (1, .int x), (2, .int r), (3, .int i), (4, .int o2), (5, .int s), (6, .int j2), (7, .int n)] 34 [.int (-1)]
      exact hr _ _ _ _ (Or.inl (by rw [show (cpD abs x r i o2 s j2 n) = -1 by first | exact cp_b1 h16 | exact cp_b2 h26]; exact ⟨by decide, rfl, rfl⟩)) dX5_copy_34
