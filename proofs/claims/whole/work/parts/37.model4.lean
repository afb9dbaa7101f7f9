set_option maxRecDepth 20000 in
set_option maxHeartbeats 400000 in
theorem m_isThrough0 (g : Gx) (c0 c1 c2 c3 c4 c5 c6 c7 c8 c9 c10 c11 : Nat × va_E) (mo mki mel mto mio mwy mme mhs mso msr mrs mce mcp : Nat) (tn stt : Int32) (tr : Int64) (R C : Nat) (op hwb : Bool) (kinds elders tof iof wyf mef hsf sof srf rsf cef cpf : Nat → Int32) (rest : va_W) (hR : 1 ≤ R ∧ R ≤ 5) (hC : 1 ≤ C ∧ C ≤ 5) (hf : Nat → Int32) (hJ : JH tof (R * C) hf) : Con g yX5_isThrough cX5_isThrough 6 (some .boolean) 2 43 0 0 [.ref mo, .int 0] (c0 :: c1 :: c2 :: c3 :: c4 :: c5 :: c6 :: c7 :: c8 :: c9 :: c10 :: c11 :: (mo, oModel tn stt tr (nI R) (nI C) (bI op) mki mel mto mio mwy (bI hwb) mme mhs mso msr mrs mce mcp) :: (mki, aI g 40 kinds) :: (mel, aI g 40 elders) :: (mto, aI g 25 tof) :: (mio, aZ g 40 iof) :: (mwy, aI g 4096 wyf) :: (mme, aZ g 36 mef) :: (mhs, aZ g 3 hsf) :: (mso, aI g 3 sof) :: (msr, aI g 3 srf) :: (mrs, aI g 12 rsf) :: (mce, aI g 480 cef) :: (mcp, aI g 40 cpf) :: rest) (Rs (some (.int (bI (thr0 R C hf)))) (c0 :: c1 :: c2 :: c3 :: c4 :: c5 :: c6 :: c7 :: c8 :: c9 :: c10 :: c11 :: (mo, oModel tn stt tr (nI R) (nI C) (bI op) mki mel mto mio mwy (bI hwb) mme mhs mso msr mrs mce mcp) :: (mki, aI g 40 kinds) :: (mel, aI g 40 elders) :: (mto, aI g 25 tof) :: (mio, aZ g 40 iof) :: (mwy, aI g 4096 wyf) :: (mme, aZ g 36 mef) :: (mhs, aZ g 3 hsf) :: (mso, aI g 3 sof) :: (msr, aI g 3 srf) :: (mrs, aI g 12 rsf) :: (mce, aI g 480 cef) :: (mcp, aI g 40 cpf) :: rest)) := by
  have hTM := th_M (op := op) hR hC
  have hPM := pl_M hR hC
  have hRM := rd_M hR hC
  refine Con.ofZ (by decide +kernel) (Nat.le_of_ble_eq_true rfl) (fun φ K0 hr => ?_)
  show X φ 0 0 (c0 :: c1 :: c2 :: c3 :: c4 :: c5 :: c6 :: c7 :: c8 :: c9 :: c10 :: c11 :: (mo, oModel tn stt tr (nI R) (nI C) (bI op) mki mel mto mio mwy (bI hwb) mme mhs mso msr mrs mce mcp) :: (mki, aI g 40 kinds) :: (mel, aI g 40 elders) :: (mto, aI g 25 tof) :: (mio, aZ g 40 iof) :: (mwy, aI g 4096 wyf) :: (mme, aZ g 36 mef) :: (mhs, aZ g 3 hsf) :: (mso, aI g 3 sof) :: (msr, aI g 3 srf) :: (mrs, aI g 12 rsf) :: (mce, aI g 480 cef) :: (mcp, aI g 40 cpf) :: rest) [(0, .ref mo), (1, .int 0)] 0 []
  refine X_iconst (v := 0) K0 dX5_isThrough_0 (by decide) ?_
  refine X_istore_n (L' := [(2, .int 0), (0, .ref mo), (1, .int 0)]) K0 dX5_isThrough_1 rfl (by decide) rfl ?_
  refine X.sub [1, 2, 0] (L' := [(0, .ref mo), (1, .int 0), (2, .int 0)]) rfl ?_
  have LOOPa : ∀ (dda iia : Nat), iia + dda = R → (∀ t, t < iia → anF (fun j => eqH hf (t * C) (j * C + C - 1)) R = false) → X φ 0 0 (c0 :: c1 :: c2 :: c3 :: c4 :: c5 :: c6 :: c7 :: c8 :: c9 :: c10 :: c11 :: (mo, oModel tn stt tr (nI R) (nI C) (bI op) mki mel mto mio mwy (bI hwb) mme mhs mso msr mrs mce mcp) :: (mki, aI g 40 kinds) :: (mel, aI g 40 elders) :: (mto, aI g 25 tof) :: (mio, aZ g 40 iof) :: (mwy, aI g 4096 wyf) :: (mme, aZ g 36 mef) :: (mhs, aZ g 3 hsf) :: (mso, aI g 3 sof) :: (msr, aI g 3 srf) :: (mrs, aI g 12 rsf) :: (mce, aI g 480 cef) :: (mcp, aI g 40 cpf) :: rest) [(0, .ref mo), (1, .int 0), (2, .int (nI iia))] 2 [] := by
    intro dda
    induction dda with
    | zero =>
      intro iia hiia hnoa
      have hii2a : R = iia := by omega
      subst hii2a
      refine X_iload_n K0 2 dX5_isThrough_2 rfl rfl ?_
      refine X_iload_n K0 1 dX5_isThrough_3 rfl rfl ?_
      refine X_if_ne K0 14 dX5_isThrough_4 (by decide) (fun h4 => ?_) (fun h4 => ?_)
      · exact absurd rfl h4
      · refine X_aload_n K0 0 dX5_isThrough_7 rfl rfl ?_
        refine X_get K0 12 rfl rfl hin5 3 (by decide) fl_RX5_7 rfl dX5_isThrough_8 ?_
        refine X_goto K0 18 dX5_isThrough_11 (by decide) ?_
        refine X_icmp_ge K0 129 dX5_isThrough_18 (by decide) (fun h18 => ?_) (fun h18 => ?_)
        · refine X_iconst (v := 0) K0 dX5_isThrough_129 (by decide) ?_
          exact hr _ _ _ _ ⟨by rw [show thr0 R C hf = false from an_no hnoa]; rfl, rfl⟩ (by first | exact Or.inl rfl | exact Or.inr rfl) dX5_isThrough_130
        · exact absurd (nI_le (Nat.le_refl _) (by omega)) h18
    | succ dda iha =>
      intro iia hiia hnoa
      have hlta : iia < R := by omega
      refine X_iload_n K0 2 dX5_isThrough_2 rfl rfl ?_
      refine X_iload_n K0 1 dX5_isThrough_3 rfl rfl ?_
      refine X_if_ne K0 14 dX5_isThrough_4 (by decide) (fun h4 => ?_) (fun h4 => ?_)
      · exact absurd rfl h4
      · refine X_aload_n K0 0 dX5_isThrough_7 rfl rfl ?_
        refine X_get K0 12 rfl rfl hin5 3 (by decide) fl_RX5_7 rfl dX5_isThrough_8 ?_
        refine X_goto K0 18 dX5_isThrough_11 (by decide) ?_
        refine X_icmp_ge K0 129 dX5_isThrough_18 (by decide) (fun h18 => ?_) (fun h18 => ?_)
        · exact absurd h18 (nI_ge hlta (by omega))
        · refine X_iconst (v := 0) K0 dX5_isThrough_21 (by decide) ?_
          refine X_istore_n (L' := [(3, .int 0), (0, .ref mo), (1, .int 0), (2, .int (nI iia))]) K0 dX5_isThrough_22 rfl (by decide) rfl ?_
          refine X.sub [1, 2, 3, 0] (L' := [(0, .ref mo), (1, .int 0), (2, .int (nI iia)), (3, .int 0)]) rfl ?_
          have LOOPb : ∀ (ddb iib : Nat), iib + ddb = R → (∀ t, t < iib → eqH hf (iia * C) (t * C + C - 1) = false) → X φ 0 0 (c0 :: c1 :: c2 :: c3 :: c4 :: c5 :: c6 :: c7 :: c8 :: c9 :: c10 :: c11 :: (mo, oModel tn stt tr (nI R) (nI C) (bI op) mki mel mto mio mwy (bI hwb) mme mhs mso msr mrs mce mcp) :: (mki, aI g 40 kinds) :: (mel, aI g 40 elders) :: (mto, aI g 25 tof) :: (mio, aZ g 40 iof) :: (mwy, aI g 4096 wyf) :: (mme, aZ g 36 mef) :: (mhs, aZ g 3 hsf) :: (mso, aI g 3 sof) :: (msr, aI g 3 srf) :: (mrs, aI g 12 rsf) :: (mce, aI g 480 cef) :: (mcp, aI g 40 cpf) :: rest) [(0, .ref mo), (1, .int 0), (2, .int (nI iia)), (3, .int (nI iib))] 23 [] := by
            intro ddb
            induction ddb with
            | zero =>
              intro iib hiib hnob
              have hii2b : R = iib := by omega
              subst hii2b
              refine X_iload_n K0 3 dX5_isThrough_23 rfl rfl ?_
              refine X_iload_n K0 1 dX5_isThrough_24 rfl rfl ?_
              refine X_if_ne K0 35 dX5_isThrough_25 (by decide) (fun h25 => ?_) (fun h25 => ?_)
              · exact absurd rfl h25
              · refine X_aload_n K0 0 dX5_isThrough_28 rfl rfl ?_
                refine X_get K0 12 rfl rfl hin5 3 (by decide) fl_RX5_7 rfl dX5_isThrough_29 ?_
                refine X_goto K0 39 dX5_isThrough_32 (by decide) ?_
                refine X_icmp_ge K0 123 dX5_isThrough_39 (by decide) (fun h39 => ?_) (fun h39 => ?_)
                · refine X_iinc (v := ((nI iia) + 1)) (L' := [(2, .int ((nI iia) + 1)), (0, .ref mo), (1, .int 0), (3, .int (nI R))]) K0 2 dX5_isThrough_123 rfl (by first | rfl | decide) (by decide) rfl ?_
                  refine X_goto K0 2 dX5_isThrough_126 (by decide) ?_
                  refine X.sub [1, 2, 0] (L' := [(0, .ref mo), (1, .int 0), (2, .int ((nI iia) + 1))]) rfl ?_
                  exact X_eq rfl (by rw [nI_succ] <;> rfl) rfl (iha (iia + 1) (by omega) (lt_s hnoa (an_no hnob)))
                · exact absurd (nI_le (Nat.le_refl _) (by omega)) h39
            | succ ddb ihb =>
              intro iib hiib hnob
              have hltb : iib < R := by omega
              refine X_iload_n K0 3 dX5_isThrough_23 rfl rfl ?_
              refine X_iload_n K0 1 dX5_isThrough_24 rfl rfl ?_
              refine X_if_ne K0 35 dX5_isThrough_25 (by decide) (fun h25 => ?_) (fun h25 => ?_)
              · exact absurd rfl h25
              · refine X_aload_n K0 0 dX5_isThrough_28 rfl rfl ?_
                refine X_get K0 12 rfl rfl hin5 3 (by decide) fl_RX5_7 rfl dX5_isThrough_29 ?_
                refine X_goto K0 39 dX5_isThrough_32 (by decide) ?_
                refine X_icmp_ge K0 123 dX5_isThrough_39 (by decide) (fun h39 => ?_) (fun h39 => ?_)
                · exact absurd h39 (nI_ge hltb (by omega))
                · refine X_aload_n K0 0 dX5_isThrough_42 rfl rfl ?_
                  refine X_iload_n K0 1 dX5_isThrough_43 rfl rfl ?_
                  refine X_if_ne K0 56 dX5_isThrough_44 (by decide) (fun h44 => ?_) (fun h44 => ?_)
                  · exact absurd rfl h44
                  · refine X_iload_n K0 2 dX5_isThrough_47 rfl rfl ?_
                    refine X_aload_n K0 0 dX5_isThrough_48 rfl rfl ?_
                    refine X_get K0 12 rfl rfl hin5 4 (by decide) fl_RX5_13 rfl dX5_isThrough_49 ?_
                    refine X_imul K0 dX5_isThrough_52 ?_
                    refine X_v (z := (nI (iia * C))) (pk_mul _ _) ?_
                    refine X_goto K0 57 dX5_isThrough_53 (by decide) ?_
                    refine X_callV (As := [.int (nI (iia * C))]) (rest := []) K0 12 (m_heapOf g c0 c1 c2 c3 c4 c5 c6 c7 c8 c9 c10 c11 mo mki mel mto mio mwy mme mhs mso msr mrs mce mcp tn stt tr R C op hwb kinds elders tof iof wyf mef hsf sof srf rsf cef cpf rest (pl_M hR hC) hf hJ (iia * C) (mulC_lt hlta hC.1)) mi_X5_heapOf rfl rfl rfl ml_RX5_129 rfl (Nat.le_of_ble_eq_true rfl) (by decide) ⟨Nat.le_of_ble_eq_true rfl, Nat.le_of_ble_eq_true rfl⟩ rfl rfl dX5_isThrough_57 ?_
                    intro v w' hr'; obtain ⟨rfl, rfl⟩ := hr'
                    show X φ 0 0 (c0 :: c1 :: c2 :: c3 :: c4 :: c5 :: c6 :: c7 :: c8 :: c9 :: c10 :: c11 :: (mo, oModel tn stt tr (nI R) (nI C) (bI op) mki mel mto mio mwy (bI hwb) mme mhs mso msr mrs mce mcp) :: (mki, aI g 40 kinds) :: (mel, aI g 40 elders) :: (mto, aI g 25 tof) :: (mio, aZ g 40 iof) :: (mwy, aI g 4096 wyf) :: (mme, aZ g 36 mef) :: (mhs, aZ g 3 hsf) :: (mso, aI g 3 sof) :: (msr, aI g 3 srf) :: (mrs, aI g 12 rsf) :: (mce, aI g 480 cef) :: (mcp, aI g 40 cpf) :: rest) [(0, .ref mo), (1, .int 0), (2, .int (nI iia)), (3, .int (nI iib))] 60 [.int (hf (iia * C))]
                    refine X_istore (L' := [(4, .int (hf (iia * C))), (0, .ref mo), (1, .int 0), (2, .int (nI iia)), (3, .int (nI iib))]) K0 dX5_isThrough_60 (by decide) rfl ?_
                    refine X_aload_n K0 1 dX5_isThrough_62 rfl rfl ?_
                    refine X_iload_n K0 2 dX5_isThrough_63 rfl rfl ?_
                    refine X_if_ne K0 83 dX5_isThrough_64 (by decide) (fun h64 => ?_) (fun h64 => ?_)
                    · exact absurd rfl h64
                    · refine X_iload_n K0 4 dX5_isThrough_67 rfl rfl ?_
                      refine X_aload_n K0 1 dX5_isThrough_68 rfl rfl ?_
                      refine X_get K0 12 rfl rfl hin5 4 (by decide) fl_RX5_13 rfl dX5_isThrough_69 ?_
                      refine X_imul K0 dX5_isThrough_72 ?_
                      refine X_v (z := (nI (iib * C))) (pk_mul _ _) ?_
                      refine X_aload_n K0 1 dX5_isThrough_73 rfl rfl ?_
                      refine X_get K0 12 rfl rfl hin5 4 (by decide) fl_RX5_13 rfl dX5_isThrough_74 ?_
                      refine X_iadd K0 dX5_isThrough_77 ?_
                      refine X_v (z := (nI (iib * C + C))) (nI_add _ _) ?_
                      refine X_iconst (v := 1) K0 dX5_isThrough_78 (by decide) ?_
                      refine X_isub K0 dX5_isThrough_79 ?_
                      refine X_v (z := (nI (iib * C + C - 1))) (nI_sub1 (by omega)) ?_
                      refine X_goto K0 96 dX5_isThrough_80 (by decide) ?_
                      refine X_callV (As := [.int (nI (iib * C + C - 1))]) (rest := []) K0 12 (m_heapOf g c0 c1 c2 c3 c4 c5 c6 c7 c8 c9 c10 c11 mo mki mel mto mio mwy mme mhs mso msr mrs mce mcp tn stt tr R C op hwb kinds elders tof iof wyf mef hsf sof srf rsf cef cpf rest (pl_M hR hC) hf hJ (iib * C + C - 1) (mulC_lt2 hltb hC.1)) mi_X5_heapOf rfl rfl rfl ml_RX5_129 rfl (Nat.le_of_ble_eq_true rfl) (by decide) ⟨Nat.le_of_ble_eq_true rfl, Nat.le_of_ble_eq_true rfl⟩ rfl rfl dX5_isThrough_96 ?_
                      intro v w' hr'; obtain ⟨rfl, rfl⟩ := hr'
                      show X φ 0 0 (c0 :: c1 :: c2 :: c3 :: c4 :: c5 :: c6 :: c7 :: c8 :: c9 :: c10 :: c11 :: (mo, oModel tn stt tr (nI R) (nI C) (bI op) mki mel mto mio mwy (bI hwb) mme mhs mso msr mrs mce mcp) :: (mki, aI g 40 kinds) :: (mel, aI g 40 elders) :: (mto, aI g 25 tof) :: (mio, aZ g 40 iof) :: (mwy, aI g 4096 wyf) :: (mme, aZ g 36 mef) :: (mhs, aZ g 3 hsf) :: (mso, aI g 3 sof) :: (msr, aI g 3 srf) :: (mrs, aI g 12 rsf) :: (mce, aI g 480 cef) :: (mcp, aI g 40 cpf) :: rest) [(4, .int (hf (iia * C))), (0, .ref mo), (1, .int 0), (2, .int (nI iia)), (3, .int (nI iib))] 99 [.int (hf (iib * C + C - 1))]
                      refine X_istore (L' := [(5, .int (hf (iib * C + C - 1))), (4, .int (hf (iia * C))), (0, .ref mo), (1, .int 0), (2, .int (nI iia)), (3, .int (nI iib))]) K0 dX5_isThrough_99 (by decide) rfl ?_
                      refine X_iload K0 1 dX5_isThrough_101 rfl ?_
                      refine X_bipush (v := (-9)) K0 dX5_isThrough_103 (by decide) ?_
                      refine X_icmp_eq K0 117 dX5_isThrough_105 (by decide) (fun h105 => ?_) (fun h105 => ?_)
                      · refine X_iinc (v := ((nI iib) + 1)) (L' := [(3, .int ((nI iib) + 1)), (5, .int (hf (iib * C + C - 1))), (4, .int (hf (iia * C))), (0, .ref mo), (1, .int 0), (2, .int (nI iia))]) K0 5 dX5_isThrough_117 rfl (by first | rfl | decide) (by decide) rfl ?_
                        refine X_goto K0 23 dX5_isThrough_120 (by decide) ?_
                        refine X.sub [3, 4, 5, 0] (L' := [(0, .ref mo), (1, .int 0), (2, .int (nI iia)), (3, .int ((nI iib) + 1))]) rfl ?_
                        exact X_eq rfl (by rw [nI_succ] <;> rfl) rfl (ihb (iib + 1) (by omega) (lt_s hnob (by first | exact eq_n1 h105 | exact eq_n2 h112)))
                      · refine X_iload K0 1 dX5_isThrough_108 rfl ?_
                        refine X_iload K0 0 dX5_isThrough_110 rfl ?_
                        refine X_icmp_ne K0 117 dX5_isThrough_112 (by decide) (fun h112 => ?_) (fun h112 => ?_)
                        · refine X_iinc (v := ((nI iib) + 1)) (L' := [(3, .int ((nI iib) + 1)), (5, .int (hf (iib * C + C - 1))), (4, .int (hf (iia * C))), (0, .ref mo), (1, .int 0), (2, .int (nI iia))]) K0 5 dX5_isThrough_117 rfl (by first | rfl | decide) (by decide) rfl ?_
                          refine X_goto K0 23 dX5_isThrough_120 (by decide) ?_
                          refine X.sub [3, 4, 5, 0] (L' := [(0, .ref mo), (1, .int 0), (2, .int (nI iia)), (3, .int ((nI iib) + 1))]) rfl ?_
                          exact X_eq rfl (by rw [nI_succ] <;> rfl) rfl (ihb (iib + 1) (by omega) (lt_s hnob (by first | exact eq_n1 h105 | exact eq_n2 h112)))
                        · refine X_iconst (v := 1) K0 dX5_isThrough_115 (by decide) ?_
                          exact hr _ _ _ _ ⟨by rw [show thr0 R C hf = true from an_yes hlta (an_yes hltb (eq_y h105 h112))]; rfl, rfl⟩ (by first | exact Or.inl rfl | exact Or.inr rfl) dX5_isThrough_116
          exact LOOPb R 0 (by omega) (fun t h => absurd h (Nat.not_lt_zero t))
  exact LOOPa R 0 (by omega) (fun t h => absurd h (Nat.not_lt_zero t))

set_option maxRecDepth 20000 in
set_option maxHeartbeats 400000 in
theorem m_isThrough1 (g : Gx) (c0 c1 c2 c3 c4 c5 c6 c7 c8 c9 c10 c11 : Nat × va_E) (mo mki mel mto mio mwy mme mhs mso msr mrs mce mcp : Nat) (tn stt : Int32) (tr : Int64) (R C : Nat) (op hwb : Bool) (kinds elders tof iof wyf mef hsf sof srf rsf cef cpf : Nat → Int32) (rest : va_W) (hR : 1 ≤ R ∧ R ≤ 5) (hC : 1 ≤ C ∧ C ≤ 5) (hf : Nat → Int32) (hJ : JH tof (R * C) hf) : Con g yX5_isThrough cX5_isThrough 6 (some .boolean) 2 43 0 0 [.ref mo, .int 1] (c0 :: c1 :: c2 :: c3 :: c4 :: c5 :: c6 :: c7 :: c8 :: c9 :: c10 :: c11 :: (mo, oModel tn stt tr (nI R) (nI C) (bI op) mki mel mto mio mwy (bI hwb) mme mhs mso msr mrs mce mcp) :: (mki, aI g 40 kinds) :: (mel, aI g 40 elders) :: (mto, aI g 25 tof) :: (mio, aZ g 40 iof) :: (mwy, aI g 4096 wyf) :: (mme, aZ g 36 mef) :: (mhs, aZ g 3 hsf) :: (mso, aI g 3 sof) :: (msr, aI g 3 srf) :: (mrs, aI g 12 rsf) :: (mce, aI g 480 cef) :: (mcp, aI g 40 cpf) :: rest) (Rs (some (.int (bI (thr1 R C hf)))) (c0 :: c1 :: c2 :: c3 :: c4 :: c5 :: c6 :: c7 :: c8 :: c9 :: c10 :: c11 :: (mo, oModel tn stt tr (nI R) (nI C) (bI op) mki mel mto mio mwy (bI hwb) mme mhs mso msr mrs mce mcp) :: (mki, aI g 40 kinds) :: (mel, aI g 40 elders) :: (mto, aI g 25 tof) :: (mio, aZ g 40 iof) :: (mwy, aI g 4096 wyf) :: (mme, aZ g 36 mef) :: (mhs, aZ g 3 hsf) :: (mso, aI g 3 sof) :: (msr, aI g 3 srf) :: (mrs, aI g 12 rsf) :: (mce, aI g 480 cef) :: (mcp, aI g 40 cpf) :: rest)) := by
  have hTM := th_M (op := op) hR hC
  have hPM := pl_M hR hC
  have hRM := rd_M hR hC
  refine Con.ofZ (by decide +kernel) (Nat.le_of_ble_eq_true rfl) (fun φ K0 hr => ?_)
  show X φ 0 0 (c0 :: c1 :: c2 :: c3 :: c4 :: c5 :: c6 :: c7 :: c8 :: c9 :: c10 :: c11 :: (mo, oModel tn stt tr (nI R) (nI C) (bI op) mki mel mto mio mwy (bI hwb) mme mhs mso msr mrs mce mcp) :: (mki, aI g 40 kinds) :: (mel, aI g 40 elders) :: (mto, aI g 25 tof) :: (mio, aZ g 40 iof) :: (mwy, aI g 4096 wyf) :: (mme, aZ g 36 mef) :: (mhs, aZ g 3 hsf) :: (mso, aI g 3 sof) :: (msr, aI g 3 srf) :: (mrs, aI g 12 rsf) :: (mce, aI g 480 cef) :: (mcp, aI g 40 cpf) :: rest) [(0, .ref mo), (1, .int 1)] 0 []
  refine X_iconst (v := 0) K0 dX5_isThrough_0 (by decide) ?_
  refine X_istore_n (L' := [(2, .int 0), (0, .ref mo), (1, .int 1)]) K0 dX5_isThrough_1 rfl (by decide) rfl ?_
  refine X.sub [1, 2, 0] (L' := [(0, .ref mo), (1, .int 1), (2, .int 0)]) rfl ?_
  have LOOPa : ∀ (dda iia : Nat), iia + dda = C → (∀ t, t < iia → anF (fun j => eqH hf t ((R - 1) * C + j)) C = false) → X φ 0 0 (c0 :: c1 :: c2 :: c3 :: c4 :: c5 :: c6 :: c7 :: c8 :: c9 :: c10 :: c11 :: (mo, oModel tn stt tr (nI R) (nI C) (bI op) mki mel mto mio mwy (bI hwb) mme mhs mso msr mrs mce mcp) :: (mki, aI g 40 kinds) :: (mel, aI g 40 elders) :: (mto, aI g 25 tof) :: (mio, aZ g 40 iof) :: (mwy, aI g 4096 wyf) :: (mme, aZ g 36 mef) :: (mhs, aZ g 3 hsf) :: (mso, aI g 3 sof) :: (msr, aI g 3 srf) :: (mrs, aI g 12 rsf) :: (mce, aI g 480 cef) :: (mcp, aI g 40 cpf) :: rest) [(0, .ref mo), (1, .int 1), (2, .int (nI iia))] 2 [] := by
    intro dda
    induction dda with
    | zero =>
      intro iia hiia hnoa
      have hii2a : C = iia := by omega
      subst hii2a
      refine X_iload_n K0 2 dX5_isThrough_2 rfl rfl ?_
      refine X_iload_n K0 1 dX5_isThrough_3 rfl rfl ?_
      refine X_if_ne K0 14 dX5_isThrough_4 (by decide) (fun h4 => ?_) (fun h4 => ?_)
      · refine X_aload_n K0 0 dX5_isThrough_14 rfl rfl ?_
        refine X_get K0 12 rfl rfl hin5 4 (by decide) fl_RX5_13 rfl dX5_isThrough_15 ?_
        refine X_icmp_ge K0 129 dX5_isThrough_18 (by decide) (fun h18 => ?_) (fun h18 => ?_)
        · refine X_iconst (v := 0) K0 dX5_isThrough_129 (by decide) ?_
          exact hr _ _ _ _ ⟨by rw [show thr1 R C hf = false from an_no hnoa]; rfl, rfl⟩ (by first | exact Or.inl rfl | exact Or.inr rfl) dX5_isThrough_130
        · exact absurd (nI_le (Nat.le_refl _) (by omega)) h18
      · exact absurd h4 (by decide)
    | succ dda iha =>
      intro iia hiia hnoa
      have hlta : iia < C := by omega
      refine X_iload_n K0 2 dX5_isThrough_2 rfl rfl ?_
      refine X_iload_n K0 1 dX5_isThrough_3 rfl rfl ?_
      refine X_if_ne K0 14 dX5_isThrough_4 (by decide) (fun h4 => ?_) (fun h4 => ?_)
      · refine X_aload_n K0 0 dX5_isThrough_14 rfl rfl ?_
        refine X_get K0 12 rfl rfl hin5 4 (by decide) fl_RX5_13 rfl dX5_isThrough_15 ?_
        refine X_icmp_ge K0 129 dX5_isThrough_18 (by decide) (fun h18 => ?_) (fun h18 => ?_)
        · exact absurd h18 (nI_ge hlta (by omega))
        · refine X_iconst (v := 0) K0 dX5_isThrough_21 (by decide) ?_
          refine X_istore_n (L' := [(3, .int 0), (0, .ref mo), (1, .int 1), (2, .int (nI iia))]) K0 dX5_isThrough_22 rfl (by decide) rfl ?_
          refine X.sub [1, 2, 3, 0] (L' := [(0, .ref mo), (1, .int 1), (2, .int (nI iia)), (3, .int 0)]) rfl ?_
          have LOOPb : ∀ (ddb iib : Nat), iib + ddb = C → (∀ t, t < iib → eqH hf iia ((R - 1) * C + t) = false) → X φ 0 0 (c0 :: c1 :: c2 :: c3 :: c4 :: c5 :: c6 :: c7 :: c8 :: c9 :: c10 :: c11 :: (mo, oModel tn stt tr (nI R) (nI C) (bI op) mki mel mto mio mwy (bI hwb) mme mhs mso msr mrs mce mcp) :: (mki, aI g 40 kinds) :: (mel, aI g 40 elders) :: (mto, aI g 25 tof) :: (mio, aZ g 40 iof) :: (mwy, aI g 4096 wyf) :: (mme, aZ g 36 mef) :: (mhs, aZ g 3 hsf) :: (mso, aI g 3 sof) :: (msr, aI g 3 srf) :: (mrs, aI g 12 rsf) :: (mce, aI g 480 cef) :: (mcp, aI g 40 cpf) :: rest) [(0, .ref mo), (1, .int 1), (2, .int (nI iia)), (3, .int (nI iib))] 23 [] := by
            intro ddb
            induction ddb with
            | zero =>
              intro iib hiib hnob
              have hii2b : C = iib := by omega
              subst hii2b
              refine X_iload_n K0 3 dX5_isThrough_23 rfl rfl ?_
              refine X_iload_n K0 1 dX5_isThrough_24 rfl rfl ?_
              refine X_if_ne K0 35 dX5_isThrough_25 (by decide) (fun h25 => ?_) (fun h25 => ?_)
              · refine X_aload_n K0 0 dX5_isThrough_35 rfl rfl ?_
                refine X_get K0 12 rfl rfl hin5 4 (by decide) fl_RX5_13 rfl dX5_isThrough_36 ?_
                refine X_icmp_ge K0 123 dX5_isThrough_39 (by decide) (fun h39 => ?_) (fun h39 => ?_)
                · refine X_iinc (v := ((nI iia) + 1)) (L' := [(2, .int ((nI iia) + 1)), (0, .ref mo), (1, .int 1), (3, .int (nI C))]) K0 2 dX5_isThrough_123 rfl (by first | rfl | decide) (by decide) rfl ?_
                  refine X_goto K0 2 dX5_isThrough_126 (by decide) ?_
                  refine X.sub [1, 2, 0] (L' := [(0, .ref mo), (1, .int 1), (2, .int ((nI iia) + 1))]) rfl ?_
                  exact X_eq rfl (by rw [nI_succ] <;> rfl) rfl (iha (iia + 1) (by omega) (lt_s hnoa (an_no hnob)))
                · exact absurd (nI_le (Nat.le_refl _) (by omega)) h39
              · exact absurd h25 (by decide)
            | succ ddb ihb =>
              intro iib hiib hnob
              have hltb : iib < C := by omega
              refine X_iload_n K0 3 dX5_isThrough_23 rfl rfl ?_
              refine X_iload_n K0 1 dX5_isThrough_24 rfl rfl ?_
              refine X_if_ne K0 35 dX5_isThrough_25 (by decide) (fun h25 => ?_) (fun h25 => ?_)
              · refine X_aload_n K0 0 dX5_isThrough_35 rfl rfl ?_
                refine X_get K0 12 rfl rfl hin5 4 (by decide) fl_RX5_13 rfl dX5_isThrough_36 ?_
                refine X_icmp_ge K0 123 dX5_isThrough_39 (by decide) (fun h39 => ?_) (fun h39 => ?_)
                · exact absurd h39 (nI_ge hltb (by omega))
                · refine X_aload_n K0 0 dX5_isThrough_42 rfl rfl ?_
                  refine X_iload_n K0 1 dX5_isThrough_43 rfl rfl ?_
                  refine X_if_ne K0 56 dX5_isThrough_44 (by decide) (fun h44 => ?_) (fun h44 => ?_)
                  · refine X_iload_n K0 2 dX5_isThrough_56 rfl rfl ?_
                    refine X_callV (As := [.int (nI iia)]) (rest := []) K0 12 (m_heapOf g c0 c1 c2 c3 c4 c5 c6 c7 c8 c9 c10 c11 mo mki mel mto mio mwy mme mhs mso msr mrs mce mcp tn stt tr R C op hwb kinds elders tof iof wyf mef hsf sof srf rsf cef cpf rest (pl_M hR hC) hf hJ iia (mulC_lt4 hR.1 hlta)) mi_X5_heapOf rfl rfl rfl ml_RX5_129 rfl (Nat.le_of_ble_eq_true rfl) (by decide) ⟨Nat.le_of_ble_eq_true rfl, Nat.le_of_ble_eq_true rfl⟩ rfl rfl dX5_isThrough_57 ?_
                    intro v w' hr'; obtain ⟨rfl, rfl⟩ := hr'
                    show X φ 0 0 (c0 :: c1 :: c2 :: c3 :: c4 :: c5 :: c6 :: c7 :: c8 :: c9 :: c10 :: c11 :: (mo, oModel tn stt tr (nI R) (nI C) (bI op) mki mel mto mio mwy (bI hwb) mme mhs mso msr mrs mce mcp) :: (mki, aI g 40 kinds) :: (mel, aI g 40 elders) :: (mto, aI g 25 tof) :: (mio, aZ g 40 iof) :: (mwy, aI g 4096 wyf) :: (mme, aZ g 36 mef) :: (mhs, aZ g 3 hsf) :: (mso, aI g 3 sof) :: (msr, aI g 3 srf) :: (mrs, aI g 12 rsf) :: (mce, aI g 480 cef) :: (mcp, aI g 40 cpf) :: rest) [(0, .ref mo), (1, .int 1), (2, .int (nI iia)), (3, .int (nI iib))] 60 [.int (hf iia)]
                    refine X_istore (L' := [(4, .int (hf iia)), (0, .ref mo), (1, .int 1), (2, .int (nI iia)), (3, .int (nI iib))]) K0 dX5_isThrough_60 (by decide) rfl ?_
                    refine X_aload_n K0 1 dX5_isThrough_62 rfl rfl ?_
                    refine X_iload_n K0 2 dX5_isThrough_63 rfl rfl ?_
                    refine X_if_ne K0 83 dX5_isThrough_64 (by decide) (fun h64 => ?_) (fun h64 => ?_)
                    · refine X_aload_n K0 1 dX5_isThrough_83 rfl rfl ?_
                      refine X_get K0 12 rfl rfl hin5 3 (by decide) fl_RX5_7 rfl dX5_isThrough_84 ?_
                      refine X_iconst (v := 1) K0 dX5_isThrough_87 (by decide) ?_
                      refine X_isub K0 dX5_isThrough_88 ?_
                      refine X_v (z := (nI (R - 1))) (nI_sub1 hR.1) ?_
                      refine X_aload_n K0 1 dX5_isThrough_89 rfl rfl ?_
                      refine X_get K0 12 rfl rfl hin5 4 (by decide) fl_RX5_13 rfl dX5_isThrough_90 ?_
                      refine X_imul K0 dX5_isThrough_93 ?_
                      refine X_v (z := (nI ((R - 1) * C))) (pk_mul _ _) ?_
                      refine X_iload_n K0 4 dX5_isThrough_94 rfl rfl ?_
                      refine X_iadd K0 dX5_isThrough_95 ?_
                      refine X_v (z := (nI ((R - 1) * C + iib))) (nI_add _ _) ?_
                      refine X_callV (As := [.int (nI ((R - 1) * C + iib))]) (rest := []) K0 12 (m_heapOf g c0 c1 c2 c3 c4 c5 c6 c7 c8 c9 c10 c11 mo mki mel mto mio mwy mme mhs mso msr mrs mce mcp tn stt tr R C op hwb kinds elders tof iof wyf mef hsf sof srf rsf cef cpf rest (pl_M hR hC) hf hJ ((R - 1) * C + iib) (mulC_lt3 hR.1 hltb)) mi_X5_heapOf rfl rfl rfl ml_RX5_129 rfl (Nat.le_of_ble_eq_true rfl) (by decide) ⟨Nat.le_of_ble_eq_true rfl, Nat.le_of_ble_eq_true rfl⟩ rfl rfl dX5_isThrough_96 ?_
                      intro v w' hr'; obtain ⟨rfl, rfl⟩ := hr'
                      show X φ 0 0 (c0 :: c1 :: c2 :: c3 :: c4 :: c5 :: c6 :: c7 :: c8 :: c9 :: c10 :: c11 :: (mo, oModel tn stt tr (nI R) (nI C) (bI op) mki mel mto mio mwy (bI hwb) mme mhs mso msr mrs mce mcp) :: (mki, aI g 40 kinds) :: (mel, aI g 40 elders) :: (mto, aI g 25 tof) :: (mio, aZ g 40 iof) :: (mwy, aI g 4096 wyf) :: (mme, aZ g 36 mef) :: (mhs, aZ g 3 hsf) :: (mso, aI g 3 sof) :: (msr, aI g 3 srf) :: (mrs, aI g 12 rsf) :: (mce, aI g 480 cef) :: (mcp, aI g 40 cpf) :: rest) [(4, .int (hf iia)), (0, .ref mo), (1, .int 1), (2, .int (nI iia)), (3, .int (nI iib))] 99 [.int (hf ((R - 1) * C + iib))]
                      refine X_istore (L' := [(5, .int (hf ((R - 1) * C + iib))), (4, .int (hf iia)), (0, .ref mo), (1, .int 1), (2, .int (nI iia)), (3, .int (nI iib))]) K0 dX5_isThrough_99 (by decide) rfl ?_
                      refine X_iload K0 1 dX5_isThrough_101 rfl ?_
                      refine X_bipush (v := (-9)) K0 dX5_isThrough_103 (by decide) ?_
                      refine X_icmp_eq K0 117 dX5_isThrough_105 (by decide) (fun h105 => ?_) (fun h105 => ?_)
                      · refine X_iinc (v := ((nI iib) + 1)) (L' := [(3, .int ((nI iib) + 1)), (5, .int (hf ((R - 1) * C + iib))), (4, .int (hf iia)), (0, .ref mo), (1, .int 1), (2, .int (nI iia))]) K0 5 dX5_isThrough_117 rfl (by first | rfl | decide) (by decide) rfl ?_
                        refine X_goto K0 23 dX5_isThrough_120 (by decide) ?_
                        refine X.sub [3, 4, 5, 0] (L' := [(0, .ref mo), (1, .int 1), (2, .int (nI iia)), (3, .int ((nI iib) + 1))]) rfl ?_
                        exact X_eq rfl (by rw [nI_succ] <;> rfl) rfl (ihb (iib + 1) (by omega) (lt_s hnob (by first | exact eq_n1 h105 | exact eq_n2 h112)))
                      · refine X_iload K0 1 dX5_isThrough_108 rfl ?_
                        refine X_iload K0 0 dX5_isThrough_110 rfl ?_
                        refine X_icmp_ne K0 117 dX5_isThrough_112 (by decide) (fun h112 => ?_) (fun h112 => ?_)
                        · refine X_iinc (v := ((nI iib) + 1)) (L' := [(3, .int ((nI iib) + 1)), (5, .int (hf ((R - 1) * C + iib))), (4, .int (hf iia)), (0, .ref mo), (1, .int 1), (2, .int (nI iia))]) K0 5 dX5_isThrough_117 rfl (by first | rfl | decide) (by decide) rfl ?_
                          refine X_goto K0 23 dX5_isThrough_120 (by decide) ?_
                          refine X.sub [3, 4, 5, 0] (L' := [(0, .ref mo), (1, .int 1), (2, .int (nI iia)), (3, .int ((nI iib) + 1))]) rfl ?_
                          exact X_eq rfl (by rw [nI_succ] <;> rfl) rfl (ihb (iib + 1) (by omega) (lt_s hnob (by first | exact eq_n1 h105 | exact eq_n2 h112)))
                        · refine X_iconst (v := 1) K0 dX5_isThrough_115 (by decide) ?_
                          exact hr _ _ _ _ ⟨by rw [show thr1 R C hf = true from an_yes hlta (an_yes hltb (eq_y h105 h112))]; rfl, rfl⟩ (by first | exact Or.inl rfl | exact Or.inr rfl) dX5_isThrough_116
                    · exact absurd h64 (by decide)
                  · exact absurd h44 (by decide)
              · exact absurd h25 (by decide)
          exact LOOPb C 0 (by omega) (fun t h => absurd h (Nat.not_lt_zero t))
      · exact absurd h4 (by decide)
  exact LOOPa C 0 (by omega) (fun t h => absurd h (Nat.not_lt_zero t))

set_option maxRecDepth 20000 in
set_option maxHeartbeats 400000 in
theorem m_needWays (g : Gx) (c0 c1 c2 c3 c4 c5 c6 c7 c8 c9 c10 c11 : Nat × va_E) (mo mki mel mto mio mwy mme mhs mso msr mrs mce mcp : Nat) (tn stt : Int32) (tr : Int64) (R C : Nat) (op hwb : Bool) (kinds elders tof iof wyf mef hsf sof srf rsf cef cpf : Nat → Int32) (rest : va_W) (hR : 1 ≤ R ∧ R ≤ 5) (hC : 1 ≤ C ∧ C ≤ 5) (hKI : KI (thM R C op) kinds elders) (hWY : WY R C op kinds elders hwb wyf) : Con g yX5_needWays cX5_needWays 2 none 4 86 0 0 [.ref mo] (c0 :: c1 :: c2 :: c3 :: c4 :: c5 :: c6 :: c7 :: c8 :: c9 :: c10 :: c11 :: (mo, oModel tn stt tr (nI R) (nI C) (bI op) mki mel mto mio mwy (bI hwb) mme mhs mso msr mrs mce mcp) :: (mki, aI g 40 kinds) :: (mel, aI g 40 elders) :: (mto, aI g 25 tof) :: (mio, aZ g 40 iof) :: (mwy, aI g 4096 wyf) :: (mme, aZ g 36 mef) :: (mhs, aZ g 3 hsf) :: (mso, aI g 3 sof) :: (msr, aI g 3 srf) :: (mrs, aI g 12 rsf) :: (mce, aI g 480 cef) :: (mcp, aI g 40 cpf) :: rest) (fun v w' => v = none ∧ ∃ (tq iq wq : Nat → Int32), (∀ s, s < (2 ^ (ctF kinds (thM R C op))) → wq s = wyM R C op kinds elders s) ∧ (c0 :: c1 :: c2 :: c3 :: c4 :: c5 :: c6 :: c7 :: c8 :: c9 :: c10 :: c11 :: (mo, oModel tn stt tr (nI R) (nI C) (bI op) mki mel mto mio mwy (bI true) mme mhs mso msr mrs mce mcp) :: (mki, aI g 40 kinds) :: (mel, aI g 40 elders) :: (mto, aI g 25 tq) :: (mio, aZ g 40 iq) :: (mwy, aI g 4096 wq) :: (mme, aZ g 36 mef) :: (mhs, aZ g 3 hsf) :: (mso, aI g 3 sof) :: (msr, aI g 3 srf) :: (mrs, aI g 12 rsf) :: (mce, aI g 480 cef) :: (mcp, aI g 40 cpf) :: rest) = w') := by
  have hTM := th_M (op := op) hR hC
  have hPM := pl_M hR hC
  have hRM := rd_M hR hC
  have hN := pow_m hKI.2
  have hM12 := hKI.2
  refine Con.ofV (by decide +kernel) (Nat.le_of_ble_eq_true rfl) (fun φ K0 hr => ?_)
  show X φ 0 0 (c0 :: c1 :: c2 :: c3 :: c4 :: c5 :: c6 :: c7 :: c8 :: c9 :: c10 :: c11 :: (mo, oModel tn stt tr (nI R) (nI C) (bI op) mki mel mto mio mwy (bI hwb) mme mhs mso msr mrs mce mcp) :: (mki, aI g 40 kinds) :: (mel, aI g 40 elders) :: (mto, aI g 25 tof) :: (mio, aZ g 40 iof) :: (mwy, aI g 4096 wyf) :: (mme, aZ g 36 mef) :: (mhs, aZ g 3 hsf) :: (mso, aI g 3 sof) :: (msr, aI g 3 srf) :: (mrs, aI g 12 rsf) :: (mce, aI g 480 cef) :: (mcp, aI g 40 cpf) :: rest) [(0, .ref mo)] 0 []
  refine X_aload_n K0 0 dX5_needWays_0 rfl rfl ?_
  refine X_get K0 12 rfl rfl hin5 11 (by decide) fl_RX5_61 rfl dX5_needWays_1 ?_
  refine X_if_ne K0 68 dX5_needWays_4 (by decide) (fun h4 => ?_) (fun h4 => ?_)
  · exact hr _ _ _ ⟨rfl, tof, iof, wyf, hWY (bI_n0.mp h4), by rw [bI_n0.mp h4]⟩ dX5_needWays_68
  · refine X_iconst (v := 0) K0 dX5_needWays_7 (by decide) ?_
    refine X_istore_n (L' := [(1, .int 0), (0, .ref mo)]) K0 dX5_needWays_8 rfl (by decide) rfl ?_
    refine X.sub [1, 0] (L' := [(0, .ref mo), (1, .int 0)]) rfl ?_
    have LOOP : ∀ (dd ii : Nat), ii + dd = (2 ^ (ctF kinds (thM R C op))) → ∀ (tq iq : Nat → Int32), X φ 0 0 (c0 :: c1 :: c2 :: c3 :: c4 :: c5 :: c6 :: c7 :: c8 :: c9 :: c10 :: c11 :: (mo, oModel tn stt tr (nI R) (nI C) (bI op) mki mel mto mio mwy (bI hwb) mme mhs mso msr mrs mce mcp) :: (mki, aI g 40 kinds) :: (mel, aI g 40 elders) :: (mto, aI g 25 tq) :: (mio, aZ g 40 iq) :: (mwy, aI g 4096 (ovr ii (wyM R C op kinds elders) wyf)) :: (mme, aZ g 36 mef) :: (mhs, aZ g 3 hsf) :: (mso, aI g 3 sof) :: (msr, aI g 3 srf) :: (mrs, aI g 12 rsf) :: (mce, aI g 480 cef) :: (mcp, aI g 40 cpf) :: rest) [(0, .ref mo), (1, .int (nI ii))] 9 [] := by
      intro dd
      induction dd with
      | zero =>
        intro ii hii tq iq
        have hii2 : (2 ^ (ctF kinds (thM R C op))) = ii := by omega
        subst hii2
        refine X_iload_n K0 1 dX5_needWays_9 rfl rfl ?_
        refine X_iconst (v := 1) K0 dX5_needWays_10 (by decide) ?_
        refine X_aload_n K0 0 dX5_needWays_11 rfl rfl ?_
        refine X_callV (As := []) (rest := [.int 1, .int (nI (2 ^ (ctF kinds (thM R C op))))]) K0 12 (m_chances g c0 c1 c2 c3 c4 c5 c6 c7 c8 c9 c10 c11 mo mki mel mto mio mwy mme mhs mso msr mrs mce mcp tn stt tr R C op hwb kinds elders tq iq (ovr (2 ^ (ctF kinds (thM R C op))) (wyM R C op kinds elders) wyf) mef hsf sof srf rsf cef cpf rest hR hC ) mi_X5_chances rfl rfl rfl ml_RX5_85 rfl (Nat.le_of_ble_eq_true rfl) (by decide) ⟨Nat.le_of_ble_eq_true rfl, Nat.le_of_ble_eq_true rfl⟩ rfl rfl dX5_needWays_12 ?_
        intro v w' hr'; obtain ⟨rfl, rfl⟩ := hr'
        show X φ 0 0 (c0 :: c1 :: c2 :: c3 :: c4 :: c5 :: c6 :: c7 :: c8 :: c9 :: c10 :: c11 :: (mo, oModel tn stt tr (nI R) (nI C) (bI op) mki mel mto mio mwy (bI hwb) mme mhs mso msr mrs mce mcp) :: (mki, aI g 40 kinds) :: (mel, aI g 40 elders) :: (mto, aI g 25 tq) :: (mio, aZ g 40 iq) :: (mwy, aI g 4096 (ovr (2 ^ (ctF kinds (thM R C op))) (wyM R C op kinds elders) wyf)) :: (mme, aZ g 36 mef) :: (mhs, aZ g 3 hsf) :: (mso, aI g 3 sof) :: (msr, aI g 3 srf) :: (mrs, aI g 12 rsf) :: (mce, aI g 480 cef) :: (mcp, aI g 40 cpf) :: rest) [(0, .ref mo), (1, .int (nI (2 ^ (ctF kinds (thM R C op)))))] 15 [.int (nI (ctF kinds (thM R C op))), .int 1, .int (nI (2 ^ (ctF kinds (thM R C op))))]
        refine X_ishl K0 dX5_needWays_15 ?_
        refine X_v (z := (nI (2 ^ (ctF kinds (thM R C op))))) (shl_ct hKI.2) ?_
        refine X_icmp_ge K0 63 dX5_needWays_16 (by decide) (fun h16 => ?_) (fun h16 => ?_)
        · refine X_aload_n K0 0 dX5_needWays_63 rfl rfl ?_
          refine X_iconst (v := 1) K0 dX5_needWays_64 (by decide) ?_
          refine X_v (z := (bI true)) rfl ?_
          refine X_put (w' := (c0 :: c1 :: c2 :: c3 :: c4 :: c5 :: c6 :: c7 :: c8 :: c9 :: c10 :: c11 :: (mo, oModel tn stt tr (nI R) (nI C) (bI op) mki mel mto mio mwy (bI true) mme mhs mso msr mrs mce mcp) :: (mki, aI g 40 kinds) :: (mel, aI g 40 elders) :: (mto, aI g 25 tq) :: (mio, aZ g 40 iq) :: (mwy, aI g 4096 (ovr (2 ^ (ctF kinds (thM R C op))) (wyM R C op kinds elders) wyf)) :: (mme, aZ g 36 mef) :: (mhs, aZ g 3 hsf) :: (mso, aI g 3 sof) :: (msr, aI g 3 srf) :: (mrs, aI g 12 rsf) :: (mce, aI g 480 cef) :: (mcp, aI g 40 cpf) :: rest)) K0 12 rfl rfl hin5 tyX5 tyX5_ok nmX5 11 (by decide) fl_RX5_61 rfl (tyX5_ok 11 (by decide)) rfl rfl (Nat.le_of_ble_eq_true rfl) dX5_needWays_65 rfl ?_
          exact hr _ _ _ ⟨rfl, tq, iq, _, fun s hs => ovr_lt hs, rfl⟩ dX5_needWays_68
        · exact absurd (nI_le (Nat.le_refl _) (by omega)) h16
      | succ dd ih =>
        intro ii hii tq iq
        have hlt : ii < (2 ^ (ctF kinds (thM R C op))) := by omega
        refine X_iload_n K0 1 dX5_needWays_9 rfl rfl ?_
        refine X_iconst (v := 1) K0 dX5_needWays_10 (by decide) ?_
        refine X_aload_n K0 0 dX5_needWays_11 rfl rfl ?_
        refine X_callV (As := []) (rest := [.int 1, .int (nI ii)]) K0 12 (m_chances g c0 c1 c2 c3 c4 c5 c6 c7 c8 c9 c10 c11 mo mki mel mto mio mwy mme mhs mso msr mrs mce mcp tn stt tr R C op hwb kinds elders tq iq (ovr ii (wyM R C op kinds elders) wyf) mef hsf sof srf rsf cef cpf rest hR hC ) mi_X5_chances rfl rfl rfl ml_RX5_85 rfl (Nat.le_of_ble_eq_true rfl) (by decide) ⟨Nat.le_of_ble_eq_true rfl, Nat.le_of_ble_eq_true rfl⟩ rfl rfl dX5_needWays_12 ?_
        intro v w' hr'; obtain ⟨rfl, rfl⟩ := hr'
        show X φ 0 0 (c0 :: c1 :: c2 :: c3 :: c4 :: c5 :: c6 :: c7 :: c8 :: c9 :: c10 :: c11 :: (mo, oModel tn stt tr (nI R) (nI C) (bI op) mki mel mto mio mwy (bI hwb) mme mhs mso msr mrs mce mcp) :: (mki, aI g 40 kinds) :: (mel, aI g 40 elders) :: (mto, aI g 25 tq) :: (mio, aZ g 40 iq) :: (mwy, aI g 4096 (ovr ii (wyM R C op kinds elders) wyf)) :: (mme, aZ g 36 mef) :: (mhs, aZ g 3 hsf) :: (mso, aI g 3 sof) :: (msr, aI g 3 srf) :: (mrs, aI g 12 rsf) :: (mce, aI g 480 cef) :: (mcp, aI g 40 cpf) :: rest) [(0, .ref mo), (1, .int (nI ii))] 15 [.int (nI (ctF kinds (thM R C op))), .int 1, .int (nI ii)]
        refine X_ishl K0 dX5_needWays_15 ?_
        refine X_v (z := (nI (2 ^ (ctF kinds (thM R C op))))) (shl_ct hKI.2) ?_
        refine X_icmp_ge K0 63 dX5_needWays_16 (by decide) (fun h16 => ?_) (fun h16 => ?_)
        · exact absurd h16 (nI_ge hlt (by omega))
        · refine X_aload_n K0 0 dX5_needWays_19 rfl rfl ?_
          refine X_iload_n K0 1 dX5_needWays_20 rfl rfl ?_
          refine X_callV (As := [.int (nI ii)]) (rest := []) K0 12 (m_joins g c0 c1 c2 c3 c4 c5 c6 c7 c8 c9 c10 c11 mo mki mel mto mio mwy mme mhs mso msr mrs mce mcp tn stt tr R C op hwb kinds elders tq iq (ovr ii (wyM R C op kinds elders) wyf) mef hsf sof srf rsf cef cpf rest hR hC hKI (nI ii)) mi_X5_joins rfl rfl rfl ml_RX5_132 rfl (Nat.le_of_ble_eq_true rfl) (by decide) ⟨Nat.le_of_ble_eq_true rfl, Nat.le_of_ble_eq_true rfl⟩ rfl rfl dX5_needWays_21 ?_
          intro v w' hr'; obtain ⟨rfl, rfl⟩ := hr'
          show X φ 0 0 (c0 :: c1 :: c2 :: c3 :: c4 :: c5 :: c6 :: c7 :: c8 :: c9 :: c10 :: c11 :: (mo, oModel tn stt tr (nI R) (nI C) (bI op) mki mel mto mio mwy (bI hwb) mme mhs mso msr mrs mce mcp) :: (mki, aI g 40 kinds) :: (mel, aI g 40 elders) :: (mto, aI g 25 (ovr (R * C) (jC R C op (ioC kinds elders (nI ii)) (rdM R C)) tq)) :: (mio, aZ g 40 (ovr (thM R C op) (ioC kinds elders (nI ii)) iq)) :: (mwy, aI g 4096 (ovr ii (wyM R C op kinds elders) wyf)) :: (mme, aZ g 36 mef) :: (mhs, aZ g 3 hsf) :: (mso, aI g 3 sof) :: (msr, aI g 3 srf) :: (mrs, aI g 12 rsf) :: (mce, aI g 480 cef) :: (mcp, aI g 40 cpf) :: rest) [(0, .ref mo), (1, .int (nI ii))] 24 []
          refine X_aload_n K0 0 dX5_needWays_24 rfl rfl ?_
          refine X_get K0 12 rfl rfl hin5 10 (by decide) fl_RX5_30 rfl dX5_needWays_25 ?_
          refine X_iload_n K0 1 dX5_needWays_28 rfl rfl ?_
          refine X_aload_n K0 0 dX5_needWays_29 rfl rfl ?_
          refine X_iconst (v := 0) K0 dX5_needWays_30 (by decide) ?_
          refine X_callV (As := [.int 0]) (rest := [.int (nI ii), .ref mwy]) K0 12 (m_isThrough0 g c0 c1 c2 c3 c4 c5 c6 c7 c8 c9 c10 c11 mo mki mel mto mio mwy mme mhs mso msr mrs mce mcp tn stt tr R C op hwb kinds elders (ovr (R * C) (jC R C op (ioC kinds elders (nI ii)) (rdM R C)) tq) (ovr (thM R C op) (ioC kinds elders (nI ii)) iq) (ovr ii (wyM R C op kinds elders) wyf) mef hsf sof srf rsf cef cpf rest hR hC (hM R C op kinds elders (nI ii)) (ovr_JH (jC_uf hR hC _ _ _ (Nat.le_refl _)) (pl_M hR hC))) mi_X5_isThrough rfl rfl rfl ml_RX5_135 rfl (Nat.le_of_ble_eq_true rfl) (by decide) ⟨Nat.le_of_ble_eq_true rfl, Nat.le_of_ble_eq_true rfl⟩ rfl rfl dX5_needWays_31 ?_
          intro v w' hr'; obtain ⟨rfl, rfl⟩ := hr'
          show X φ 0 0 (c0 :: c1 :: c2 :: c3 :: c4 :: c5 :: c6 :: c7 :: c8 :: c9 :: c10 :: c11 :: (mo, oModel tn stt tr (nI R) (nI C) (bI op) mki mel mto mio mwy (bI hwb) mme mhs mso msr mrs mce mcp) :: (mki, aI g 40 kinds) :: (mel, aI g 40 elders) :: (mto, aI g 25 (ovr (R * C) (jC R C op (ioC kinds elders (nI ii)) (rdM R C)) tq)) :: (mio, aZ g 40 (ovr (thM R C op) (ioC kinds elders (nI ii)) iq)) :: (mwy, aI g 4096 (ovr ii (wyM R C op kinds elders) wyf)) :: (mme, aZ g 36 mef) :: (mhs, aZ g 3 hsf) :: (mso, aI g 3 sof) :: (msr, aI g 3 srf) :: (mrs, aI g 12 rsf) :: (mce, aI g 480 cef) :: (mcp, aI g 40 cpf) :: rest) [(0, .ref mo), (1, .int (nI ii))] 34 [.int (bI (thr0 R C (hM R C op kinds elders (nI ii)))), .int (nI ii), .ref mwy]
          refine X_if_eq K0 41 dX5_needWays_34 (by decide) (fun h34 => ?_) (fun h34 => ?_)
          · refine X_iconst (v := 0) K0 dX5_needWays_41 (by decide) ?_
            refine X_aload_n K0 0 dX5_needWays_42 rfl rfl ?_
            refine X_iconst (v := 1) K0 dX5_needWays_43 (by decide) ?_
            refine X_callV (As := [.int 1]) (rest := [.int 0, .int (nI ii), .ref mwy]) K0 12 (m_isThrough1 g c0 c1 c2 c3 c4 c5 c6 c7 c8 c9 c10 c11 mo mki mel mto mio mwy mme mhs mso msr mrs mce mcp tn stt tr R C op hwb kinds elders (ovr (R * C) (jC R C op (ioC kinds elders (nI ii)) (rdM R C)) tq) (ovr (thM R C op) (ioC kinds elders (nI ii)) iq) (ovr ii (wyM R C op kinds elders) wyf) mef hsf sof srf rsf cef cpf rest hR hC (hM R C op kinds elders (nI ii)) (ovr_JH (jC_uf hR hC _ _ _ (Nat.le_refl _)) (pl_M hR hC))) mi_X5_isThrough rfl rfl rfl ml_RX5_135 rfl (Nat.le_of_ble_eq_true rfl) (by decide) ⟨Nat.le_of_ble_eq_true rfl, Nat.le_of_ble_eq_true rfl⟩ rfl rfl dX5_needWays_44 ?_
            intro v w' hr'; obtain ⟨rfl, rfl⟩ := hr'
            show X φ 0 0 (c0 :: c1 :: c2 :: c3 :: c4 :: c5 :: c6 :: c7 :: c8 :: c9 :: c10 :: c11 :: (mo, oModel tn stt tr (nI R) (nI C) (bI op) mki mel mto mio mwy (bI hwb) mme mhs mso msr mrs mce mcp) :: (mki, aI g 40 kinds) :: (mel, aI g 40 elders) :: (mto, aI g 25 (ovr (R * C) (jC R C op (ioC kinds elders (nI ii)) (rdM R C)) tq)) :: (mio, aZ g 40 (ovr (thM R C op) (ioC kinds elders (nI ii)) iq)) :: (mwy, aI g 4096 (ovr ii (wyM R C op kinds elders) wyf)) :: (mme, aZ g 36 mef) :: (mhs, aZ g 3 hsf) :: (mso, aI g 3 sof) :: (msr, aI g 3 srf) :: (mrs, aI g 12 rsf) :: (mce, aI g 480 cef) :: (mcp, aI g 40 cpf) :: rest) [(0, .ref mo), (1, .int (nI ii))] 47 [.int (bI (thr1 R C (hM R C op kinds elders (nI ii)))), .int 0, .int (nI ii), .ref mwy]
            refine X_if_eq K0 54 dX5_needWays_47 (by decide) (fun h47 => ?_) (fun h47 => ?_)
            · refine X_iconst (v := 0) K0 dX5_needWays_54 (by decide) ?_
              refine X_iadd K0 dX5_needWays_55 ?_
              refine X_iastN (w' := (c0 :: c1 :: c2 :: c3 :: c4 :: c5 :: c6 :: c7 :: c8 :: c9 :: c10 :: c11 :: (mo, oModel tn stt tr (nI R) (nI C) (bI op) mki mel mto mio mwy (bI hwb) mme mhs mso msr mrs mce mcp) :: (mki, aI g 40 kinds) :: (mel, aI g 40 elders) :: (mto, aI g 25 (ovr (R * C) (jC R C op (ioC kinds elders (nI ii)) (rdM R C)) tq)) :: (mio, aZ g 40 (ovr (thM R C op) (ioC kinds elders (nI ii)) iq)) :: (mwy, aI g 4096 (upd (ovr ii (wyM R C op kinds elders) wyf) ii (0 + 0))) :: (mme, aZ g 36 mef) :: (mhs, aZ g 3 hsf) :: (mso, aI g 3 sof) :: (msr, aI g 3 srf) :: (mrs, aI g 12 rsf) :: (mce, aI g 480 cef) :: (mcp, aI g 40 cpf) :: rest)) K0 17 rfl (by omega) (by first | decide | omega) dX5_needWays_56 rfl ?_
              refine X_iinc (v := ((nI ii) + 1)) (L' := [(1, .int ((nI ii) + 1)), (0, .ref mo)]) K0 1 dX5_needWays_57 rfl (by first | rfl | decide) (by decide) rfl ?_
              refine X_goto K0 9 dX5_needWays_60 (by decide) ?_
              refine X.sub [1, 0] (L' := [(0, .ref mo), (1, .int ((nI ii) + 1))]) rfl ?_
              exact X_eq (by first | (rw [ovr_s ii (wyM R C op kinds elders) wyf (wy_yy h34 h47)]) | (rw [ovr_s ii (wyM R C op kinds elders) wyf (wy_yn h34 h47)]) | (rw [ovr_s ii (wyM R C op kinds elders) wyf (wy_ny h34 h47)]) | (rw [ovr_s ii (wyM R C op kinds elders) wyf (wy_nn h34 h47)])) (by rw [nI_succ] <;> rfl) rfl (ih (ii + 1) (by omega) (ovr (R * C) (jC R C op (ioC kinds elders (nI ii)) (rdM R C)) tq) (ovr (thM R C op) (ioC kinds elders (nI ii)) iq))
            · refine X_iconst (v := 2) K0 dX5_needWays_50 (by decide) ?_
              refine X_goto K0 55 dX5_needWays_51 (by decide) ?_
              refine X_iadd K0 dX5_needWays_55 ?_
              refine X_iastN (w' := (c0 :: c1 :: c2 :: c3 :: c4 :: c5 :: c6 :: c7 :: c8 :: c9 :: c10 :: c11 :: (mo, oModel tn stt tr (nI R) (nI C) (bI op) mki mel mto mio mwy (bI hwb) mme mhs mso msr mrs mce mcp) :: (mki, aI g 40 kinds) :: (mel, aI g 40 elders) :: (mto, aI g 25 (ovr (R * C) (jC R C op (ioC kinds elders (nI ii)) (rdM R C)) tq)) :: (mio, aZ g 40 (ovr (thM R C op) (ioC kinds elders (nI ii)) iq)) :: (mwy, aI g 4096 (upd (ovr ii (wyM R C op kinds elders) wyf) ii (0 + 2))) :: (mme, aZ g 36 mef) :: (mhs, aZ g 3 hsf) :: (mso, aI g 3 sof) :: (msr, aI g 3 srf) :: (mrs, aI g 12 rsf) :: (mce, aI g 480 cef) :: (mcp, aI g 40 cpf) :: rest)) K0 17 rfl (by omega) (by first | decide | omega) dX5_needWays_56 rfl ?_
              refine X_iinc (v := ((nI ii) + 1)) (L' := [(1, .int ((nI ii) + 1)), (0, .ref mo)]) K0 1 dX5_needWays_57 rfl (by first | rfl | decide) (by decide) rfl ?_
              refine X_goto K0 9 dX5_needWays_60 (by decide) ?_
              refine X.sub [1, 0] (L' := [(0, .ref mo), (1, .int ((nI ii) + 1))]) rfl ?_
              exact X_eq (by first | (rw [ovr_s ii (wyM R C op kinds elders) wyf (wy_yy h34 h47)]) | (rw [ovr_s ii (wyM R C op kinds elders) wyf (wy_yn h34 h47)]) | (rw [ovr_s ii (wyM R C op kinds elders) wyf (wy_ny h34 h47)]) | (rw [ovr_s ii (wyM R C op kinds elders) wyf (wy_nn h34 h47)])) (by rw [nI_succ] <;> rfl) rfl (ih (ii + 1) (by omega) (ovr (R * C) (jC R C op (ioC kinds elders (nI ii)) (rdM R C)) tq) (ovr (thM R C op) (ioC kinds elders (nI ii)) iq))
          · refine X_iconst (v := 1) K0 dX5_needWays_37 (by decide) ?_
            refine X_goto K0 42 dX5_needWays_38 (by decide) ?_
            refine X_aload_n K0 0 dX5_needWays_42 rfl rfl ?_
            refine X_iconst (v := 1) K0 dX5_needWays_43 (by decide) ?_
            refine X_callV (As := [.int 1]) (rest := [.int 1, .int (nI ii), .ref mwy]) K0 12 (m_isThrough1 g c0 c1 c2 c3 c4 c5 c6 c7 c8 c9 c10 c11 mo mki mel mto mio mwy mme mhs mso msr mrs mce mcp tn stt tr R C op hwb kinds elders (ovr (R * C) (jC R C op (ioC kinds elders (nI ii)) (rdM R C)) tq) (ovr (thM R C op) (ioC kinds elders (nI ii)) iq) (ovr ii (wyM R C op kinds elders) wyf) mef hsf sof srf rsf cef cpf rest hR hC (hM R C op kinds elders (nI ii)) (ovr_JH (jC_uf hR hC _ _ _ (Nat.le_refl _)) (pl_M hR hC))) mi_X5_isThrough rfl rfl rfl ml_RX5_135 rfl (Nat.le_of_ble_eq_true rfl) (by decide) ⟨Nat.le_of_ble_eq_true rfl, Nat.le_of_ble_eq_true rfl⟩ rfl rfl dX5_needWays_44 ?_
            intro v w' hr'; obtain ⟨rfl, rfl⟩ := hr'
            show X φ 0 0 (c0 :: c1 :: c2 :: c3 :: c4 :: c5 :: c6 :: c7 :: c8 :: c9 :: c10 :: c11 :: (mo, oModel tn stt tr (nI R) (nI C) (bI op) mki mel mto mio mwy (bI hwb) mme mhs mso msr mrs mce mcp) :: (mki, aI g 40 kinds) :: (mel, aI g 40 elders) :: (mto, aI g 25 (ovr (R * C) (jC R C op (ioC kinds elders (nI ii)) (rdM R C)) tq)) :: (mio, aZ g 40 (ovr (thM R C op) (ioC kinds elders (nI ii)) iq)) :: (mwy, aI g 4096 (ovr ii (wyM R C op kinds elders) wyf)) :: (mme, aZ g 36 mef) :: (mhs, aZ g 3 hsf) :: (mso, aI g 3 sof) :: (msr, aI g 3 srf) :: (mrs, aI g 12 rsf) :: (mce, aI g 480 cef) :: (mcp, aI g 40 cpf) :: rest) [(0, .ref mo), (1, .int (nI ii))] 47 [.int (bI (thr1 R C (hM R C op kinds elders (nI ii)))), .int 1, .int (nI ii), .ref mwy]
            refine X_if_eq K0 54 dX5_needWays_47 (by decide) (fun h47 => ?_) (fun h47 => ?_)
            · refine X_iconst (v := 0) K0 dX5_needWays_54 (by decide) ?_
              refine X_iadd K0 dX5_needWays_55 ?_
              refine X_iastN (w' := (c0 :: c1 :: c2 :: c3 :: c4 :: c5 :: c6 :: c7 :: c8 :: c9 :: c10 :: c11 :: (mo, oModel tn stt tr (nI R) (nI C) (bI op) mki mel mto mio mwy (bI hwb) mme mhs mso msr mrs mce mcp) :: (mki, aI g 40 kinds) :: (mel, aI g 40 elders) :: (mto, aI g 25 (ovr (R * C) (jC R C op (ioC kinds elders (nI ii)) (rdM R C)) tq)) :: (mio, aZ g 40 (ovr (thM R C op) (ioC kinds elders (nI ii)) iq)) :: (mwy, aI g 4096 (upd (ovr ii (wyM R C op kinds elders) wyf) ii (1 + 0))) :: (mme, aZ g 36 mef) :: (mhs, aZ g 3 hsf) :: (mso, aI g 3 sof) :: (msr, aI g 3 srf) :: (mrs, aI g 12 rsf) :: (mce, aI g 480 cef) :: (mcp, aI g 40 cpf) :: rest)) K0 17 rfl (by omega) (by first | decide | omega) dX5_needWays_56 rfl ?_
              refine X_iinc (v := ((nI ii) + 1)) (L' := [(1, .int ((nI ii) + 1)), (0, .ref mo)]) K0 1 dX5_needWays_57 rfl (by first | rfl | decide) (by decide) rfl ?_
              refine X_goto K0 9 dX5_needWays_60 (by decide) ?_
              refine X.sub [1, 0] (L' := [(0, .ref mo), (1, .int ((nI ii) + 1))]) rfl ?_
              exact X_eq (by first | (rw [ovr_s ii (wyM R C op kinds elders) wyf (wy_yy h34 h47)]) | (rw [ovr_s ii (wyM R C op kinds elders) wyf (wy_yn h34 h47)]) | (rw [ovr_s ii (wyM R C op kinds elders) wyf (wy_ny h34 h47)]) | (rw [ovr_s ii (wyM R C op kinds elders) wyf (wy_nn h34 h47)])) (by rw [nI_succ] <;> rfl) rfl (ih (ii + 1) (by omega) (ovr (R * C) (jC R C op (ioC kinds elders (nI ii)) (rdM R C)) tq) (ovr (thM R C op) (ioC kinds elders (nI ii)) iq))
            · refine X_iconst (v := 2) K0 dX5_needWays_50 (by decide) ?_
              refine X_goto K0 55 dX5_needWays_51 (by decide) ?_
              refine X_iadd K0 dX5_needWays_55 ?_
              refine X_iastN (w' := (c0 :: c1 :: c2 :: c3 :: c4 :: c5 :: c6 :: c7 :: c8 :: c9 :: c10 :: c11 :: (mo, oModel tn stt tr (nI R) (nI C) (bI op) mki mel mto mio mwy (bI hwb) mme mhs mso msr mrs mce mcp) :: (mki, aI g 40 kinds) :: (mel, aI g 40 elders) :: (mto, aI g 25 (ovr (R * C) (jC R C op (ioC kinds elders (nI ii)) (rdM R C)) tq)) :: (mio, aZ g 40 (ovr (thM R C op) (ioC kinds elders (nI ii)) iq)) :: (mwy, aI g 4096 (upd (ovr ii (wyM R C op kinds elders) wyf) ii (1 + 2))) :: (mme, aZ g 36 mef) :: (mhs, aZ g 3 hsf) :: (mso, aI g 3 sof) :: (msr, aI g 3 srf) :: (mrs, aI g 12 rsf) :: (mce, aI g 480 cef) :: (mcp, aI g 40 cpf) :: rest)) K0 17 rfl (by omega) (by first | decide | omega) dX5_needWays_56 rfl ?_
              refine X_iinc (v := ((nI ii) + 1)) (L' := [(1, .int ((nI ii) + 1)), (0, .ref mo)]) K0 1 dX5_needWays_57 rfl (by first | rfl | decide) (by decide) rfl ?_
              refine X_goto K0 9 dX5_needWays_60 (by decide) ?_
              refine X.sub [1, 0] (L' := [(0, .ref mo), (1, .int ((nI ii) + 1))]) rfl ?_
              exact X_eq (by first | (rw [ovr_s ii (wyM R C op kinds elders) wyf (wy_yy h34 h47)]) | (rw [ovr_s ii (wyM R C op kinds elders) wyf (wy_yn h34 h47)]) | (rw [ovr_s ii (wyM R C op kinds elders) wyf (wy_ny h34 h47)]) | (rw [ovr_s ii (wyM R C op kinds elders) wyf (wy_nn h34 h47)])) (by rw [nI_succ] <;> rfl) rfl (ih (ii + 1) (by omega) (ovr (R * C) (jC R C op (ioC kinds elders (nI ii)) (rdM R C)) tq) (ovr (thM R C op) (ioC kinds elders (nI ii)) iq))
    exact X_eq (by rw [ovr_0]) rfl rfl (LOOP ((2 ^ (ctF kinds (thM R C op)))) 0 (by omega) tof iof)

set_option maxRecDepth 20000 in
set_option maxHeartbeats 400000 in
theorem m_is (g : Gx) (c0 c1 c2 c3 c4 c5 c6 c7 c8 c9 c10 c11 : Nat × va_E) (mo mki mel mto mio mwy mme mhs mso msr mrs mce mcp : Nat) (tn stt : Int32) (tr : Int64) (R C : Nat) (op hwb : Bool) (kinds elders tof iof wyf mef hsf sof srf rsf cef cpf : Nat → Int32) (rest : va_W) (s : Nat) (hs : s < 4096) (hw : wyf s = wyM R C op kinds elders s) (way : Int32) : Con g yX5_is cX5_is 4 (some .boolean) 0 0 0 0 [.ref mo, .int (nI s), .int way] (c0 :: c1 :: c2 :: c3 :: c4 :: c5 :: c6 :: c7 :: c8 :: c9 :: c10 :: c11 :: (mo, oModel tn stt tr (nI R) (nI C) (bI op) mki mel mto mio mwy (bI hwb) mme mhs mso msr mrs mce mcp) :: (mki, aI g 40 kinds) :: (mel, aI g 40 elders) :: (mto, aI g 25 tof) :: (mio, aZ g 40 iof) :: (mwy, aI g 4096 wyf) :: (mme, aZ g 36 mef) :: (mhs, aZ g 3 hsf) :: (mso, aI g 3 sof) :: (msr, aI g 3 srf) :: (mrs, aI g 12 rsf) :: (mce, aI g 480 cef) :: (mcp, aI g 40 cpf) :: rest) (Rs (some (.int (bI (isM R C op kinds elders s way)))) (c0 :: c1 :: c2 :: c3 :: c4 :: c5 :: c6 :: c7 :: c8 :: c9 :: c10 :: c11 :: (mo, oModel tn stt tr (nI R) (nI C) (bI op) mki mel mto mio mwy (bI hwb) mme mhs mso msr mrs mce mcp) :: (mki, aI g 40 kinds) :: (mel, aI g 40 elders) :: (mto, aI g 25 tof) :: (mio, aZ g 40 iof) :: (mwy, aI g 4096 wyf) :: (mme, aZ g 36 mef) :: (mhs, aZ g 3 hsf) :: (mso, aI g 3 sof) :: (msr, aI g 3 srf) :: (mrs, aI g 12 rsf) :: (mce, aI g 480 cef) :: (mcp, aI g 40 cpf) :: rest)) := by
  refine Con.ofZ (by decide +kernel) (Nat.le_of_ble_eq_true rfl) (fun φ K0 hr => ?_)
  show X φ 0 0 (c0 :: c1 :: c2 :: c3 :: c4 :: c5 :: c6 :: c7 :: c8 :: c9 :: c10 :: c11 :: (mo, oModel tn stt tr (nI R) (nI C) (bI op) mki mel mto mio mwy (bI hwb) mme mhs mso msr mrs mce mcp) :: (mki, aI g 40 kinds) :: (mel, aI g 40 elders) :: (mto, aI g 25 tof) :: (mio, aZ g 40 iof) :: (mwy, aI g 4096 wyf) :: (mme, aZ g 36 mef) :: (mhs, aZ g 3 hsf) :: (mso, aI g 3 sof) :: (msr, aI g 3 srf) :: (mrs, aI g 12 rsf) :: (mce, aI g 480 cef) :: (mcp, aI g 40 cpf) :: rest) [(0, .ref mo), (1, .int (nI s)), (2, .int way)] 0 []
  refine X_aload_n K0 0 dX5_is_0 rfl rfl ?_
  refine X_get K0 12 rfl rfl hin5 10 (by decide) fl_RX5_30 rfl dX5_is_1 ?_
  refine X_iload_n K0 1 dX5_is_4 rfl rfl ?_
  refine X_ialdN K0 17 rfl (by omega) (by first | decide | omega) dX5_is_5 ?_
  refine X_v hw ?_
  refine X_istore_n (L' := [(3, .int (wyM R C op kinds elders s)), (0, .ref mo), (1, .int (nI s)), (2, .int way)]) K0 dX5_is_6 rfl (by decide) rfl ?_
  refine X_iload_n K0 3 dX5_is_7 rfl rfl ?_
  refine X_if_ne K0 26 dX5_is_8 (by decide) (fun h8 => ?_) (fun h8 => ?_)
  · refine X_iload_n K0 3 dX5_is_26 rfl rfl ?_
    refine X_iconst (v := 1) K0 dX5_is_27 (by decide) ?_
    refine X_icmp_ne K0 44 dX5_is_28 (by decide) (fun h28 => ?_) (fun h28 => ?_)
    · refine X_iload_n K0 3 dX5_is_44 rfl rfl ?_
      refine X_iconst (v := 2) K0 dX5_is_45 (by decide) ?_
      refine X_icmp_ne K0 62 dX5_is_46 (by decide) (fun h46 => ?_) (fun h46 => ?_)
      · refine X_iload_n K0 0 dX5_is_62 rfl rfl ?_
        refine X_if_le K0 70 dX5_is_63 (by decide) (fun h63 => ?_) (fun h63 => ?_)
        · refine X_iconst (v := 0) K0 dX5_is_70 (by decide) ?_
          exact hr _ _ _ _ ⟨by first | exact ir_0y h8 h15 | exact ir_0n h8 h15 | exact ir_1y h28 h33 | exact ir_1n h28 h33 | exact ir_2y h8 h28 h46 h51 | exact ir_2n h8 h28 h46 h51 | exact ir_3y h8 h28 h46 h63 | exact ir_3n h8 h28 h46 h63, rfl⟩ (by first | exact Or.inl rfl | exact Or.inr rfl) dX5_is_71
        · refine X_iconst (v := 1) K0 dX5_is_66 (by decide) ?_
          refine X_goto K0 71 dX5_is_67 (by decide) ?_
          exact hr _ _ _ _ ⟨by first | exact ir_0y h8 h15 | exact ir_0n h8 h15 | exact ir_1y h28 h33 | exact ir_1n h28 h33 | exact ir_2y h8 h28 h46 h51 | exact ir_2n h8 h28 h46 h51 | exact ir_3y h8 h28 h46 h63 | exact ir_3n h8 h28 h46 h63, rfl⟩ (by first | exact Or.inl rfl | exact Or.inr rfl) dX5_is_71
      · refine X_iload_n K0 0 dX5_is_49 rfl rfl ?_
        refine X_iconst (v := 3) K0 dX5_is_50 (by decide) ?_
        refine X_icmp_ne K0 58 dX5_is_51 (by decide) (fun h51 => ?_) (fun h51 => ?_)
        · refine X_iconst (v := 0) K0 dX5_is_58 (by decide) ?_
          refine X_goto K0 71 dX5_is_59 (by decide) ?_
          exact hr _ _ _ _ ⟨by first | exact ir_0y h8 h15 | exact ir_0n h8 h15 | exact ir_1y h28 h33 | exact ir_1n h28 h33 | exact ir_2y h8 h28 h46 h51 | exact ir_2n h8 h28 h46 h51 | exact ir_3y h8 h28 h46 h63 | exact ir_3n h8 h28 h46 h63, rfl⟩ (by first | exact Or.inl rfl | exact Or.inr rfl) dX5_is_71
        · refine X_iconst (v := 1) K0 dX5_is_54 (by decide) ?_
          refine X_goto K0 71 dX5_is_55 (by decide) ?_
          exact hr _ _ _ _ ⟨by first | exact ir_0y h8 h15 | exact ir_0n h8 h15 | exact ir_1y h28 h33 | exact ir_1n h28 h33 | exact ir_2y h8 h28 h46 h51 | exact ir_2n h8 h28 h46 h51 | exact ir_3y h8 h28 h46 h63 | exact ir_3n h8 h28 h46 h63, rfl⟩ (by first | exact Or.inl rfl | exact Or.inr rfl) dX5_is_71
    · refine X_iload_n K0 0 dX5_is_31 rfl rfl ?_
      refine X_iconst (v := 1) K0 dX5_is_32 (by decide) ?_
      refine X_icmp_le K0 40 dX5_is_33 (by decide) (fun h33 => ?_) (fun h33 => ?_)
      · refine X_iconst (v := 0) K0 dX5_is_40 (by decide) ?_
        refine X_goto K0 71 dX5_is_41 (by decide) ?_
        exact hr _ _ _ _ ⟨by first | exact ir_0y h8 h15 | exact ir_0n h8 h15 | exact ir_1y h28 h33 | exact ir_1n h28 h33 | exact ir_2y h8 h28 h46 h51 | exact ir_2n h8 h28 h46 h51 | exact ir_3y h8 h28 h46 h63 | exact ir_3n h8 h28 h46 h63, rfl⟩ (by first | exact Or.inl rfl | exact Or.inr rfl) dX5_is_71
      · refine X_iconst (v := 1) K0 dX5_is_36 (by decide) ?_
        refine X_goto K0 71 dX5_is_37 (by decide) ?_
        exact hr _ _ _ _ ⟨by first | exact ir_0y h8 h15 | exact ir_0n h8 h15 | exact ir_1y h28 h33 | exact ir_1n h28 h33 | exact ir_2y h8 h28 h46 h51 | exact ir_2n h8 h28 h46 h51 | exact ir_3y h8 h28 h46 h63 | exact ir_3n h8 h28 h46 h63, rfl⟩ (by first | exact Or.inl rfl | exact Or.inr rfl) dX5_is_71
  · refine X_iload_n K0 0 dX5_is_11 rfl rfl ?_
    refine X_iconst (v := 2) K0 dX5_is_12 (by decide) ?_
    refine X_irem K0 dX5_is_13 (by decide) ?_
    refine X_iconst (v := 1) K0 dX5_is_14 (by decide) ?_
    refine X_icmp_ne K0 22 dX5_is_15 (by decide) (fun h15 => ?_) (fun h15 => ?_)
    · refine X_iconst (v := 0) K0 dX5_is_22 (by decide) ?_
      refine X_goto K0 71 dX5_is_23 (by decide) ?_
      exact hr _ _ _ _ ⟨by first | exact ir_0y h8 h15 | exact ir_0n h8 h15 | exact ir_1y h28 h33 | exact ir_1n h28 h33 | exact ir_2y h8 h28 h46 h51 | exact ir_2n h8 h28 h46 h51 | exact ir_3y h8 h28 h46 h63 | exact ir_3n h8 h28 h46 h63, rfl⟩ (by first | exact Or.inl rfl | exact Or.inr rfl) dX5_is_71
    · refine X_iconst (v := 1) K0 dX5_is_18 (by decide) ?_
      refine X_goto K0 71 dX5_is_19 (by decide) ?_
      exact hr _ _ _ _ ⟨by first | exact ir_0y h8 h15 | exact ir_0n h8 h15 | exact ir_1y h28 h33 | exact ir_1n h28 h33 | exact ir_2y h8 h28 h46 h51 | exact ir_2n h8 h28 h46 h51 | exact ir_3y h8 h28 h46 h63 | exact ir_3n h8 h28 h46 h63, rfl⟩ (by first | exact Or.inl rfl | exact Or.inr rfl) dX5_is_71

set_option maxRecDepth 20000 in
set_option maxHeartbeats 400000 in
theorem m_through (g : Gx) (c0 c1 c2 c3 c4 c5 c6 c7 c8 c9 c10 c11 : Nat × va_E) (mo mki mel mto mio mwy mme mhs mso msr mrs mce mcp : Nat) (tn stt : Int32) (tr : Int64) (R C : Nat) (op hwb : Bool) (kinds elders tof iof wyf mef hsf sof srf rsf cef cpf : Nat → Int32) (rest : va_W) (hR : 1 ≤ R ∧ R ≤ 5) (hC : 1 ≤ C ∧ C ≤ 5) (hKI : KI (thM R C op) kinds elders) (hWY : WY R C op kinds elders hwb wyf) (se way : Int32) : Con g yX5_through cX5_through 3 (some .int) 5 107 0 0 [.ref mo, .int se, .int way] (c0 :: c1 :: c2 :: c3 :: c4 :: c5 :: c6 :: c7 :: c8 :: c9 :: c10 :: c11 :: (mo, oModel tn stt tr (nI R) (nI C) (bI op) mki mel mto mio mwy (bI hwb) mme mhs mso msr mrs mce mcp) :: (mki, aI g 40 kinds) :: (mel, aI g 40 elders) :: (mto, aI g 25 tof) :: (mio, aZ g 40 iof) :: (mwy, aI g 4096 wyf) :: (mme, aZ g 36 mef) :: (mhs, aZ g 3 hsf) :: (mso, aI g 3 sof) :: (msr, aI g 3 srf) :: (mrs, aI g 12 rsf) :: (mce, aI g 480 cef) :: (mcp, aI g 40 cpf) :: rest) (fun v w' => v = some (.int (thVM R C op kinds elders se way)) ∧ ∃ (tq iq wq mq : Nat → Int32) (hq : Bool), WY R C op kinds elders hq wq ∧ (c0 :: c1 :: c2 :: c3 :: c4 :: c5 :: c6 :: c7 :: c8 :: c9 :: c10 :: c11 :: (mo, oModel 0 stt tr (nI R) (nI C) (bI op) mki mel mto mio mwy (bI hq) mme mhs mso msr mrs mce mcp) :: (mki, aI g 40 kinds) :: (mel, aI g 40 elders) :: (mto, aI g 25 tq) :: (mio, aZ g 40 iq) :: (mwy, aI g 4096 wq) :: (mme, aZ g 36 mq) :: (mhs, aZ g 3 hsf) :: (mso, aI g 3 sof) :: (msr, aI g 3 srf) :: (mrs, aI g 12 rsf) :: (mce, aI g 480 cef) :: (mcp, aI g 40 cpf) :: rest) = w') := by
  have hTM := th_M (op := op) hR hC
  have hPM := pl_M hR hC
  have hRM := rd_M hR hC
  have hN := pow_m hKI.2
  have hM12 := hKI.2
  refine Con.ofI (by decide +kernel) (Nat.le_of_ble_eq_true rfl) (fun φ K0 hr => ?_)
  show X φ 0 0 (c0 :: c1 :: c2 :: c3 :: c4 :: c5 :: c6 :: c7 :: c8 :: c9 :: c10 :: c11 :: (mo, oModel tn stt tr (nI R) (nI C) (bI op) mki mel mto mio mwy (bI hwb) mme mhs mso msr mrs mce mcp) :: (mki, aI g 40 kinds) :: (mel, aI g 40 elders) :: (mto, aI g 25 tof) :: (mio, aZ g 40 iof) :: (mwy, aI g 4096 wyf) :: (mme, aZ g 36 mef) :: (mhs, aZ g 3 hsf) :: (mso, aI g 3 sof) :: (msr, aI g 3 srf) :: (mrs, aI g 12 rsf) :: (mce, aI g 480 cef) :: (mcp, aI g 40 cpf) :: rest) [(0, .ref mo), (1, .int se), (2, .int way)] 0 []
  refine X_aload_n K0 0 dX5_through_0 rfl rfl ?_
  refine X_iconst (v := 0) K0 dX5_through_1 (by decide) ?_
  refine X_put (w' := (c0 :: c1 :: c2 :: c3 :: c4 :: c5 :: c6 :: c7 :: c8 :: c9 :: c10 :: c11 :: (mo, oModel 0 stt tr (nI R) (nI C) (bI op) mki mel mto mio mwy (bI hwb) mme mhs mso msr mrs mce mcp) :: (mki, aI g 40 kinds) :: (mel, aI g 40 elders) :: (mto, aI g 25 tof) :: (mio, aZ g 40 iof) :: (mwy, aI g 4096 wyf) :: (mme, aZ g 36 mef) :: (mhs, aZ g 3 hsf) :: (mso, aI g 3 sof) :: (msr, aI g 3 srf) :: (mrs, aI g 12 rsf) :: (mce, aI g 480 cef) :: (mcp, aI g 40 cpf) :: rest)) K0 12 rfl rfl hin5 tyX5 tyX5_ok nmX5 0 (by decide) fl_RX5_58 rfl (tyX5_ok 0 (by decide)) rfl rfl (Nat.le_of_ble_eq_true rfl) dX5_through_2 rfl ?_
  refine X_aload_n K0 0 dX5_through_5 rfl rfl ?_
  refine X_iload_n K0 1 dX5_through_6 rfl rfl ?_
  refine X_callV (As := [.int se]) (rest := []) K0 12 (m_isSetting g c0 c1 c2 c3 c4 c5 c6 c7 c8 c9 c10 c11 mo mki mel mto mio mwy mme mhs mso msr mrs mce mcp 0 stt tr R C op hwb kinds elders tof iof wyf mef hsf sof srf rsf cef cpf rest hR hC hKI se) mi_X5_isSetting rfl rfl rfl ml_RX5_107 rfl (Nat.le_of_ble_eq_true rfl) (by decide) ⟨Nat.le_of_ble_eq_true rfl, Nat.le_of_ble_eq_true rfl⟩ rfl rfl dX5_through_7 ?_
  intro v w' hr'; obtain ⟨rfl, rfl⟩ := hr'
  show X φ 0 0 (c0 :: c1 :: c2 :: c3 :: c4 :: c5 :: c6 :: c7 :: c8 :: c9 :: c10 :: c11 :: (mo, oModel 0 stt tr (nI R) (nI C) (bI op) mki mel mto mio mwy (bI hwb) mme mhs mso msr mrs mce mcp) :: (mki, aI g 40 kinds) :: (mel, aI g 40 elders) :: (mto, aI g 25 tof) :: (mio, aZ g 40 iof) :: (mwy, aI g 4096 wyf) :: (mme, aZ g 36 mef) :: (mhs, aZ g 3 hsf) :: (mso, aI g 3 sof) :: (msr, aI g 3 srf) :: (mrs, aI g 12 rsf) :: (mce, aI g 480 cef) :: (mcp, aI g 40 cpf) :: rest) [(0, .ref mo), (1, .int se), (2, .int way)] 10 [.int (bI (wiB se 0 ((nI (2 ^ ctF kinds (thM R C op))) - 1)))]
  refine X_if_eq K0 22 dX5_through_10 (by decide) (fun h10 => ?_) (fun h10 => ?_)
  · refine X_iconst (v := (-1)) K0 dX5_through_22 (by decide) ?_
    exact hr _ _ _ _ ⟨by rw [thVM, no_if (by first | exact p_n (bI_0.mp h10) | exact p_yn (bI_n0.mp h10) (bI_0.mp h19))], tof, iof, wyf, mef, hwb, hWY, rfl⟩ dX5_through_23
  · refine X_iload_n K0 2 dX5_through_13 rfl rfl ?_
    refine X_iconst (v := 0) K0 dX5_through_14 (by decide) ?_
    refine X_iconst (v := 1) K0 dX5_through_15 (by decide) ?_
    refine X_callS (As := [.int way, .int 0, .int 1]) (rest := []) K0 (c_in g (c0 :: c1 :: c2 :: c3 :: c4 :: c5 :: c6 :: c7 :: c8 :: c9 :: c10 :: c11 :: (mo, oModel 0 stt tr (nI R) (nI C) (bI op) mki mel mto mio mwy (bI hwb) mme mhs mso msr mrs mce mcp) :: (mki, aI g 40 kinds) :: (mel, aI g 40 elders) :: (mto, aI g 25 tof) :: (mio, aZ g 40 iof) :: (mwy, aI g 4096 wyf) :: (mme, aZ g 36 mef) :: (mhs, aZ g 3 hsf) :: (mso, aI g 3 sof) :: (msr, aI g 3 srf) :: (mrs, aI g 12 rsf) :: (mce, aI g 480 cef) :: (mcp, aI g 40 cpf) :: rest) way 0 1) ms_X5_in rfl ml_RX5_81 rfl (Nat.le_of_ble_eq_true rfl) (by decide) ⟨Nat.le_of_ble_eq_true rfl, Nat.le_of_ble_eq_true rfl⟩ rfl rfl dX5_through_16 ?_
    intro v w' hr'; obtain ⟨rfl, rfl⟩ := hr'
    show X φ 0 0 (c0 :: c1 :: c2 :: c3 :: c4 :: c5 :: c6 :: c7 :: c8 :: c9 :: c10 :: c11 :: (mo, oModel 0 stt tr (nI R) (nI C) (bI op) mki mel mto mio mwy (bI hwb) mme mhs mso msr mrs mce mcp) :: (mki, aI g 40 kinds) :: (mel, aI g 40 elders) :: (mto, aI g 25 tof) :: (mio, aZ g 40 iof) :: (mwy, aI g 4096 wyf) :: (mme, aZ g 36 mef) :: (mhs, aZ g 3 hsf) :: (mso, aI g 3 sof) :: (msr, aI g 3 srf) :: (mrs, aI g 12 rsf) :: (mce, aI g 480 cef) :: (mcp, aI g 40 cpf) :: rest) [(0, .ref mo), (1, .int se), (2, .int way)] 19 [.int (bI (wiB way 0 1))]
    refine X_if_ne K0 24 dX5_through_19 (by decide) (fun h19 => ?_) (fun h19 => ?_)
    · obtain ⟨j, hj, rfl⟩ := wi_of (bI_n0.mp h10) (by omega)
      have hclj : (nI j).toNatClampNeg = j := nI_clamp (by omega)
      refine X_aload_n K0 0 dX5_through_24 rfl rfl ?_
      refine X_callV (As := []) (rest := []) K0 12 (m_needWays g c0 c1 c2 c3 c4 c5 c6 c7 c8 c9 c10 c11 mo mki mel mto mio mwy mme mhs mso msr mrs mce mcp 0 stt tr R C op hwb kinds elders tof iof wyf mef hsf sof srf rsf cef cpf rest hR hC hKI hWY) mi_X5_needWays rfl rfl rfl ml_RX5_138 rfl (Nat.le_of_ble_eq_true rfl) (by decide) ⟨Nat.le_of_ble_eq_true rfl, Nat.le_of_ble_eq_true rfl⟩ rfl rfl dX5_through_25 ?_
      intro v w' hr'; obtain ⟨rfl, tq1, iq1, wq1, hq1, rfl⟩ := hr'
      show X φ 0 0 (c0 :: c1 :: c2 :: c3 :: c4 :: c5 :: c6 :: c7 :: c8 :: c9 :: c10 :: c11 :: (mo, oModel 0 stt tr (nI R) (nI C) (bI op) mki mel mto mio mwy (bI true) mme mhs mso msr mrs mce mcp) :: (mki, aI g 40 kinds) :: (mel, aI g 40 elders) :: (mto, aI g 25 tq1) :: (mio, aZ g 40 iq1) :: (mwy, aI g 4096 wq1) :: (mme, aZ g 36 mef) :: (mhs, aZ g 3 hsf) :: (mso, aI g 3 sof) :: (msr, aI g 3 srf) :: (mrs, aI g 12 rsf) :: (mce, aI g 480 cef) :: (mcp, aI g 40 cpf) :: rest) [(0, .ref mo), (1, .int (nI j)), (2, .int way)] 28 []
      refine X_aload_n K0 0 dX5_through_28 rfl rfl ?_
      refine X_iload_n K0 1 dX5_through_29 rfl rfl ?_
      refine X_iload_n K0 2 dX5_through_30 rfl rfl ?_
      refine X_callV (As := [.int (nI j), .int way]) (rest := []) K0 12 (m_is g c0 c1 c2 c3 c4 c5 c6 c7 c8 c9 c10 c11 mo mki mel mto mio mwy mme mhs mso msr mrs mce mcp 0 stt tr R C op true kinds elders tq1 iq1 wq1 mef hsf sof srf rsf cef cpf rest j (by omega) (hq1 j (by omega)) way) mi_X5_is rfl rfl rfl ml_RX5_141 rfl (Nat.le_of_ble_eq_true rfl) (by decide) ⟨Nat.le_of_ble_eq_true rfl, Nat.le_of_ble_eq_true rfl⟩ rfl rfl dX5_through_31 ?_
      intro v w' hr'; obtain ⟨rfl, rfl⟩ := hr'
      show X φ 0 0 (c0 :: c1 :: c2 :: c3 :: c4 :: c5 :: c6 :: c7 :: c8 :: c9 :: c10 :: c11 :: (mo, oModel 0 stt tr (nI R) (nI C) (bI op) mki mel mto mio mwy (bI true) mme mhs mso msr mrs mce mcp) :: (mki, aI g 40 kinds) :: (mel, aI g 40 elders) :: (mto, aI g 25 tq1) :: (mio, aZ g 40 iq1) :: (mwy, aI g 4096 wq1) :: (mme, aZ g 36 mef) :: (mhs, aZ g 3 hsf) :: (mso, aI g 3 sof) :: (msr, aI g 3 srf) :: (mrs, aI g 12 rsf) :: (mce, aI g 480 cef) :: (mcp, aI g 40 cpf) :: rest) [(0, .ref mo), (1, .int (nI j)), (2, .int way)] 34 [.int (bI (isM R C op kinds elders j way))]
      refine X_if_eq K0 41 dX5_through_34 (by decide) (fun h34 => ?_) (fun h34 => ?_)
      · refine X_iconst (v := 0) K0 dX5_through_41 (by decide) ?_
        exact hr _ _ _ _ ⟨by first | (rw [thVM, yes_if (p_yy (bI_n0.mp h10) (bI_n0.mp h19)), hclj, bI_n0.mp h34]; rfl) | (rw [thVM, yes_if (p_yy (bI_n0.mp h10) (bI_n0.mp h19)), hclj, bI_0.mp h34]; rfl), tq1, iq1, wq1, mef, true, (fun _ => hq1), rfl⟩ dX5_through_42
      · refine X_iconst (v := 1) K0 dX5_through_37 (by decide) ?_
        refine X_goto K0 42 dX5_through_38 (by decide) ?_
        exact hr _ _ _ _ ⟨by first | (rw [thVM, yes_if (p_yy (bI_n0.mp h10) (bI_n0.mp h19)), hclj, bI_n0.mp h34]; rfl) | (rw [thVM, yes_if (p_yy (bI_n0.mp h10) (bI_n0.mp h19)), hclj, bI_0.mp h34]; rfl), tq1, iq1, wq1, mef, true, (fun _ => hq1), rfl⟩ dX5_through_42
    · refine X_iconst (v := (-1)) K0 dX5_through_22 (by decide) ?_
      exact hr _ _ _ _ ⟨by rw [thVM, no_if (by first | exact p_n (bI_0.mp h10) | exact p_yn (bI_n0.mp h10) (bI_0.mp h19))], tof, iof, wyf, mef, hwb, hWY, rfl⟩ dX5_through_23

set_option maxRecDepth 20000 in
set_option maxHeartbeats 400000 in
theorem m_sizeOf (g : Gx) (c0 c1 c2 c3 c4 c5 c6 c7 c8 c9 c10 c11 : Nat × va_E) (mo mki mel mto mio mwy mme mhs mso msr mrs mce mcp : Nat) (tn stt : Int32) (tr : Int64) (R C : Nat) (op hwb : Bool) (kinds elders tof iof wyf mef hsf sof srf rsf cef cpf : Nat → Int32) (rest : va_W) (hR : 1 ≤ R ∧ R ≤ 5) (hC : 1 ≤ C ∧ C ≤ 5) (hf : Nat → Int32) (hJ : JH tof (R * C) hf) (h : Int32) : Con g yX5_sizeOf cX5_sizeOf 4 (some .int) 2 43 0 0 [.ref mo, .int h] (c0 :: c1 :: c2 :: c3 :: c4 :: c5 :: c6 :: c7 :: c8 :: c9 :: c10 :: c11 :: (mo, oModel tn stt tr (nI R) (nI C) (bI op) mki mel mto mio mwy (bI hwb) mme mhs mso msr mrs mce mcp) :: (mki, aI g 40 kinds) :: (mel, aI g 40 elders) :: (mto, aI g 25 tof) :: (mio, aZ g 40 iof) :: (mwy, aI g 4096 wyf) :: (mme, aZ g 36 mef) :: (mhs, aZ g 3 hsf) :: (mso, aI g 3 sof) :: (msr, aI g 3 srf) :: (mrs, aI g 12 rsf) :: (mce, aI g 480 cef) :: (mcp, aI g 40 cpf) :: rest) (Rs (some (.int (szN hf (R * C) h))) (c0 :: c1 :: c2 :: c3 :: c4 :: c5 :: c6 :: c7 :: c8 :: c9 :: c10 :: c11 :: (mo, oModel tn stt tr (nI R) (nI C) (bI op) mki mel mto mio mwy (bI hwb) mme mhs mso msr mrs mce mcp) :: (mki, aI g 40 kinds) :: (mel, aI g 40 elders) :: (mto, aI g 25 tof) :: (mio, aZ g 40 iof) :: (mwy, aI g 4096 wyf) :: (mme, aZ g 36 mef) :: (mhs, aZ g 3 hsf) :: (mso, aI g 3 sof) :: (msr, aI g 3 srf) :: (mrs, aI g 12 rsf) :: (mce, aI g 480 cef) :: (mcp, aI g 40 cpf) :: rest)) := by
  have hTM := th_M (op := op) hR hC
  have hPM := pl_M hR hC
  have hRM := rd_M hR hC
  refine Con.ofI (by decide +kernel) (Nat.le_of_ble_eq_true rfl) (fun φ K0 hr => ?_)
  show X φ 0 0 (c0 :: c1 :: c2 :: c3 :: c4 :: c5 :: c6 :: c7 :: c8 :: c9 :: c10 :: c11 :: (mo, oModel tn stt tr (nI R) (nI C) (bI op) mki mel mto mio mwy (bI hwb) mme mhs mso msr mrs mce mcp) :: (mki, aI g 40 kinds) :: (mel, aI g 40 elders) :: (mto, aI g 25 tof) :: (mio, aZ g 40 iof) :: (mwy, aI g 4096 wyf) :: (mme, aZ g 36 mef) :: (mhs, aZ g 3 hsf) :: (mso, aI g 3 sof) :: (msr, aI g 3 srf) :: (mrs, aI g 12 rsf) :: (mce, aI g 480 cef) :: (mcp, aI g 40 cpf) :: rest) [(0, .ref mo), (1, .int h)] 0 []
  refine X_iconst (v := 0) K0 dX5_sizeOf_0 (by decide) ?_
  refine X_istore_n (L' := [(2, .int 0), (0, .ref mo), (1, .int h)]) K0 dX5_sizeOf_1 rfl (by decide) rfl ?_
  refine X_iconst (v := 0) K0 dX5_sizeOf_2 (by decide) ?_
  refine X_istore_n (L' := [(3, .int 0), (2, .int 0), (0, .ref mo), (1, .int h)]) K0 dX5_sizeOf_3 rfl (by decide) rfl ?_
  refine X.sub [2, 3, 1, 0] (L' := [(0, .ref mo), (1, .int h), (2, .int 0), (3, .int 0)]) rfl ?_
  have LOOP : ∀ (dd ii : Nat), ii + dd = (R * C) → X φ 0 0 (c0 :: c1 :: c2 :: c3 :: c4 :: c5 :: c6 :: c7 :: c8 :: c9 :: c10 :: c11 :: (mo, oModel tn stt tr (nI R) (nI C) (bI op) mki mel mto mio mwy (bI hwb) mme mhs mso msr mrs mce mcp) :: (mki, aI g 40 kinds) :: (mel, aI g 40 elders) :: (mto, aI g 25 tof) :: (mio, aZ g 40 iof) :: (mwy, aI g 4096 wyf) :: (mme, aZ g 36 mef) :: (mhs, aZ g 3 hsf) :: (mso, aI g 3 sof) :: (msr, aI g 3 srf) :: (mrs, aI g 12 rsf) :: (mce, aI g 480 cef) :: (mcp, aI g 40 cpf) :: rest) [(0, .ref mo), (1, .int h), (2, .int (cnI (szQ hf h) ii)), (3, .int (nI ii))] 4 [] := by
    intro dd
    induction dd with
    | zero =>
      intro ii hii 
      have hii2 : (R * C) = ii := by omega
      subst hii2
      refine X_iload_n K0 3 dX5_sizeOf_4 rfl rfl ?_
      refine X_aload_n K0 0 dX5_sizeOf_5 rfl rfl ?_
      refine X_callV (As := []) (rest := [.int (nI (R * C))]) K0 12 (m_places g c0 c1 c2 c3 c4 c5 c6 c7 c8 c9 c10 c11 mo mki mel mto mio mwy mme mhs mso msr mrs mce mcp tn stt tr R C op hwb kinds elders tof iof wyf mef hsf sof srf rsf cef cpf rest hR hC ) mi_X5_places rfl rfl rfl ml_RX5_72 rfl (Nat.le_of_ble_eq_true rfl) (by decide) ⟨Nat.le_of_ble_eq_true rfl, Nat.le_of_ble_eq_true rfl⟩ rfl rfl dX5_sizeOf_6 ?_
      intro v w' hr'; obtain ⟨rfl, rfl⟩ := hr'
      show X φ 0 0 (c0 :: c1 :: c2 :: c3 :: c4 :: c5 :: c6 :: c7 :: c8 :: c9 :: c10 :: c11 :: (mo, oModel tn stt tr (nI R) (nI C) (bI op) mki mel mto mio mwy (bI hwb) mme mhs mso msr mrs mce mcp) :: (mki, aI g 40 kinds) :: (mel, aI g 40 elders) :: (mto, aI g 25 tof) :: (mio, aZ g 40 iof) :: (mwy, aI g 4096 wyf) :: (mme, aZ g 36 mef) :: (mhs, aZ g 3 hsf) :: (mso, aI g 3 sof) :: (msr, aI g 3 srf) :: (mrs, aI g 12 rsf) :: (mce, aI g 480 cef) :: (mcp, aI g 40 cpf) :: rest) [(0, .ref mo), (1, .int h), (2, .int (cnI (szQ hf h) (R * C))), (3, .int (nI (R * C)))] 9 [.int (nI (R * C)), .int (nI (R * C))]
      refine X_icmp_ge K0 41 dX5_sizeOf_9 (by decide) (fun h9 => ?_) (fun h9 => ?_)
      · refine X_iload_n K0 2 dX5_sizeOf_41 rfl rfl ?_
        exact hr _ _ _ _ ⟨rfl, rfl⟩ dX5_sizeOf_42
      · exact absurd (nI_le (Nat.le_refl _) (by omega)) h9
    | succ dd ih =>
      intro ii hii 
      have hlt : ii < (R * C) := by omega
      refine X_iload_n K0 3 dX5_sizeOf_4 rfl rfl ?_
      refine X_aload_n K0 0 dX5_sizeOf_5 rfl rfl ?_
      refine X_callV (As := []) (rest := [.int (nI ii)]) K0 12 (m_places g c0 c1 c2 c3 c4 c5 c6 c7 c8 c9 c10 c11 mo mki mel mto mio mwy mme mhs mso msr mrs mce mcp tn stt tr R C op hwb kinds elders tof iof wyf mef hsf sof srf rsf cef cpf rest hR hC ) mi_X5_places rfl rfl rfl ml_RX5_72 rfl (Nat.le_of_ble_eq_true rfl) (by decide) ⟨Nat.le_of_ble_eq_true rfl, Nat.le_of_ble_eq_true rfl⟩ rfl rfl dX5_sizeOf_6 ?_
      intro v w' hr'; obtain ⟨rfl, rfl⟩ := hr'
      show X φ 0 0 (c0 :: c1 :: c2 :: c3 :: c4 :: c5 :: c6 :: c7 :: c8 :: c9 :: c10 :: c11 :: (mo, oModel tn stt tr (nI R) (nI C) (bI op) mki mel mto mio mwy (bI hwb) mme mhs mso msr mrs mce mcp) :: (mki, aI g 40 kinds) :: (mel, aI g 40 elders) :: (mto, aI g 25 tof) :: (mio, aZ g 40 iof) :: (mwy, aI g 4096 wyf) :: (mme, aZ g 36 mef) :: (mhs, aZ g 3 hsf) :: (mso, aI g 3 sof) :: (msr, aI g 3 srf) :: (mrs, aI g 12 rsf) :: (mce, aI g 480 cef) :: (mcp, aI g 40 cpf) :: rest) [(0, .ref mo), (1, .int h), (2, .int (cnI (szQ hf h) ii)), (3, .int (nI ii))] 9 [.int (nI (R * C)), .int (nI ii)]
      refine X_icmp_ge K0 41 dX5_sizeOf_9 (by decide) (fun h9 => ?_) (fun h9 => ?_)
      · exact absurd h9 (nI_ge hlt (by omega))
      · refine X_iload_n K0 2 dX5_sizeOf_12 rfl rfl ?_
        refine X_iload_n K0 1 dX5_sizeOf_13 rfl rfl ?_
        refine X_bipush (v := (-9)) K0 dX5_sizeOf_14 (by decide) ?_
        refine X_icmp_eq K0 32 dX5_sizeOf_16 (by decide) (fun h16 => ?_) (fun h16 => ?_)
        · refine X_iconst (v := 0) K0 dX5_sizeOf_32 (by decide) ?_
          refine X_iadd K0 dX5_sizeOf_33 ?_
          refine X_istore_n (L' := [(2, .int ((cnI (szQ hf h) ii) + 0)), (0, .ref mo), (1, .int h), (3, .int (nI ii))]) K0 dX5_sizeOf_34 rfl (by decide) rfl ?_
          refine X_iinc (v := ((nI ii) + 1)) (L' := [(3, .int ((nI ii) + 1)), (2, .int ((cnI (szQ hf h) ii) + 0)), (0, .ref mo), (1, .int h)]) K0 3 dX5_sizeOf_35 rfl (by first | rfl | decide) (by decide) rfl ?_
          refine X_goto K0 4 dX5_sizeOf_38 (by decide) ?_
          refine X.sub [2, 3, 1, 0] (L' := [(0, .ref mo), (1, .int h), (2, .int ((cnI (szQ hf h) ii) + 0)), (3, .int ((nI ii) + 1))]) rfl ?_
          exact X_eq rfl (by first | (rw [nI_succ, cn_n0 (sz_n1 (hf := hf) (p := ii) h16)]) | (rw [nI_succ, cn_n0 (sz_n2 h25)]) | (rw [nI_succ, cn_y1 (sz_y h16 h25)])) rfl (ih (ii + 1) (by omega))
        · refine X_aload_n K0 0 dX5_sizeOf_19 rfl rfl ?_
          refine X_iload_n K0 3 dX5_sizeOf_20 rfl rfl ?_
          refine X_callV (As := [.int (nI ii)]) (rest := [.int (cnI (szQ hf h) ii)]) K0 12 (m_heapOf g c0 c1 c2 c3 c4 c5 c6 c7 c8 c9 c10 c11 mo mki mel mto mio mwy mme mhs mso msr mrs mce mcp tn stt tr R C op hwb kinds elders tof iof wyf mef hsf sof srf rsf cef cpf rest (pl_M hR hC) hf hJ ii (by omega)) mi_X5_heapOf rfl rfl rfl ml_RX5_129 rfl (Nat.le_of_ble_eq_true rfl) (by decide) ⟨Nat.le_of_ble_eq_true rfl, Nat.le_of_ble_eq_true rfl⟩ rfl rfl dX5_sizeOf_21 ?_
          intro v w' hr'; obtain ⟨rfl, rfl⟩ := hr'
          show X φ 0 0 (c0 :: c1 :: c2 :: c3 :: c4 :: c5 :: c6 :: c7 :: c8 :: c9 :: c10 :: c11 :: (mo, oModel tn stt tr (nI R) (nI C) (bI op) mki mel mto mio mwy (bI hwb) mme mhs mso msr mrs mce mcp) :: (mki, aI g 40 kinds) :: (mel, aI g 40 elders) :: (mto, aI g 25 tof) :: (mio, aZ g 40 iof) :: (mwy, aI g 4096 wyf) :: (mme, aZ g 36 mef) :: (mhs, aZ g 3 hsf) :: (mso, aI g 3 sof) :: (msr, aI g 3 srf) :: (mrs, aI g 12 rsf) :: (mce, aI g 480 cef) :: (mcp, aI g 40 cpf) :: rest) [(0, .ref mo), (1, .int h), (2, .int (cnI (szQ hf h) ii)), (3, .int (nI ii))] 24 [.int (hf ii), .int (cnI (szQ hf h) ii)]
          refine X_iload_n K0 1 dX5_sizeOf_24 rfl rfl ?_
          refine X_icmp_ne K0 32 dX5_sizeOf_25 (by decide) (fun h25 => ?_) (fun h25 => ?_)
          · refine X_iconst (v := 0) K0 dX5_sizeOf_32 (by decide) ?_
            refine X_iadd K0 dX5_sizeOf_33 ?_
            refine X_istore_n (L' := [(2, .int ((cnI (szQ hf h) ii) + 0)), (0, .ref mo), (1, .int h), (3, .int (nI ii))]) K0 dX5_sizeOf_34 rfl (by decide) rfl ?_
            refine X_iinc (v := ((nI ii) + 1)) (L' := [(3, .int ((nI ii) + 1)), (2, .int ((cnI (szQ hf h) ii) + 0)), (0, .ref mo), (1, .int h)]) K0 3 dX5_sizeOf_35 rfl (by first | rfl | decide) (by decide) rfl ?_
            refine X_goto K0 4 dX5_sizeOf_38 (by decide) ?_
            refine X.sub [2, 3, 1, 0] (L' := [(0, .ref mo), (1, .int h), (2, .int ((cnI (szQ hf h) ii) + 0)), (3, .int ((nI ii) + 1))]) rfl ?_
            exact X_eq rfl (by first | (rw [nI_succ, cn_n0 (sz_n1 (hf := hf) (p := ii) h16)]) | (rw [nI_succ, cn_n0 (sz_n2 h25)]) | (rw [nI_succ, cn_y1 (sz_y h16 h25)])) rfl (ih (ii + 1) (by omega))
          · refine X_iconst (v := 1) K0 dX5_sizeOf_28 (by decide) ?_
            refine X_goto K0 33 dX5_sizeOf_29 (by decide) ?_
            refine X_iadd K0 dX5_sizeOf_33 ?_
            refine X_istore_n (L' := [(2, .int ((cnI (szQ hf h) ii) + 1)), (0, .ref mo), (1, .int h), (3, .int (nI ii))]) K0 dX5_sizeOf_34 rfl (by decide) rfl ?_
            refine X_iinc (v := ((nI ii) + 1)) (L' := [(3, .int ((nI ii) + 1)), (2, .int ((cnI (szQ hf h) ii) + 1)), (0, .ref mo), (1, .int h)]) K0 3 dX5_sizeOf_35 rfl (by first | rfl | decide) (by decide) rfl ?_
            refine X_goto K0 4 dX5_sizeOf_38 (by decide) ?_
            refine X.sub [2, 3, 1, 0] (L' := [(0, .ref mo), (1, .int h), (2, .int ((cnI (szQ hf h) ii) + 1)), (3, .int ((nI ii) + 1))]) rfl ?_
            exact X_eq rfl (by first | (rw [nI_succ, cn_n0 (sz_n1 (hf := hf) (p := ii) h16)]) | (rw [nI_succ, cn_n0 (sz_n2 h25)]) | (rw [nI_succ, cn_y1 (sz_y h16 h25)])) rfl (ih (ii + 1) (by omega))
  exact LOOP (R * C) 0 (by omega)

set_option maxRecDepth 20000 in
set_option maxHeartbeats 400000 in
theorem m_heapCount (g : Gx) (c0 c1 c2 c3 c4 c5 c6 c7 c8 c9 c10 c11 : Nat × va_E) (mo mki mel mto mio mwy mme mhs mso msr mrs mce mcp : Nat) (tn stt : Int32) (tr : Int64) (R C : Nat) (op hwb : Bool) (kinds elders tof iof wyf mef hsf sof srf rsf cef cpf : Nat → Int32) (rest : va_W) (hR : 1 ≤ R ∧ R ≤ 5) (hC : 1 ≤ C ∧ C ≤ 5) (hf : Nat → Int32) (hJ : JH tof (R * C) hf) : Con g yX5_heapCount cX5_heapCount 3 (some .int) 2 43 0 0 [.ref mo] (c0 :: c1 :: c2 :: c3 :: c4 :: c5 :: c6 :: c7 :: c8 :: c9 :: c10 :: c11 :: (mo, oModel tn stt tr (nI R) (nI C) (bI op) mki mel mto mio mwy (bI hwb) mme mhs mso msr mrs mce mcp) :: (mki, aI g 40 kinds) :: (mel, aI g 40 elders) :: (mto, aI g 25 tof) :: (mio, aZ g 40 iof) :: (mwy, aI g 4096 wyf) :: (mme, aZ g 36 mef) :: (mhs, aZ g 3 hsf) :: (mso, aI g 3 sof) :: (msr, aI g 3 srf) :: (mrs, aI g 12 rsf) :: (mce, aI g 480 cef) :: (mcp, aI g 40 cpf) :: rest) (Rs (some (.int (cnI (hcQ hf) (R * C)))) (c0 :: c1 :: c2 :: c3 :: c4 :: c5 :: c6 :: c7 :: c8 :: c9 :: c10 :: c11 :: (mo, oModel tn stt tr (nI R) (nI C) (bI op) mki mel mto mio mwy (bI hwb) mme mhs mso msr mrs mce mcp) :: (mki, aI g 40 kinds) :: (mel, aI g 40 elders) :: (mto, aI g 25 tof) :: (mio, aZ g 40 iof) :: (mwy, aI g 4096 wyf) :: (mme, aZ g 36 mef) :: (mhs, aZ g 3 hsf) :: (mso, aI g 3 sof) :: (msr, aI g 3 srf) :: (mrs, aI g 12 rsf) :: (mce, aI g 480 cef) :: (mcp, aI g 40 cpf) :: rest)) := by
  have hTM := th_M (op := op) hR hC
  have hPM := pl_M hR hC
  have hRM := rd_M hR hC
  refine Con.ofI (by decide +kernel) (Nat.le_of_ble_eq_true rfl) (fun φ K0 hr => ?_)
  show X φ 0 0 (c0 :: c1 :: c2 :: c3 :: c4 :: c5 :: c6 :: c7 :: c8 :: c9 :: c10 :: c11 :: (mo, oModel tn stt tr (nI R) (nI C) (bI op) mki mel mto mio mwy (bI hwb) mme mhs mso msr mrs mce mcp) :: (mki, aI g 40 kinds) :: (mel, aI g 40 elders) :: (mto, aI g 25 tof) :: (mio, aZ g 40 iof) :: (mwy, aI g 4096 wyf) :: (mme, aZ g 36 mef) :: (mhs, aZ g 3 hsf) :: (mso, aI g 3 sof) :: (msr, aI g 3 srf) :: (mrs, aI g 12 rsf) :: (mce, aI g 480 cef) :: (mcp, aI g 40 cpf) :: rest) [(0, .ref mo)] 0 []
  refine X_iconst (v := 0) K0 dX5_heapCount_0 (by decide) ?_
  refine X_istore_n (L' := [(1, .int 0), (0, .ref mo)]) K0 dX5_heapCount_1 rfl (by decide) rfl ?_
  refine X_iconst (v := 0) K0 dX5_heapCount_2 (by decide) ?_
  refine X_istore_n (L' := [(2, .int 0), (1, .int 0), (0, .ref mo)]) K0 dX5_heapCount_3 rfl (by decide) rfl ?_
  refine X.sub [2, 1, 0] (L' := [(0, .ref mo), (1, .int 0), (2, .int 0)]) rfl ?_
  have LOOP : ∀ (dd ii : Nat), ii + dd = (R * C) → X φ 0 0 (c0 :: c1 :: c2 :: c3 :: c4 :: c5 :: c6 :: c7 :: c8 :: c9 :: c10 :: c11 :: (mo, oModel tn stt tr (nI R) (nI C) (bI op) mki mel mto mio mwy (bI hwb) mme mhs mso msr mrs mce mcp) :: (mki, aI g 40 kinds) :: (mel, aI g 40 elders) :: (mto, aI g 25 tof) :: (mio, aZ g 40 iof) :: (mwy, aI g 4096 wyf) :: (mme, aZ g 36 mef) :: (mhs, aZ g 3 hsf) :: (mso, aI g 3 sof) :: (msr, aI g 3 srf) :: (mrs, aI g 12 rsf) :: (mce, aI g 480 cef) :: (mcp, aI g 40 cpf) :: rest) [(0, .ref mo), (1, .int (cnI (hcQ hf) ii)), (2, .int (nI ii))] 4 [] := by
    intro dd
    induction dd with
    | zero =>
      intro ii hii 
      have hii2 : (R * C) = ii := by omega
      subst hii2
      refine X_iload_n K0 2 dX5_heapCount_4 rfl rfl ?_
      refine X_aload_n K0 0 dX5_heapCount_5 rfl rfl ?_
      refine X_callV (As := []) (rest := [.int (nI (R * C))]) K0 12 (m_places g c0 c1 c2 c3 c4 c5 c6 c7 c8 c9 c10 c11 mo mki mel mto mio mwy mme mhs mso msr mrs mce mcp tn stt tr R C op hwb kinds elders tof iof wyf mef hsf sof srf rsf cef cpf rest hR hC ) mi_X5_places rfl rfl rfl ml_RX5_72 rfl (Nat.le_of_ble_eq_true rfl) (by decide) ⟨Nat.le_of_ble_eq_true rfl, Nat.le_of_ble_eq_true rfl⟩ rfl rfl dX5_heapCount_6 ?_
      intro v w' hr'; obtain ⟨rfl, rfl⟩ := hr'
      show X φ 0 0 (c0 :: c1 :: c2 :: c3 :: c4 :: c5 :: c6 :: c7 :: c8 :: c9 :: c10 :: c11 :: (mo, oModel tn stt tr (nI R) (nI C) (bI op) mki mel mto mio mwy (bI hwb) mme mhs mso msr mrs mce mcp) :: (mki, aI g 40 kinds) :: (mel, aI g 40 elders) :: (mto, aI g 25 tof) :: (mio, aZ g 40 iof) :: (mwy, aI g 4096 wyf) :: (mme, aZ g 36 mef) :: (mhs, aZ g 3 hsf) :: (mso, aI g 3 sof) :: (msr, aI g 3 srf) :: (mrs, aI g 12 rsf) :: (mce, aI g 480 cef) :: (mcp, aI g 40 cpf) :: rest) [(0, .ref mo), (1, .int (cnI (hcQ hf) (R * C))), (2, .int (nI (R * C)))] 9 [.int (nI (R * C)), .int (nI (R * C))]
      refine X_icmp_ge K0 35 dX5_heapCount_9 (by decide) (fun h9 => ?_) (fun h9 => ?_)
      · refine X_iload_n K0 1 dX5_heapCount_35 rfl rfl ?_
        exact hr _ _ _ _ ⟨rfl, rfl⟩ dX5_heapCount_36
      · exact absurd (nI_le (Nat.le_refl _) (by omega)) h9
    | succ dd ih =>
      intro ii hii 
      have hlt : ii < (R * C) := by omega
      refine X_iload_n K0 2 dX5_heapCount_4 rfl rfl ?_
      refine X_aload_n K0 0 dX5_heapCount_5 rfl rfl ?_
      refine X_callV (As := []) (rest := [.int (nI ii)]) K0 12 (m_places g c0 c1 c2 c3 c4 c5 c6 c7 c8 c9 c10 c11 mo mki mel mto mio mwy mme mhs mso msr mrs mce mcp tn stt tr R C op hwb kinds elders tof iof wyf mef hsf sof srf rsf cef cpf rest hR hC ) mi_X5_places rfl rfl rfl ml_RX5_72 rfl (Nat.le_of_ble_eq_true rfl) (by decide) ⟨Nat.le_of_ble_eq_true rfl, Nat.le_of_ble_eq_true rfl⟩ rfl rfl dX5_heapCount_6 ?_
      intro v w' hr'; obtain ⟨rfl, rfl⟩ := hr'
      show X φ 0 0 (c0 :: c1 :: c2 :: c3 :: c4 :: c5 :: c6 :: c7 :: c8 :: c9 :: c10 :: c11 :: (mo, oModel tn stt tr (nI R) (nI C) (bI op) mki mel mto mio mwy (bI hwb) mme mhs mso msr mrs mce mcp) :: (mki, aI g 40 kinds) :: (mel, aI g 40 elders) :: (mto, aI g 25 tof) :: (mio, aZ g 40 iof) :: (mwy, aI g 4096 wyf) :: (mme, aZ g 36 mef) :: (mhs, aZ g 3 hsf) :: (mso, aI g 3 sof) :: (msr, aI g 3 srf) :: (mrs, aI g 12 rsf) :: (mce, aI g 480 cef) :: (mcp, aI g 40 cpf) :: rest) [(0, .ref mo), (1, .int (cnI (hcQ hf) ii)), (2, .int (nI ii))] 9 [.int (nI (R * C)), .int (nI ii)]
      refine X_icmp_ge K0 35 dX5_heapCount_9 (by decide) (fun h9 => ?_) (fun h9 => ?_)
      · exact absurd h9 (nI_ge hlt (by omega))
      · refine X_iload_n K0 1 dX5_heapCount_12 rfl rfl ?_
        refine X_aload_n K0 0 dX5_heapCount_13 rfl rfl ?_
        refine X_iload_n K0 2 dX5_heapCount_14 rfl rfl ?_
        refine X_callV (As := [.int (nI ii)]) (rest := [.int (cnI (hcQ hf) ii)]) K0 12 (m_heapOf g c0 c1 c2 c3 c4 c5 c6 c7 c8 c9 c10 c11 mo mki mel mto mio mwy mme mhs mso msr mrs mce mcp tn stt tr R C op hwb kinds elders tof iof wyf mef hsf sof srf rsf cef cpf rest (pl_M hR hC) hf hJ ii (by omega)) mi_X5_heapOf rfl rfl rfl ml_RX5_129 rfl (Nat.le_of_ble_eq_true rfl) (by decide) ⟨Nat.le_of_ble_eq_true rfl, Nat.le_of_ble_eq_true rfl⟩ rfl rfl dX5_heapCount_15 ?_
        intro v w' hr'; obtain ⟨rfl, rfl⟩ := hr'
        show X φ 0 0 (c0 :: c1 :: c2 :: c3 :: c4 :: c5 :: c6 :: c7 :: c8 :: c9 :: c10 :: c11 :: (mo, oModel tn stt tr (nI R) (nI C) (bI op) mki mel mto mio mwy (bI hwb) mme mhs mso msr mrs mce mcp) :: (mki, aI g 40 kinds) :: (mel, aI g 40 elders) :: (mto, aI g 25 tof) :: (mio, aZ g 40 iof) :: (mwy, aI g 4096 wyf) :: (mme, aZ g 36 mef) :: (mhs, aZ g 3 hsf) :: (mso, aI g 3 sof) :: (msr, aI g 3 srf) :: (mrs, aI g 12 rsf) :: (mce, aI g 480 cef) :: (mcp, aI g 40 cpf) :: rest) [(0, .ref mo), (1, .int (cnI (hcQ hf) ii)), (2, .int (nI ii))] 18 [.int (hf ii), .int (cnI (hcQ hf) ii)]
        refine X_iload_n K0 2 dX5_heapCount_18 rfl rfl ?_
        refine X_icmp_ne K0 26 dX5_heapCount_19 (by decide) (fun h19 => ?_) (fun h19 => ?_)
        · refine X_iconst (v := 0) K0 dX5_heapCount_26 (by decide) ?_
          refine X_iadd K0 dX5_heapCount_27 ?_
          refine X_istore_n (L' := [(1, .int ((cnI (hcQ hf) ii) + 0)), (0, .ref mo), (2, .int (nI ii))]) K0 dX5_heapCount_28 rfl (by decide) rfl ?_
          refine X_iinc (v := ((nI ii) + 1)) (L' := [(2, .int ((nI ii) + 1)), (1, .int ((cnI (hcQ hf) ii) + 0)), (0, .ref mo)]) K0 2 dX5_heapCount_29 rfl (by first | rfl | decide) (by decide) rfl ?_
          refine X_goto K0 4 dX5_heapCount_32 (by decide) ?_
          refine X.sub [2, 1, 0] (L' := [(0, .ref mo), (1, .int ((cnI (hcQ hf) ii) + 0)), (2, .int ((nI ii) + 1))]) rfl ?_
          exact X_eq rfl (by first | (rw [nI_succ, cn_n0 (p := hcQ hf) (i := ii) (decide_eq_false h19)]) | (rw [nI_succ, cn_y1 (p := hcQ hf) (i := ii) (decide_eq_true h19)])) rfl (ih (ii + 1) (by omega))
        · refine X_iconst (v := 1) K0 dX5_heapCount_22 (by decide) ?_
          refine X_goto K0 27 dX5_heapCount_23 (by decide) ?_
          refine X_iadd K0 dX5_heapCount_27 ?_
          refine X_istore_n (L' := [(1, .int ((cnI (hcQ hf) ii) + 1)), (0, .ref mo), (2, .int (nI ii))]) K0 dX5_heapCount_28 rfl (by decide) rfl ?_
          refine X_iinc (v := ((nI ii) + 1)) (L' := [(2, .int ((nI ii) + 1)), (1, .int ((cnI (hcQ hf) ii) + 1)), (0, .ref mo)]) K0 2 dX5_heapCount_29 rfl (by first | rfl | decide) (by decide) rfl ?_
          refine X_goto K0 4 dX5_heapCount_32 (by decide) ?_
          refine X.sub [2, 1, 0] (L' := [(0, .ref mo), (1, .int ((cnI (hcQ hf) ii) + 1)), (2, .int ((nI ii) + 1))]) rfl ?_
          exact X_eq rfl (by first | (rw [nI_succ, cn_n0 (p := hcQ hf) (i := ii) (decide_eq_false h19)]) | (rw [nI_succ, cn_y1 (p := hcQ hf) (i := ii) (decide_eq_true h19)])) rfl (ih (ii + 1) (by omega))
  exact LOOP (R * C) 0 (by omega)

set_option maxRecDepth 20000 in
set_option maxHeartbeats 400000 in
theorem m_heap (g : Gx) (c0 c1 c2 c3 c4 c5 c6 c7 c8 c9 c10 c11 : Nat × va_E) (mo mki mel mto mio mwy mme mhs mso msr mrs mce mcp : Nat) (tn stt : Int32) (tr : Int64) (R C : Nat) (op hwb : Bool) (kinds elders tof iof wyf mef hsf sof srf rsf cef cpf : Nat → Int32) (rest : va_W) (hR : 1 ≤ R ∧ R ≤ 5) (hC : 1 ≤ C ∧ C ≤ 5) (hKI : KI (thM R C op) kinds elders) (hWY : WY R C op kinds elders hwb wyf) (se x : Int32) : Con g yX5_heap cX5_heap 3 (some .int) 5 103 0 0 [.ref mo, .int se, .int x] (c0 :: c1 :: c2 :: c3 :: c4 :: c5 :: c6 :: c7 :: c8 :: c9 :: c10 :: c11 :: (mo, oModel tn stt tr (nI R) (nI C) (bI op) mki mel mto mio mwy (bI hwb) mme mhs mso msr mrs mce mcp) :: (mki, aI g 40 kinds) :: (mel, aI g 40 elders) :: (mto, aI g 25 tof) :: (mio, aZ g 40 iof) :: (mwy, aI g 4096 wyf) :: (mme, aZ g 36 mef) :: (mhs, aZ g 3 hsf) :: (mso, aI g 3 sof) :: (msr, aI g 3 srf) :: (mrs, aI g 12 rsf) :: (mce, aI g 480 cef) :: (mcp, aI g 40 cpf) :: rest) (fun v w' => v = some (.int (hpVM R C op kinds elders se x)) ∧ ∃ (tq iq wq mq : Nat → Int32) (hq : Bool), WY R C op kinds elders hq wq ∧ (c0 :: c1 :: c2 :: c3 :: c4 :: c5 :: c6 :: c7 :: c8 :: c9 :: c10 :: c11 :: (mo, oModel 0 stt tr (nI R) (nI C) (bI op) mki mel mto mio mwy (bI hq) mme mhs mso msr mrs mce mcp) :: (mki, aI g 40 kinds) :: (mel, aI g 40 elders) :: (mto, aI g 25 tq) :: (mio, aZ g 40 iq) :: (mwy, aI g 4096 wq) :: (mme, aZ g 36 mq) :: (mhs, aZ g 3 hsf) :: (mso, aI g 3 sof) :: (msr, aI g 3 srf) :: (mrs, aI g 12 rsf) :: (mce, aI g 480 cef) :: (mcp, aI g 40 cpf) :: rest) = w') := by
  have hTM := th_M (op := op) hR hC
  have hPM := pl_M hR hC
  have hRM := rd_M hR hC
  have hN := pow_m hKI.2
  have hM12 := hKI.2
  refine Con.ofI (by decide +kernel) (Nat.le_of_ble_eq_true rfl) (fun φ K0 hr => ?_)
  show X φ 0 0 (c0 :: c1 :: c2 :: c3 :: c4 :: c5 :: c6 :: c7 :: c8 :: c9 :: c10 :: c11 :: (mo, oModel tn stt tr (nI R) (nI C) (bI op) mki mel mto mio mwy (bI hwb) mme mhs mso msr mrs mce mcp) :: (mki, aI g 40 kinds) :: (mel, aI g 40 elders) :: (mto, aI g 25 tof) :: (mio, aZ g 40 iof) :: (mwy, aI g 4096 wyf) :: (mme, aZ g 36 mef) :: (mhs, aZ g 3 hsf) :: (mso, aI g 3 sof) :: (msr, aI g 3 srf) :: (mrs, aI g 12 rsf) :: (mce, aI g 480 cef) :: (mcp, aI g 40 cpf) :: rest) [(0, .ref mo), (1, .int se), (2, .int x)] 0 []
  refine X_aload_n K0 0 dX5_heap_0 rfl rfl ?_
  refine X_iconst (v := 0) K0 dX5_heap_1 (by decide) ?_
  refine X_put (w' := (c0 :: c1 :: c2 :: c3 :: c4 :: c5 :: c6 :: c7 :: c8 :: c9 :: c10 :: c11 :: (mo, oModel 0 stt tr (nI R) (nI C) (bI op) mki mel mto mio mwy (bI hwb) mme mhs mso msr mrs mce mcp) :: (mki, aI g 40 kinds) :: (mel, aI g 40 elders) :: (mto, aI g 25 tof) :: (mio, aZ g 40 iof) :: (mwy, aI g 4096 wyf) :: (mme, aZ g 36 mef) :: (mhs, aZ g 3 hsf) :: (mso, aI g 3 sof) :: (msr, aI g 3 srf) :: (mrs, aI g 12 rsf) :: (mce, aI g 480 cef) :: (mcp, aI g 40 cpf) :: rest)) K0 12 rfl rfl hin5 tyX5 tyX5_ok nmX5 0 (by decide) fl_RX5_58 rfl (tyX5_ok 0 (by decide)) rfl rfl (Nat.le_of_ble_eq_true rfl) dX5_heap_2 rfl ?_
  refine X_aload_n K0 0 dX5_heap_5 rfl rfl ?_
  refine X_iload_n K0 1 dX5_heap_6 rfl rfl ?_
  refine X_callV (As := [.int se]) (rest := []) K0 12 (m_isSetting g c0 c1 c2 c3 c4 c5 c6 c7 c8 c9 c10 c11 mo mki mel mto mio mwy mme mhs mso msr mrs mce mcp 0 stt tr R C op hwb kinds elders tof iof wyf mef hsf sof srf rsf cef cpf rest hR hC hKI se) mi_X5_isSetting rfl rfl rfl ml_RX5_107 rfl (Nat.le_of_ble_eq_true rfl) (by decide) ⟨Nat.le_of_ble_eq_true rfl, Nat.le_of_ble_eq_true rfl⟩ rfl rfl dX5_heap_7 ?_
  intro v w' hr'; obtain ⟨rfl, rfl⟩ := hr'
  show X φ 0 0 (c0 :: c1 :: c2 :: c3 :: c4 :: c5 :: c6 :: c7 :: c8 :: c9 :: c10 :: c11 :: (mo, oModel 0 stt tr (nI R) (nI C) (bI op) mki mel mto mio mwy (bI hwb) mme mhs mso msr mrs mce mcp) :: (mki, aI g 40 kinds) :: (mel, aI g 40 elders) :: (mto, aI g 25 tof) :: (mio, aZ g 40 iof) :: (mwy, aI g 4096 wyf) :: (mme, aZ g 36 mef) :: (mhs, aZ g 3 hsf) :: (mso, aI g 3 sof) :: (msr, aI g 3 srf) :: (mrs, aI g 12 rsf) :: (mce, aI g 480 cef) :: (mcp, aI g 40 cpf) :: rest) [(0, .ref mo), (1, .int se), (2, .int x)] 10 [.int (bI (wiB se 0 ((nI (2 ^ ctF kinds (thM R C op))) - 1)))]
  refine X_if_eq K0 21 dX5_heap_10 (by decide) (fun h10 => ?_) (fun h10 => ?_)
  · refine X_iconst (v := (-1)) K0 dX5_heap_21 (by decide) ?_
    exact hr _ _ _ _ ⟨by rw [hpVM, no_if (by first | exact p_n (bI_0.mp h10) | exact p_yn (bI_n0.mp h10) (bI_0.mp h18))], tof, iof, wyf, mef, hwb, hWY, rfl⟩ dX5_heap_22
  · refine X_aload_n K0 0 dX5_heap_13 rfl rfl ?_
    refine X_iload_n K0 2 dX5_heap_14 rfl rfl ?_
    refine X_callV (As := [.int x]) (rest := []) K0 12 (m_isPlace g c0 c1 c2 c3 c4 c5 c6 c7 c8 c9 c10 c11 mo mki mel mto mio mwy mme mhs mso msr mrs mce mcp 0 stt tr R C op hwb kinds elders tof iof wyf mef hsf sof srf rsf cef cpf rest hR hC x) mi_X5_isPlace rfl rfl rfl ml_RX5_155 rfl (Nat.le_of_ble_eq_true rfl) (by decide) ⟨Nat.le_of_ble_eq_true rfl, Nat.le_of_ble_eq_true rfl⟩ rfl rfl dX5_heap_15 ?_
    intro v w' hr'; obtain ⟨rfl, rfl⟩ := hr'
    show X φ 0 0 (c0 :: c1 :: c2 :: c3 :: c4 :: c5 :: c6 :: c7 :: c8 :: c9 :: c10 :: c11 :: (mo, oModel 0 stt tr (nI R) (nI C) (bI op) mki mel mto mio mwy (bI hwb) mme mhs mso msr mrs mce mcp) :: (mki, aI g 40 kinds) :: (mel, aI g 40 elders) :: (mto, aI g 25 tof) :: (mio, aZ g 40 iof) :: (mwy, aI g 4096 wyf) :: (mme, aZ g 36 mef) :: (mhs, aZ g 3 hsf) :: (mso, aI g 3 sof) :: (msr, aI g 3 srf) :: (mrs, aI g 12 rsf) :: (mce, aI g 480 cef) :: (mcp, aI g 40 cpf) :: rest) [(0, .ref mo), (1, .int se), (2, .int x)] 18 [.int (bI (wiB x 0 ((nI (R * C)) - 1)))]
    refine X_if_ne K0 23 dX5_heap_18 (by decide) (fun h18 => ?_) (fun h18 => ?_)
    · obtain ⟨j, hj, rfl⟩ := wi_of (bI_n0.mp h18) (by omega)
      have hclj : (nI j).toNatClampNeg = j := nI_clamp (by omega)
      refine X_aload_n K0 0 dX5_heap_23 rfl rfl ?_
      refine X_iload_n K0 1 dX5_heap_24 rfl rfl ?_
      refine X_callV (As := [.int se]) (rest := []) K0 12 (m_joins g c0 c1 c2 c3 c4 c5 c6 c7 c8 c9 c10 c11 mo mki mel mto mio mwy mme mhs mso msr mrs mce mcp 0 stt tr R C op hwb kinds elders tof iof wyf mef hsf sof srf rsf cef cpf rest hR hC hKI se) mi_X5_joins rfl rfl rfl ml_RX5_132 rfl (Nat.le_of_ble_eq_true rfl) (by decide) ⟨Nat.le_of_ble_eq_true rfl, Nat.le_of_ble_eq_true rfl⟩ rfl rfl dX5_heap_25 ?_
      intro v w' hr'; obtain ⟨rfl, rfl⟩ := hr'
      show X φ 0 0 (c0 :: c1 :: c2 :: c3 :: c4 :: c5 :: c6 :: c7 :: c8 :: c9 :: c10 :: c11 :: (mo, oModel 0 stt tr (nI R) (nI C) (bI op) mki mel mto mio mwy (bI hwb) mme mhs mso msr mrs mce mcp) :: (mki, aI g 40 kinds) :: (mel, aI g 40 elders) :: (mto, aI g 25 (ovr (R * C) (jC R C op (ioC kinds elders se) (rdM R C)) tof)) :: (mio, aZ g 40 (ovr (thM R C op) (ioC kinds elders se) iof)) :: (mwy, aI g 4096 wyf) :: (mme, aZ g 36 mef) :: (mhs, aZ g 3 hsf) :: (mso, aI g 3 sof) :: (msr, aI g 3 srf) :: (mrs, aI g 12 rsf) :: (mce, aI g 480 cef) :: (mcp, aI g 40 cpf) :: rest) [(0, .ref mo), (1, .int se), (2, .int (nI j))] 28 []
      refine X_aload_n K0 0 dX5_heap_28 rfl rfl ?_
      refine X_iload_n K0 2 dX5_heap_29 rfl rfl ?_
      refine X_callV (As := [.int (nI j)]) (rest := []) K0 12 (m_heapOf g c0 c1 c2 c3 c4 c5 c6 c7 c8 c9 c10 c11 mo mki mel mto mio mwy mme mhs mso msr mrs mce mcp 0 stt tr R C op hwb kinds elders (ovr (R * C) (jC R C op (ioC kinds elders se) (rdM R C)) tof) (ovr (thM R C op) (ioC kinds elders se) iof) wyf mef hsf sof srf rsf cef cpf rest (pl_M hR hC) (hM R C op kinds elders se) (ovr_JH (jC_uf hR hC _ _ _ (Nat.le_refl _)) (pl_M hR hC)) j (by omega)) mi_X5_heapOf rfl rfl rfl ml_RX5_129 rfl (Nat.le_of_ble_eq_true rfl) (by decide) ⟨Nat.le_of_ble_eq_true rfl, Nat.le_of_ble_eq_true rfl⟩ rfl rfl dX5_heap_30 ?_
      intro v w' hr'; obtain ⟨rfl, rfl⟩ := hr'
      show X φ 0 0 (c0 :: c1 :: c2 :: c3 :: c4 :: c5 :: c6 :: c7 :: c8 :: c9 :: c10 :: c11 :: (mo, oModel 0 stt tr (nI R) (nI C) (bI op) mki mel mto mio mwy (bI hwb) mme mhs mso msr mrs mce mcp) :: (mki, aI g 40 kinds) :: (mel, aI g 40 elders) :: (mto, aI g 25 (ovr (R * C) (jC R C op (ioC kinds elders se) (rdM R C)) tof)) :: (mio, aZ g 40 (ovr (thM R C op) (ioC kinds elders se) iof)) :: (mwy, aI g 4096 wyf) :: (mme, aZ g 36 mef) :: (mhs, aZ g 3 hsf) :: (mso, aI g 3 sof) :: (msr, aI g 3 srf) :: (mrs, aI g 12 rsf) :: (mce, aI g 480 cef) :: (mcp, aI g 40 cpf) :: rest) [(0, .ref mo), (1, .int se), (2, .int (nI j))] 33 [.int ((hM R C op kinds elders se) j)]
      exact hr _ _ _ _ ⟨by rw [hpVM, yes_if (p_yy (bI_n0.mp h10) (bI_n0.mp h18)), hclj], (ovr (R * C) (jC R C op (ioC kinds elders se) (rdM R C)) tof), (ovr (thM R C op) (ioC kinds elders se) iof), wyf, mef, hwb, hWY, rfl⟩ dX5_heap_33
    · refine X_iconst (v := (-1)) K0 dX5_heap_21 (by decide) ?_
      exact hr _ _ _ _ ⟨by rw [hpVM, no_if (by first | exact p_n (bI_0.mp h10) | exact p_yn (bI_n0.mp h10) (bI_0.mp h18))], tof, iof, wyf, mef, hwb, hWY, rfl⟩ dX5_heap_22

set_option maxRecDepth 20000 in
set_option maxHeartbeats 400000 in
theorem m_heaps (g : Gx) (c0 c1 c2 c3 c4 c5 c6 c7 c8 c9 c10 c11 : Nat × va_E) (mo mki mel mto mio mwy mme mhs mso msr mrs mce mcp : Nat) (tn stt : Int32) (tr : Int64) (R C : Nat) (op hwb : Bool) (kinds elders tof iof wyf mef hsf sof srf rsf cef cpf : Nat → Int32) (rest : va_W) (hR : 1 ≤ R ∧ R ≤ 5) (hC : 1 ≤ C ∧ C ≤ 5) (hKI : KI (thM R C op) kinds elders) (hWY : WY R C op kinds elders hwb wyf) (se what : Int32) : Con g yX5_heaps cX5_heaps 6 (some .int) 5 103 0 0 [.ref mo, .int se, .int what] (c0 :: c1 :: c2 :: c3 :: c4 :: c5 :: c6 :: c7 :: c8 :: c9 :: c10 :: c11 :: (mo, oModel tn stt tr (nI R) (nI C) (bI op) mki mel mto mio mwy (bI hwb) mme mhs mso msr mrs mce mcp) :: (mki, aI g 40 kinds) :: (mel, aI g 40 elders) :: (mto, aI g 25 tof) :: (mio, aZ g 40 iof) :: (mwy, aI g 4096 wyf) :: (mme, aZ g 36 mef) :: (mhs, aZ g 3 hsf) :: (mso, aI g 3 sof) :: (msr, aI g 3 srf) :: (mrs, aI g 12 rsf) :: (mce, aI g 480 cef) :: (mcp, aI g 40 cpf) :: rest) (fun v w' => v = some (.int (hsVM R C op kinds elders se what)) ∧ ∃ (tq iq wq mq : Nat → Int32) (hq : Bool), WY R C op kinds elders hq wq ∧ (c0 :: c1 :: c2 :: c3 :: c4 :: c5 :: c6 :: c7 :: c8 :: c9 :: c10 :: c11 :: (mo, oModel 0 stt tr (nI R) (nI C) (bI op) mki mel mto mio mwy (bI hq) mme mhs mso msr mrs mce mcp) :: (mki, aI g 40 kinds) :: (mel, aI g 40 elders) :: (mto, aI g 25 tq) :: (mio, aZ g 40 iq) :: (mwy, aI g 4096 wq) :: (mme, aZ g 36 mq) :: (mhs, aZ g 3 hsf) :: (mso, aI g 3 sof) :: (msr, aI g 3 srf) :: (mrs, aI g 12 rsf) :: (mce, aI g 480 cef) :: (mcp, aI g 40 cpf) :: rest) = w') := by
  have hTM := th_M (op := op) hR hC
  have hPM := pl_M hR hC
  have hRM := rd_M hR hC
  have hN := pow_m hKI.2
  have hM12 := hKI.2
  refine Con.ofI (by decide +kernel) (Nat.le_of_ble_eq_true rfl) (fun φ K0 hr => ?_)
  show X φ 0 0 (c0 :: c1 :: c2 :: c3 :: c4 :: c5 :: c6 :: c7 :: c8 :: c9 :: c10 :: c11 :: (mo, oModel tn stt tr (nI R) (nI C) (bI op) mki mel mto mio mwy (bI hwb) mme mhs mso msr mrs mce mcp) :: (mki, aI g 40 kinds) :: (mel, aI g 40 elders) :: (mto, aI g 25 tof) :: (mio, aZ g 40 iof) :: (mwy, aI g 4096 wyf) :: (mme, aZ g 36 mef) :: (mhs, aZ g 3 hsf) :: (mso, aI g 3 sof) :: (msr, aI g 3 srf) :: (mrs, aI g 12 rsf) :: (mce, aI g 480 cef) :: (mcp, aI g 40 cpf) :: rest) [(0, .ref mo), (1, .int se), (2, .int what)] 0 []
  refine X_aload_n K0 0 dX5_heaps_0 rfl rfl ?_
  refine X_iconst (v := 0) K0 dX5_heaps_1 (by decide) ?_
  refine X_put (w' := (c0 :: c1 :: c2 :: c3 :: c4 :: c5 :: c6 :: c7 :: c8 :: c9 :: c10 :: c11 :: (mo, oModel 0 stt tr (nI R) (nI C) (bI op) mki mel mto mio mwy (bI hwb) mme mhs mso msr mrs mce mcp) :: (mki, aI g 40 kinds) :: (mel, aI g 40 elders) :: (mto, aI g 25 tof) :: (mio, aZ g 40 iof) :: (mwy, aI g 4096 wyf) :: (mme, aZ g 36 mef) :: (mhs, aZ g 3 hsf) :: (mso, aI g 3 sof) :: (msr, aI g 3 srf) :: (mrs, aI g 12 rsf) :: (mce, aI g 480 cef) :: (mcp, aI g 40 cpf) :: rest)) K0 12 rfl rfl hin5 tyX5 tyX5_ok nmX5 0 (by decide) fl_RX5_58 rfl (tyX5_ok 0 (by decide)) rfl rfl (Nat.le_of_ble_eq_true rfl) dX5_heaps_2 rfl ?_
  refine X_aload_n K0 0 dX5_heaps_5 rfl rfl ?_
  refine X_iload_n K0 1 dX5_heaps_6 rfl rfl ?_
  refine X_callV (As := [.int se]) (rest := []) K0 12 (m_isSetting g c0 c1 c2 c3 c4 c5 c6 c7 c8 c9 c10 c11 mo mki mel mto mio mwy mme mhs mso msr mrs mce mcp 0 stt tr R C op hwb kinds elders tof iof wyf mef hsf sof srf rsf cef cpf rest hR hC hKI se) mi_X5_isSetting rfl rfl rfl ml_RX5_107 rfl (Nat.le_of_ble_eq_true rfl) (by decide) ⟨Nat.le_of_ble_eq_true rfl, Nat.le_of_ble_eq_true rfl⟩ rfl rfl dX5_heaps_7 ?_
  intro v w' hr'; obtain ⟨rfl, rfl⟩ := hr'
  show X φ 0 0 (c0 :: c1 :: c2 :: c3 :: c4 :: c5 :: c6 :: c7 :: c8 :: c9 :: c10 :: c11 :: (mo, oModel 0 stt tr (nI R) (nI C) (bI op) mki mel mto mio mwy (bI hwb) mme mhs mso msr mrs mce mcp) :: (mki, aI g 40 kinds) :: (mel, aI g 40 elders) :: (mto, aI g 25 tof) :: (mio, aZ g 40 iof) :: (mwy, aI g 4096 wyf) :: (mme, aZ g 36 mef) :: (mhs, aZ g 3 hsf) :: (mso, aI g 3 sof) :: (msr, aI g 3 srf) :: (mrs, aI g 12 rsf) :: (mce, aI g 480 cef) :: (mcp, aI g 40 cpf) :: rest) [(0, .ref mo), (1, .int se), (2, .int what)] 10 [.int (bI (wiB se 0 ((nI (2 ^ ctF kinds (thM R C op))) - 1)))]
  refine X_if_eq K0 22 dX5_heaps_10 (by decide) (fun h10 => ?_) (fun h10 => ?_)
  · refine X_iconst (v := (-1)) K0 dX5_heaps_22 (by decide) ?_
    exact hr _ _ _ _ ⟨by rw [hsVM, no_if (by first | exact p_n (bI_0.mp h10) | exact p_yn (bI_n0.mp h10) (bI_0.mp h19))], tof, iof, wyf, mef, hwb, hWY, rfl⟩ dX5_heaps_23
  · refine X_iload_n K0 2 dX5_heaps_13 rfl rfl ?_
    refine X_iconst (v := 0) K0 dX5_heaps_14 (by decide) ?_
    refine X_iconst (v := 1) K0 dX5_heaps_15 (by decide) ?_
    refine X_callS (As := [.int what, .int 0, .int 1]) (rest := []) K0 (c_in g (c0 :: c1 :: c2 :: c3 :: c4 :: c5 :: c6 :: c7 :: c8 :: c9 :: c10 :: c11 :: (mo, oModel 0 stt tr (nI R) (nI C) (bI op) mki mel mto mio mwy (bI hwb) mme mhs mso msr mrs mce mcp) :: (mki, aI g 40 kinds) :: (mel, aI g 40 elders) :: (mto, aI g 25 tof) :: (mio, aZ g 40 iof) :: (mwy, aI g 4096 wyf) :: (mme, aZ g 36 mef) :: (mhs, aZ g 3 hsf) :: (mso, aI g 3 sof) :: (msr, aI g 3 srf) :: (mrs, aI g 12 rsf) :: (mce, aI g 480 cef) :: (mcp, aI g 40 cpf) :: rest) what 0 1) ms_X5_in rfl ml_RX5_81 rfl (Nat.le_of_ble_eq_true rfl) (by decide) ⟨Nat.le_of_ble_eq_true rfl, Nat.le_of_ble_eq_true rfl⟩ rfl rfl dX5_heaps_16 ?_
    intro v w' hr'; obtain ⟨rfl, rfl⟩ := hr'
    show X φ 0 0 (c0 :: c1 :: c2 :: c3 :: c4 :: c5 :: c6 :: c7 :: c8 :: c9 :: c10 :: c11 :: (mo, oModel 0 stt tr (nI R) (nI C) (bI op) mki mel mto mio mwy (bI hwb) mme mhs mso msr mrs mce mcp) :: (mki, aI g 40 kinds) :: (mel, aI g 40 elders) :: (mto, aI g 25 tof) :: (mio, aZ g 40 iof) :: (mwy, aI g 4096 wyf) :: (mme, aZ g 36 mef) :: (mhs, aZ g 3 hsf) :: (mso, aI g 3 sof) :: (msr, aI g 3 srf) :: (mrs, aI g 12 rsf) :: (mce, aI g 480 cef) :: (mcp, aI g 40 cpf) :: rest) [(0, .ref mo), (1, .int se), (2, .int what)] 19 [.int (bI (wiB what 0 1))]
    refine X_if_ne K0 24 dX5_heaps_19 (by decide) (fun h19 => ?_) (fun h19 => ?_)
    · refine X_aload_n K0 0 dX5_heaps_24 rfl rfl ?_
      refine X_iload_n K0 1 dX5_heaps_25 rfl rfl ?_
      refine X_callV (As := [.int se]) (rest := []) K0 12 (m_joins g c0 c1 c2 c3 c4 c5 c6 c7 c8 c9 c10 c11 mo mki mel mto mio mwy mme mhs mso msr mrs mce mcp 0 stt tr R C op hwb kinds elders tof iof wyf mef hsf sof srf rsf cef cpf rest hR hC hKI se) mi_X5_joins rfl rfl rfl ml_RX5_132 rfl (Nat.le_of_ble_eq_true rfl) (by decide) ⟨Nat.le_of_ble_eq_true rfl, Nat.le_of_ble_eq_true rfl⟩ rfl rfl dX5_heaps_26 ?_
      intro v w' hr'; obtain ⟨rfl, rfl⟩ := hr'
      show X φ 0 0 (c0 :: c1 :: c2 :: c3 :: c4 :: c5 :: c6 :: c7 :: c8 :: c9 :: c10 :: c11 :: (mo, oModel 0 stt tr (nI R) (nI C) (bI op) mki mel mto mio mwy (bI hwb) mme mhs mso msr mrs mce mcp) :: (mki, aI g 40 kinds) :: (mel, aI g 40 elders) :: (mto, aI g 25 (ovr (R * C) (jC R C op (ioC kinds elders se) (rdM R C)) tof)) :: (mio, aZ g 40 (ovr (thM R C op) (ioC kinds elders se) iof)) :: (mwy, aI g 4096 wyf) :: (mme, aZ g 36 mef) :: (mhs, aZ g 3 hsf) :: (mso, aI g 3 sof) :: (msr, aI g 3 srf) :: (mrs, aI g 12 rsf) :: (mce, aI g 480 cef) :: (mcp, aI g 40 cpf) :: rest) [(0, .ref mo), (1, .int se), (2, .int what)] 29 []
      refine X_iload_n K0 2 dX5_heaps_29 rfl rfl ?_
      refine X_if_ne K0 38 dX5_heaps_30 (by decide) (fun h30 => ?_) (fun h30 => ?_)
      · refine X_iconst (v := 0) K0 dX5_heaps_38 (by decide) ?_
        refine X_istore_n (L' := [(3, .int 0), (0, .ref mo), (1, .int se), (2, .int what)]) K0 dX5_heaps_39 rfl (by decide) rfl ?_
        refine X_iconst (v := 0) K0 dX5_heaps_40 (by decide) ?_
        refine X_istore (L' := [(4, .int 0), (3, .int 0), (0, .ref mo), (1, .int se), (2, .int what)]) K0 dX5_heaps_41 (by decide) rfl ?_
        refine X.sub [2, 3, 4, 1, 0] (L' := [(0, .ref mo), (1, .int se), (2, .int what), (3, .int 0), (4, .int 0)]) rfl ?_
        have LOOP : ∀ (dd ii : Nat), ii + dd = (R * C) → X φ 0 0 (c0 :: c1 :: c2 :: c3 :: c4 :: c5 :: c6 :: c7 :: c8 :: c9 :: c10 :: c11 :: (mo, oModel 0 stt tr (nI R) (nI C) (bI op) mki mel mto mio mwy (bI hwb) mme mhs mso msr mrs mce mcp) :: (mki, aI g 40 kinds) :: (mel, aI g 40 elders) :: (mto, aI g 25 (ovr (R * C) (jC R C op (ioC kinds elders se) (rdM R C)) tof)) :: (mio, aZ g 40 (ovr (thM R C op) (ioC kinds elders se) iof)) :: (mwy, aI g 4096 wyf) :: (mme, aZ g 36 mef) :: (mhs, aZ g 3 hsf) :: (mso, aI g 3 sof) :: (msr, aI g 3 srf) :: (mrs, aI g 12 rsf) :: (mce, aI g 480 cef) :: (mcp, aI g 40 cpf) :: rest) [(0, .ref mo), (1, .int se), (2, .int what), (3, .int (msN (hM R C op kinds elders se) (R * C) ii)), (4, .int (nI ii))] 43 [] := by
          intro dd
          induction dd with
          | zero =>
            intro ii hii 
            have hii2 : (R * C) = ii := by omega
            subst hii2
            refine X_iload K0 4 dX5_heaps_43 rfl ?_
            refine X_aload_n K0 0 dX5_heaps_45 rfl rfl ?_
            refine X_callV (As := []) (rest := [.int (nI (R * C))]) K0 12 (m_places g c0 c1 c2 c3 c4 c5 c6 c7 c8 c9 c10 c11 mo mki mel mto mio mwy mme mhs mso msr mrs mce mcp 0 stt tr R C op hwb kinds elders (ovr (R * C) (jC R C op (ioC kinds elders se) (rdM R C)) tof) (ovr (thM R C op) (ioC kinds elders se) iof) wyf mef hsf sof srf rsf cef cpf rest hR hC ) mi_X5_places rfl rfl rfl ml_RX5_72 rfl (Nat.le_of_ble_eq_true rfl) (by decide) ⟨Nat.le_of_ble_eq_true rfl, Nat.le_of_ble_eq_true rfl⟩ rfl rfl dX5_heaps_46 ?_
            intro v w' hr'; obtain ⟨rfl, rfl⟩ := hr'
            show X φ 0 0 (c0 :: c1 :: c2 :: c3 :: c4 :: c5 :: c6 :: c7 :: c8 :: c9 :: c10 :: c11 :: (mo, oModel 0 stt tr (nI R) (nI C) (bI op) mki mel mto mio mwy (bI hwb) mme mhs mso msr mrs mce mcp) :: (mki, aI g 40 kinds) :: (mel, aI g 40 elders) :: (mto, aI g 25 (ovr (R * C) (jC R C op (ioC kinds elders se) (rdM R C)) tof)) :: (mio, aZ g 40 (ovr (thM R C op) (ioC kinds elders se) iof)) :: (mwy, aI g 4096 wyf) :: (mme, aZ g 36 mef) :: (mhs, aZ g 3 hsf) :: (mso, aI g 3 sof) :: (msr, aI g 3 srf) :: (mrs, aI g 12 rsf) :: (mce, aI g 480 cef) :: (mcp, aI g 40 cpf) :: rest) [(0, .ref mo), (1, .int se), (2, .int what), (3, .int (msN (hM R C op kinds elders se) (R * C) (R * C))), (4, .int (nI (R * C)))] 49 [.int (nI (R * C)), .int (nI (R * C))]
            refine X_icmp_ge K0 83 dX5_heaps_49 (by decide) (fun h49 => ?_) (fun h49 => ?_)
            · refine X_iload_n K0 3 dX5_heaps_83 rfl rfl ?_
              exact hr _ _ _ _ ⟨by first | (rw [hsVM, yes_if (p_yy (bI_n0.mp h10) (bI_n0.mp h19)), if_pos h30]) | (rw [hsVM, yes_if (p_yy (bI_n0.mp h10) (bI_n0.mp h19)), if_neg h30]), (ovr (R * C) (jC R C op (ioC kinds elders se) (rdM R C)) tof), (ovr (thM R C op) (ioC kinds elders se) iof), wyf, mef, hwb, hWY, rfl⟩ dX5_heaps_84
            · exact absurd (nI_le (Nat.le_refl _) (by omega)) h49
          | succ dd ih =>
            intro ii hii 
            have hlt : ii < (R * C) := by omega
            refine X_iload K0 4 dX5_heaps_43 rfl ?_
            refine X_aload_n K0 0 dX5_heaps_45 rfl rfl ?_
            refine X_callV (As := []) (rest := [.int (nI ii)]) K0 12 (m_places g c0 c1 c2 c3 c4 c5 c6 c7 c8 c9 c10 c11 mo mki mel mto mio mwy mme mhs mso msr mrs mce mcp 0 stt tr R C op hwb kinds elders (ovr (R * C) (jC R C op (ioC kinds elders se) (rdM R C)) tof) (ovr (thM R C op) (ioC kinds elders se) iof) wyf mef hsf sof srf rsf cef cpf rest hR hC ) mi_X5_places rfl rfl rfl ml_RX5_72 rfl (Nat.le_of_ble_eq_true rfl) (by decide) ⟨Nat.le_of_ble_eq_true rfl, Nat.le_of_ble_eq_true rfl⟩ rfl rfl dX5_heaps_46 ?_
            intro v w' hr'; obtain ⟨rfl, rfl⟩ := hr'
            show X φ 0 0 (c0 :: c1 :: c2 :: c3 :: c4 :: c5 :: c6 :: c7 :: c8 :: c9 :: c10 :: c11 :: (mo, oModel 0 stt tr (nI R) (nI C) (bI op) mki mel mto mio mwy (bI hwb) mme mhs mso msr mrs mce mcp) :: (mki, aI g 40 kinds) :: (mel, aI g 40 elders) :: (mto, aI g 25 (ovr (R * C) (jC R C op (ioC kinds elders se) (rdM R C)) tof)) :: (mio, aZ g 40 (ovr (thM R C op) (ioC kinds elders se) iof)) :: (mwy, aI g 4096 wyf) :: (mme, aZ g 36 mef) :: (mhs, aZ g 3 hsf) :: (mso, aI g 3 sof) :: (msr, aI g 3 srf) :: (mrs, aI g 12 rsf) :: (mce, aI g 480 cef) :: (mcp, aI g 40 cpf) :: rest) [(0, .ref mo), (1, .int se), (2, .int what), (3, .int (msN (hM R C op kinds elders se) (R * C) ii)), (4, .int (nI ii))] 49 [.int (nI (R * C)), .int (nI ii)]
            refine X_icmp_ge K0 83 dX5_heaps_49 (by decide) (fun h49 => ?_) (fun h49 => ?_)
            · exact absurd h49 (nI_ge hlt (by omega))
            · refine X_aload_n K0 0 dX5_heaps_52 rfl rfl ?_
              refine X_aload_n K0 0 dX5_heaps_53 rfl rfl ?_
              refine X_iload K0 4 dX5_heaps_54 rfl ?_
              refine X_callV (As := [.int (nI ii)]) (rest := [.ref mo]) K0 12 (m_heapOf g c0 c1 c2 c3 c4 c5 c6 c7 c8 c9 c10 c11 mo mki mel mto mio mwy mme mhs mso msr mrs mce mcp 0 stt tr R C op hwb kinds elders (ovr (R * C) (jC R C op (ioC kinds elders se) (rdM R C)) tof) (ovr (thM R C op) (ioC kinds elders se) iof) wyf mef hsf sof srf rsf cef cpf rest (pl_M hR hC) (hM R C op kinds elders se) (ovr_JH (jC_uf hR hC _ _ _ (Nat.le_refl _)) (pl_M hR hC)) ii (by omega)) mi_X5_heapOf rfl rfl rfl ml_RX5_129 rfl (Nat.le_of_ble_eq_true rfl) (by decide) ⟨Nat.le_of_ble_eq_true rfl, Nat.le_of_ble_eq_true rfl⟩ rfl rfl dX5_heaps_56 ?_
              intro v w' hr'; obtain ⟨rfl, rfl⟩ := hr'
              show X φ 0 0 (c0 :: c1 :: c2 :: c3 :: c4 :: c5 :: c6 :: c7 :: c8 :: c9 :: c10 :: c11 :: (mo, oModel 0 stt tr (nI R) (nI C) (bI op) mki mel mto mio mwy (bI hwb) mme mhs mso msr mrs mce mcp) :: (mki, aI g 40 kinds) :: (mel, aI g 40 elders) :: (mto, aI g 25 (ovr (R * C) (jC R C op (ioC kinds elders se) (rdM R C)) tof)) :: (mio, aZ g 40 (ovr (thM R C op) (ioC kinds elders se) iof)) :: (mwy, aI g 4096 wyf) :: (mme, aZ g 36 mef) :: (mhs, aZ g 3 hsf) :: (mso, aI g 3 sof) :: (msr, aI g 3 srf) :: (mrs, aI g 12 rsf) :: (mce, aI g 480 cef) :: (mcp, aI g 40 cpf) :: rest) [(0, .ref mo), (1, .int se), (2, .int what), (3, .int (msN (hM R C op kinds elders se) (R * C) ii)), (4, .int (nI ii))] 59 [.int ((hM R C op kinds elders se) ii), .ref mo]
              refine X_callV (As := [.int ((hM R C op kinds elders se) ii)]) (rest := []) K0 12 (m_sizeOf g c0 c1 c2 c3 c4 c5 c6 c7 c8 c9 c10 c11 mo mki mel mto mio mwy mme mhs mso msr mrs mce mcp 0 stt tr R C op hwb kinds elders (ovr (R * C) (jC R C op (ioC kinds elders se) (rdM R C)) tof) (ovr (thM R C op) (ioC kinds elders se) iof) wyf mef hsf sof srf rsf cef cpf rest hR hC (hM R C op kinds elders se) (ovr_JH (jC_uf hR hC _ _ _ (Nat.le_refl _)) (pl_M hR hC)) ((hM R C op kinds elders se) ii)) mi_X5_sizeOf rfl rfl rfl ml_RX5_161 rfl (Nat.le_of_ble_eq_true rfl) (by decide) ⟨Nat.le_of_ble_eq_true rfl, Nat.le_of_ble_eq_true rfl⟩ rfl rfl dX5_heaps_59 ?_
              intro v w' hr'; obtain ⟨rfl, rfl⟩ := hr'
              show X φ 0 0 (c0 :: c1 :: c2 :: c3 :: c4 :: c5 :: c6 :: c7 :: c8 :: c9 :: c10 :: c11 :: (mo, oModel 0 stt tr (nI R) (nI C) (bI op) mki mel mto mio mwy (bI hwb) mme mhs mso msr mrs mce mcp) :: (mki, aI g 40 kinds) :: (mel, aI g 40 elders) :: (mto, aI g 25 (ovr (R * C) (jC R C op (ioC kinds elders se) (rdM R C)) tof)) :: (mio, aZ g 40 (ovr (thM R C op) (ioC kinds elders se) iof)) :: (mwy, aI g 4096 wyf) :: (mme, aZ g 36 mef) :: (mhs, aZ g 3 hsf) :: (mso, aI g 3 sof) :: (msr, aI g 3 srf) :: (mrs, aI g 12 rsf) :: (mce, aI g 480 cef) :: (mcp, aI g 40 cpf) :: rest) [(0, .ref mo), (1, .int se), (2, .int what), (3, .int (msN (hM R C op kinds elders se) (R * C) ii)), (4, .int (nI ii))] 62 [.int (szN (hM R C op kinds elders se) (R * C) ((hM R C op kinds elders se) ii))]
              refine X_istore (L' := [(5, .int (szN (hM R C op kinds elders se) (R * C) ((hM R C op kinds elders se) ii))), (0, .ref mo), (1, .int se), (2, .int what), (3, .int (msN (hM R C op kinds elders se) (R * C) ii)), (4, .int (nI ii))]) K0 dX5_heaps_62 (by decide) rfl ?_
              refine X_iload K0 0 dX5_heaps_64 rfl ?_
              refine X_iload_n K0 4 dX5_heaps_66 rfl rfl ?_
              refine X_icmp_le K0 75 dX5_heaps_67 (by decide) (fun h67 => ?_) (fun h67 => ?_)
              · refine X_iload_n K0 4 dX5_heaps_75 rfl rfl ?_
                refine X_istore_n (L' := [(3, .int (msN (hM R C op kinds elders se) (R * C) ii)), (5, .int (szN (hM R C op kinds elders se) (R * C) ((hM R C op kinds elders se) ii))), (0, .ref mo), (1, .int se), (2, .int what), (4, .int (nI ii))]) K0 dX5_heaps_76 rfl (by decide) rfl ?_
                refine X_iinc (v := ((nI ii) + 1)) (L' := [(4, .int ((nI ii) + 1)), (3, .int (msN (hM R C op kinds elders se) (R * C) ii)), (5, .int (szN (hM R C op kinds elders se) (R * C) ((hM R C op kinds elders se) ii))), (0, .ref mo), (1, .int se), (2, .int what)]) K0 5 dX5_heaps_77 rfl (by first | rfl | decide) (by decide) rfl ?_
                refine X_goto K0 43 dX5_heaps_80 (by decide) ?_
                refine X.sub [3, 4, 5, 1, 0] (L' := [(0, .ref mo), (1, .int se), (2, .int what), (3, .int (msN (hM R C op kinds elders se) (R * C) ii)), (4, .int ((nI ii) + 1))]) rfl ?_
                exact X_eq rfl (by first | (rw [nI_succ, msN, if_pos h67]) | (rw [nI_succ, msN, if_neg h67])) rfl (ih (ii + 1) (by omega))
              · refine X_iload K0 0 dX5_heaps_70 rfl ?_
                refine X_goto K0 76 dX5_heaps_72 (by decide) ?_
                refine X_istore_n (L' := [(3, .int (szN (hM R C op kinds elders se) (R * C) ((hM R C op kinds elders se) ii))), (5, .int (szN (hM R C op kinds elders se) (R * C) ((hM R C op kinds elders se) ii))), (0, .ref mo), (1, .int se), (2, .int what), (4, .int (nI ii))]) K0 dX5_heaps_76 rfl (by decide) rfl ?_
                refine X_iinc (v := ((nI ii) + 1)) (L' := [(4, .int ((nI ii) + 1)), (3, .int (szN (hM R C op kinds elders se) (R * C) ((hM R C op kinds elders se) ii))), (5, .int (szN (hM R C op kinds elders se) (R * C) ((hM R C op kinds elders se) ii))), (0, .ref mo), (1, .int se), (2, .int what)]) K0 5 dX5_heaps_77 rfl (by first | rfl | decide) (by decide) rfl ?_
                refine X_goto K0 43 dX5_heaps_80 (by decide) ?_
                refine X.sub [3, 4, 5, 1, 0] (L' := [(0, .ref mo), (1, .int se), (2, .int what), (3, .int (szN (hM R C op kinds elders se) (R * C) ((hM R C op kinds elders se) ii))), (4, .int ((nI ii) + 1))]) rfl ?_
                exact X_eq rfl (by first | (rw [nI_succ, msN, if_pos h67]) | (rw [nI_succ, msN, if_neg h67])) rfl (ih (ii + 1) (by omega))
        exact LOOP (R * C) 0 (by omega)
      · refine X_aload_n K0 0 dX5_heaps_33 rfl rfl ?_
        refine X_callV (As := []) (rest := []) K0 12 (m_heapCount g c0 c1 c2 c3 c4 c5 c6 c7 c8 c9 c10 c11 mo mki mel mto mio mwy mme mhs mso msr mrs mce mcp 0 stt tr R C op hwb kinds elders (ovr (R * C) (jC R C op (ioC kinds elders se) (rdM R C)) tof) (ovr (thM R C op) (ioC kinds elders se) iof) wyf mef hsf sof srf rsf cef cpf rest hR hC (hM R C op kinds elders se) (ovr_JH (jC_uf hR hC _ _ _ (Nat.le_refl _)) (pl_M hR hC))) mi_X5_heapCount rfl rfl rfl ml_RX5_158 rfl (Nat.le_of_ble_eq_true rfl) (by decide) ⟨Nat.le_of_ble_eq_true rfl, Nat.le_of_ble_eq_true rfl⟩ rfl rfl dX5_heaps_34 ?_
        intro v w' hr'; obtain ⟨rfl, rfl⟩ := hr'
        show X φ 0 0 (c0 :: c1 :: c2 :: c3 :: c4 :: c5 :: c6 :: c7 :: c8 :: c9 :: c10 :: c11 :: (mo, oModel 0 stt tr (nI R) (nI C) (bI op) mki mel mto mio mwy (bI hwb) mme mhs mso msr mrs mce mcp) :: (mki, aI g 40 kinds) :: (mel, aI g 40 elders) :: (mto, aI g 25 (ovr (R * C) (jC R C op (ioC kinds elders se) (rdM R C)) tof)) :: (mio, aZ g 40 (ovr (thM R C op) (ioC kinds elders se) iof)) :: (mwy, aI g 4096 wyf) :: (mme, aZ g 36 mef) :: (mhs, aZ g 3 hsf) :: (mso, aI g 3 sof) :: (msr, aI g 3 srf) :: (mrs, aI g 12 rsf) :: (mce, aI g 480 cef) :: (mcp, aI g 40 cpf) :: rest) [(0, .ref mo), (1, .int se), (2, .int what)] 37 [.int (cnI (hcQ (hM R C op kinds elders se)) (R * C))]
        exact hr _ _ _ _ ⟨by first | (rw [hsVM, yes_if (p_yy (bI_n0.mp h10) (bI_n0.mp h19)), if_pos h30]) | (rw [hsVM, yes_if (p_yy (bI_n0.mp h10) (bI_n0.mp h19)), if_neg h30]), (ovr (R * C) (jC R C op (ioC kinds elders se) (rdM R C)) tof), (ovr (thM R C op) (ioC kinds elders se) iof), wyf, mef, hwb, hWY, rfl⟩ dX5_heaps_37
    · refine X_iconst (v := (-1)) K0 dX5_heaps_22 (by decide) ?_
      exact hr _ _ _ _ ⟨by rw [hsVM, no_if (by first | exact p_n (bI_0.mp h10) | exact p_yn (bI_n0.mp h10) (bI_0.mp h19))], tof, iof, wyf, mef, hwb, hWY, rfl⟩ dX5_heaps_23
