set_option maxRecDepth 20000 in
set_option maxHeartbeats 400000 in
theorem law_18 {φ : Fx} {g : Gx} {nm : String} {b Ln qB o mo ii k n : Nat} {xs : Nat → Int32} {w : va_W} (K0 : Cx φ g ⟨RL, nm, ""⟩ cL_law 4 9 328 600000 7302250) (hsc : Sc φ b Ln xs) (hB : Sb φ qB) (hii : ii + 8 ≤ Ln) (hLn : Ln ≤ 4096) (hk : k + 2 ≤ 600000) (hn : n + 40 ≤ 7302250) (hI : IV g o mo w) (next : ∀ w', IV g o mo w' → X φ (k + 2) (n + 40) w' [(0, .ref b), (1, .ref o), (2, .ref mo), (3, .int (nI ii))] 1101 []) : X φ k n w [(0, .ref b), (1, .ref o), (2, .ref mo), (3, .int (nI ii))] 805 [] := by
  obtain ⟨pl, sl, th, ki, el, nu, wa, wo, pg, ga, sh, mki, mel, mto, mio, mwy, mme, mhs, mso, msr, mrs, mce, mcp, R, C, op, T, slots, ap, rr, rd, m, al, kinds, elders, numbers, waf, wof, sp, sg, shf, asked, fi, tn, hwb, tof, iof, wyf, mef, hsf, sof, srf, rsf, cef, cpf, pool, abs, hIVw⟩ := hI
  obtain ⟨rfl, hRL, hWY, hPO, hMS⟩ := hIVw
  have hTe := hRL.2.2.1
  have hme := hRL.meq
  subst hTe
  subst hme
  have hR := hRL.1
  have hC := hRL.2.1
  have hKI := hRL.2.2.2.2.2.2.2.1
  have hDV := hRL.2.2.2.2.2.2.2.2
  have hT := th_M (op := op) hR hC
  have hm := hKI.2
  show X φ k n ((o, oMain pl th pg ga sh asked fi) :: (pl, oPlan (nI R) (nI C) (bI op) (nI (thM R C op)) ap rr rd sl) :: (sl, aI g 40 slots) :: (th, oThings pl ki el nu (nI (ctF kinds (thM R C op))) al wa wo) :: (ki, aI g 40 kinds) :: (el, aI g 40 elders) :: (nu, aI g 40 numbers) :: (wa, aJ g 12 waf) :: (wo, aJ g 12 wof) :: (pg, oGrid (nI R) (nI C) sp.1 sp.2.1 sp.2.2) :: (ga, oGrid sg.1 sg.2.1 sg.2.2.1 sg.2.2.2.1 sg.2.2.2.2) :: (sh, aS g 3 shf) :: (mo, oModel tn fi asked (nI R) (nI C) (bI op) mki mel mto mio mwy (bI hwb) mme mhs mso msr mrs mce mcp) :: (mki, aI g 40 kinds) :: (mel, aI g 40 elders) :: (mto, aI g 25 tof) :: (mio, aZ g 40 iof) :: (mwy, aI g 4096 wyf) :: (mme, aZ g 36 mef) :: (mhs, aZ g 3 hsf) :: (mso, aI g 3 sof) :: (msr, aI g 3 srf) :: (mrs, aI g 12 rsf) :: (mce, aI g 480 cef) :: (mcp, aI g 40 cpf) :: pool) [(0, .ref b), (1, .ref o), (2, .ref mo), (3, .int (nI ii))] 805 []
  refine X_aload_n K0 1 dL_law_805 rfl rfl ?_
  refine X_aload_n K0 0 dL_law_806 rfl rfl ?_
  refine X_iload_n K0 3 dL_law_807 rfl rfl ?_
  refine X_iconst (v := 1) K0 dL_law_808 (by decide) ?_
  refine X_iadd K0 dL_law_809 ?_
  refine X_v (z := (nI (ii + 1))) (nI_add ii 1) ?_
  refine X_sld K0 hsc (by omega) hLn dL_law_810 ?_
  refine X_aload_n K0 0 dL_law_811 rfl rfl ?_
  refine X_iload_n K0 3 dL_law_812 rfl rfl ?_
  refine X_iconst (v := 2) K0 dL_law_813 (by decide) ?_
  refine X_iadd K0 dL_law_814 ?_
  refine X_v (z := (nI (ii + 2))) (nI_add ii 2) ?_
  refine X_sld K0 hsc (by omega) hLn dL_law_815 ?_
  refine X_aload_n K0 0 dL_law_816 rfl rfl ?_
  refine X_iload_n K0 3 dL_law_817 rfl rfl ?_
  refine X_iconst (v := 3) K0 dL_law_818 (by decide) ?_
  refine X_iadd K0 dL_law_819 ?_
  refine X_v (z := (nI (ii + 3))) (nI_add ii 3) ?_
  refine X_sld K0 hsc (by omega) hLn dL_law_820 ?_
  refine X_callV (As := [.int (xs ((ii + 1))), .int (xs ((ii + 2))), .int (xs ((ii + 3)))]) (rest := []) K0 0 (c_sheet g o pl th pg ga sh (pl, oPlan (nI R) (nI C) (bI op) (nI (thM R C op)) ap rr rd sl) (sl, aI g 40 slots) (th, oThings pl ki el nu (nI (ctF kinds (thM R C op))) al wa wo) (ki, aI g 40 kinds) (el, aI g 40 elders) (nu, aI g 40 numbers) (wa, aJ g 12 waf) (wo, aJ g 12 wof) (pg, oGrid (nI R) (nI C) sp.1 sp.2.1 sp.2.2) (ga, oGrid sg.1 sg.2.1 sg.2.2.1 sg.2.2.2.1 sg.2.2.2.2) (mo, oModel tn fi asked (nI R) (nI C) (bI op) mki mel mto mio mwy (bI hwb) mme mhs mso msr mrs mce mcp) (mki, aI g 40 kinds) (mel, aI g 40 elders) (mto, aI g 25 tof) (mio, aZ g 40 iof) (mwy, aI g 4096 wyf) (mme, aZ g 36 mef) (mhs, aZ g 3 hsf) (mso, aI g 3 sof) (msr, aI g 3 srf) (mrs, aI g 12 rsf) (mce, aI g 480 cef) (mcp, aI g 40 cpf) asked fi shf pool abs hPO (xs ((ii + 1))) (xs ((ii + 2))) (xs ((ii + 3)))) mi_X4_sheet rfl rfl rfl ml_RL_90 rfl (Nat.le_of_ble_eq_true rfl) (by decide) ⟨by omega, by omega⟩ rfl rfl dL_law_821 ?_
  intro v w' hr'; rcases hr' with ⟨hd1, rfl, rfl⟩ | ⟨hd1, rfl, j1, n1, shf1, pool1, hj1, hx1, hso1, hn1, hne1, hPO1, rfl⟩
  · show X φ (k + 2) (n + 6) ((o, oMain pl th pg ga sh asked (sheD (xs ((ii + 1))) (xs ((ii + 2))) (xs ((ii + 3))))) :: (pl, oPlan (nI R) (nI C) (bI op) (nI (thM R C op)) ap rr rd sl) :: (sl, aI g 40 slots) :: (th, oThings pl ki el nu (nI (ctF kinds (thM R C op))) al wa wo) :: (ki, aI g 40 kinds) :: (el, aI g 40 elders) :: (nu, aI g 40 numbers) :: (wa, aJ g 12 waf) :: (wo, aJ g 12 wof) :: (pg, oGrid (nI R) (nI C) sp.1 sp.2.1 sp.2.2) :: (ga, oGrid sg.1 sg.2.1 sg.2.2.1 sg.2.2.2.1 sg.2.2.2.2) :: (sh, aS g 3 shf) :: (mo, oModel tn fi asked (nI R) (nI C) (bI op) mki mel mto mio mwy (bI hwb) mme mhs mso msr mrs mce mcp) :: (mki, aI g 40 kinds) :: (mel, aI g 40 elders) :: (mto, aI g 25 tof) :: (mio, aZ g 40 iof) :: (mwy, aI g 4096 wyf) :: (mme, aZ g 36 mef) :: (mhs, aZ g 3 hsf) :: (mso, aI g 3 sof) :: (msr, aI g 3 srf) :: (mrs, aI g 12 rsf) :: (mce, aI g 480 cef) :: (mcp, aI g 40 cpf) :: pool) [(0, .ref b), (1, .ref o), (2, .ref mo), (3, .int (nI ii))] 824 [.int (sheD (xs ((ii + 1))) (xs ((ii + 2))) (xs ((ii + 3))))]
    refine X_aload_n K0 2 dL_law_824 rfl rfl ?_
    refine X_aload_n K0 0 dL_law_825 rfl rfl ?_
    refine X_iload_n K0 3 dL_law_826 rfl rfl ?_
    refine X_iconst (v := 1) K0 dL_law_827 (by decide) ?_
    refine X_iadd K0 dL_law_828 ?_
    refine X_v (z := (nI (ii + 1))) (nI_add ii 1) ?_
    refine X_sld K0 hsc (by omega) hLn dL_law_829 ?_
    refine X_aload_n K0 0 dL_law_830 rfl rfl ?_
    refine X_iload_n K0 3 dL_law_831 rfl rfl ?_
    refine X_iconst (v := 2) K0 dL_law_832 (by decide) ?_
    refine X_iadd K0 dL_law_833 ?_
    refine X_v (z := (nI (ii + 2))) (nI_add ii 2) ?_
    refine X_sld K0 hsc (by omega) hLn dL_law_834 ?_
    refine X_aload_n K0 0 dL_law_835 rfl rfl ?_
    refine X_iload_n K0 3 dL_law_836 rfl rfl ?_
    refine X_iconst (v := 3) K0 dL_law_837 (by decide) ?_
    refine X_iadd K0 dL_law_838 ?_
    refine X_v (z := (nI (ii + 3))) (nI_add ii 3) ?_
    refine X_sld K0 hsc (by omega) hLn dL_law_839 ?_
    refine X_callV (As := [.int (xs ((ii + 1))), .int (xs ((ii + 2))), .int (xs ((ii + 3)))]) (rest := [.int (sheD (xs ((ii + 1))) (xs ((ii + 2))) (xs ((ii + 3))))]) K0 12 (m_sheet g (o, oMain pl th pg ga sh asked (sheD (xs ((ii + 1))) (xs ((ii + 2))) (xs ((ii + 3))))) (pl, oPlan (nI R) (nI C) (bI op) (nI (thM R C op)) ap rr rd sl) (sl, aI g 40 slots) (th, oThings pl ki el nu (nI (ctF kinds (thM R C op))) al wa wo) (ki, aI g 40 kinds) (el, aI g 40 elders) (nu, aI g 40 numbers) (wa, aJ g 12 waf) (wo, aJ g 12 wof) (pg, oGrid (nI R) (nI C) sp.1 sp.2.1 sp.2.2) (ga, oGrid sg.1 sg.2.1 sg.2.2.1 sg.2.2.2.1 sg.2.2.2.2) (sh, aS g 3 shf) mo mki mel mto mio mwy mme mhs mso msr mrs mce mcp tn fi asked R C op hwb kinds elders tof iof wyf mef hsf sof srf rsf cef cpf pool abs hMS (xs ((ii + 1))) (xs ((ii + 2))) (xs ((ii + 3)))) mi_X5_sheet rfl rfl rfl ml_RL_93 rfl (Nat.le_of_ble_eq_true rfl) (by decide) ⟨by omega, by omega⟩ rfl rfl dL_law_840 ?_
    intro v w' hr'; rcases hr' with ⟨hd2, rfl, rfl⟩ | ⟨hd2, rfl, j2, n2, hs2, so2, sr2, rs2, hj2, hx2, hso2, hn2, hne2, hMS2, rfl⟩
    · show X φ (k + 2) (n + 6) ((o, oMain pl th pg ga sh asked (sheD (xs ((ii + 1))) (xs ((ii + 2))) (xs ((ii + 3))))) :: (pl, oPlan (nI R) (nI C) (bI op) (nI (thM R C op)) ap rr rd sl) :: (sl, aI g 40 slots) :: (th, oThings pl ki el nu (nI (ctF kinds (thM R C op))) al wa wo) :: (ki, aI g 40 kinds) :: (el, aI g 40 elders) :: (nu, aI g 40 numbers) :: (wa, aJ g 12 waf) :: (wo, aJ g 12 wof) :: (pg, oGrid (nI R) (nI C) sp.1 sp.2.1 sp.2.2) :: (ga, oGrid sg.1 sg.2.1 sg.2.2.1 sg.2.2.2.1 sg.2.2.2.2) :: (sh, aS g 3 shf) :: (mo, oModel 0 (sheD (xs ((ii + 1))) (xs ((ii + 2))) (xs ((ii + 3)))) asked (nI R) (nI C) (bI op) mki mel mto mio mwy (bI hwb) mme mhs mso msr mrs mce mcp) :: (mki, aI g 40 kinds) :: (mel, aI g 40 elders) :: (mto, aI g 25 tof) :: (mio, aZ g 40 iof) :: (mwy, aI g 4096 wyf) :: (mme, aZ g 36 mef) :: (mhs, aZ g 3 hsf) :: (mso, aI g 3 sof) :: (msr, aI g 3 srf) :: (mrs, aI g 12 rsf) :: (mce, aI g 480 cef) :: (mcp, aI g 40 cpf) :: pool) [(0, .ref b), (1, .ref o), (2, .ref mo), (3, .int (nI ii))] 843 [.int (sheD (xs ((ii + 1))) (xs ((ii + 2))) (xs ((ii + 3)))), .int (sheD (xs ((ii + 1))) (xs ((ii + 2))) (xs ((ii + 3))))]
      refine X_icmp_eq K0 1101 dL_law_843 (by decide) (fun _ => ?_) (fun h => absurd (rfl) h)
      exact X.widen (by omega) (by omega) (next _ ⟨pl, sl, th, ki, el, nu, wa, wo, pg, ga, sh, mki, mel, mto, mio, mwy, mme, mhs, mso, msr, mrs, mce, mcp, R, C, op, (thM R C op), slots, ap, rr, rd, (ctF kinds (thM R C op)), al, kinds, elders, numbers, waf, wof, sp, sg, shf, asked, (sheD (xs ((ii + 1))) (xs ((ii + 2))) (xs ((ii + 3)))), 0, hwb, tof, iof, wyf, mef, hsf, sof, srf, rsf, cef, cpf, pool, abs, ivmk rfl hRL hWY hPO hMS⟩)
    · exact absurd hd2 hd1
  · show X φ (k + 2) (n + 6) ((o, oMain pl th pg ga sh asked 0) :: (pl, oPlan (nI R) (nI C) (bI op) (nI (thM R C op)) ap rr rd sl) :: (sl, aI g 40 slots) :: (th, oThings pl ki el nu (nI (ctF kinds (thM R C op))) al wa wo) :: (ki, aI g 40 kinds) :: (el, aI g 40 elders) :: (nu, aI g 40 numbers) :: (wa, aJ g 12 waf) :: (wo, aJ g 12 wof) :: (pg, oGrid (nI R) (nI C) sp.1 sp.2.1 sp.2.2) :: (ga, oGrid sg.1 sg.2.1 sg.2.2.1 sg.2.2.2.1 sg.2.2.2.2) :: (sh, aS g 3 shf1) :: (mo, oModel tn fi asked (nI R) (nI C) (bI op) mki mel mto mio mwy (bI hwb) mme mhs mso msr mrs mce mcp) :: (mki, aI g 40 kinds) :: (mel, aI g 40 elders) :: (mto, aI g 25 tof) :: (mio, aZ g 40 iof) :: (mwy, aI g 4096 wyf) :: (mme, aZ g 36 mef) :: (mhs, aZ g 3 hsf) :: (mso, aI g 3 sof) :: (msr, aI g 3 srf) :: (mrs, aI g 12 rsf) :: (mce, aI g 480 cef) :: (mcp, aI g 40 cpf) :: pool1) [(0, .ref b), (1, .ref o), (2, .ref mo), (3, .int (nI ii))] 824 [.int 1]
    refine X_aload_n K0 2 dL_law_824 rfl rfl ?_
    refine X_aload_n K0 0 dL_law_825 rfl rfl ?_
    refine X_iload_n K0 3 dL_law_826 rfl rfl ?_
    refine X_iconst (v := 1) K0 dL_law_827 (by decide) ?_
    refine X_iadd K0 dL_law_828 ?_
    refine X_v (z := (nI (ii + 1))) (nI_add ii 1) ?_
    refine X_sld K0 hsc (by omega) hLn dL_law_829 ?_
    refine X_aload_n K0 0 dL_law_830 rfl rfl ?_
    refine X_iload_n K0 3 dL_law_831 rfl rfl ?_
    refine X_iconst (v := 2) K0 dL_law_832 (by decide) ?_
    refine X_iadd K0 dL_law_833 ?_
    refine X_v (z := (nI (ii + 2))) (nI_add ii 2) ?_
    refine X_sld K0 hsc (by omega) hLn dL_law_834 ?_
    refine X_aload_n K0 0 dL_law_835 rfl rfl ?_
    refine X_iload_n K0 3 dL_law_836 rfl rfl ?_
    refine X_iconst (v := 3) K0 dL_law_837 (by decide) ?_
    refine X_iadd K0 dL_law_838 ?_
    refine X_v (z := (nI (ii + 3))) (nI_add ii 3) ?_
    refine X_sld K0 hsc (by omega) hLn dL_law_839 ?_
    refine X_callV (As := [.int (xs ((ii + 1))), .int (xs ((ii + 2))), .int (xs ((ii + 3)))]) (rest := [.int 1]) K0 12 (m_sheet g (o, oMain pl th pg ga sh asked 0) (pl, oPlan (nI R) (nI C) (bI op) (nI (thM R C op)) ap rr rd sl) (sl, aI g 40 slots) (th, oThings pl ki el nu (nI (ctF kinds (thM R C op))) al wa wo) (ki, aI g 40 kinds) (el, aI g 40 elders) (nu, aI g 40 numbers) (wa, aJ g 12 waf) (wo, aJ g 12 wof) (pg, oGrid (nI R) (nI C) sp.1 sp.2.1 sp.2.2) (ga, oGrid sg.1 sg.2.1 sg.2.2.1 sg.2.2.2.1 sg.2.2.2.2) (sh, aS g 3 shf1) mo mki mel mto mio mwy mme mhs mso msr mrs mce mcp tn fi asked R C op hwb kinds elders tof iof wyf mef hsf sof srf rsf cef cpf pool1 abs hMS (xs ((ii + 1))) (xs ((ii + 2))) (xs ((ii + 3)))) mi_X5_sheet rfl rfl rfl ml_RL_93 rfl (Nat.le_of_ble_eq_true rfl) (by decide) ⟨by omega, by omega⟩ rfl rfl dL_law_840 ?_
    intro v w' hr'; rcases hr' with ⟨hd2, rfl, rfl⟩ | ⟨hd2, rfl, j2, n2, hs2, so2, sr2, rs2, hj2, hx2, hso2, hn2, hne2, hMS2, rfl⟩
    · exact absurd hd1 hd2
    · obtain rfl : j1 = j2 := nI_e40 (hx1.symm.trans hx2) (by omega) (by omega)
      obtain rfl : n1 = n2 := nI_e40 (hne1.symm.trans hne2) (by omega) (by omega)
      show X φ (k + 2) (n + 6) ((o, oMain pl th pg ga sh asked 0) :: (pl, oPlan (nI R) (nI C) (bI op) (nI (thM R C op)) ap rr rd sl) :: (sl, aI g 40 slots) :: (th, oThings pl ki el nu (nI (ctF kinds (thM R C op))) al wa wo) :: (ki, aI g 40 kinds) :: (el, aI g 40 elders) :: (nu, aI g 40 numbers) :: (wa, aJ g 12 waf) :: (wo, aJ g 12 wof) :: (pg, oGrid (nI R) (nI C) sp.1 sp.2.1 sp.2.2) :: (ga, oGrid sg.1 sg.2.1 sg.2.2.1 sg.2.2.2.1 sg.2.2.2.2) :: (sh, aS g 3 shf1) :: (mo, oModel 0 0 asked (nI R) (nI C) (bI op) mki mel mto mio mwy (bI hwb) mme mhs mso msr mrs mce mcp) :: (mki, aI g 40 kinds) :: (mel, aI g 40 elders) :: (mto, aI g 25 tof) :: (mio, aZ g 40 iof) :: (mwy, aI g 4096 wyf) :: (mme, aZ g 36 mef) :: (mhs, aZ g 3 hs2) :: (mso, aI g 3 so2) :: (msr, aI g 3 sr2) :: (mrs, aI g 12 rs2) :: (mce, aI g 480 cef) :: (mcp, aI g 40 cpf) :: pool1) [(0, .ref b), (1, .ref o), (2, .ref mo), (3, .int (nI ii))] 843 [.int 1, .int 1]
      refine X_icmp_eq K0 1101 dL_law_843 (by decide) (fun _ => ?_) (fun h => absurd (rfl) h)
      exact X.widen (by omega) (by omega) (next _ ⟨pl, sl, th, ki, el, nu, wa, wo, pg, ga, sh, mki, mel, mto, mio, mwy, mme, mhs, mso, msr, mrs, mce, mcp, R, C, op, (thM R C op), slots, ap, rr, rd, (ctF kinds (thM R C op)), al, kinds, elders, numbers, waf, wof, sp, sg, shf1, asked, 0, 0, hwb, tof, iof, wyf, mef, hs2, so2, sr2, rs2, cef, cpf, pool1, (upA abs j1 (some ((xs ((ii + 2))), n1, fun _ => none))), ivmk rfl hRL hWY hPO1 hMS2⟩)

set_option maxRecDepth 20000 in
set_option maxHeartbeats 400000 in
theorem law_19 {φ : Fx} {g : Gx} {nm : String} {b Ln qB o mo ii k n : Nat} {xs : Nat → Int32} {w : va_W} (K0 : Cx φ g ⟨RL, nm, ""⟩ cL_law 4 9 328 600000 7302250) (hsc : Sc φ b Ln xs) (hB : Sb φ qB) (hii : ii + 8 ≤ Ln) (hLn : Ln ≤ 4096) (hk : k + 2 ≤ 600000) (hn : n + 40 ≤ 7302250) (hI : IV g o mo w) (next : ∀ w', IV g o mo w' → X φ (k + 2) (n + 40) w' [(0, .ref b), (1, .ref o), (2, .ref mo), (3, .int (nI ii))] 1101 []) : X φ k n w [(0, .ref b), (1, .ref o), (2, .ref mo), (3, .int (nI ii))] 848 [] := by
  obtain ⟨pl, sl, th, ki, el, nu, wa, wo, pg, ga, sh, mki, mel, mto, mio, mwy, mme, mhs, mso, msr, mrs, mce, mcp, R, C, op, T, slots, ap, rr, rd, m, al, kinds, elders, numbers, waf, wof, sp, sg, shf, asked, fi, tn, hwb, tof, iof, wyf, mef, hsf, sof, srf, rsf, cef, cpf, pool, abs, hIVw⟩ := hI
  obtain ⟨rfl, hRL, hWY, hPO, hMS⟩ := hIVw
  have hTe := hRL.2.2.1
  have hme := hRL.meq
  subst hTe
  subst hme
  have hR := hRL.1
  have hC := hRL.2.1
  have hKI := hRL.2.2.2.2.2.2.2.1
  have hDV := hRL.2.2.2.2.2.2.2.2
  have hT := th_M (op := op) hR hC
  have hm := hKI.2
  show X φ k n ((o, oMain pl th pg ga sh asked fi) :: (pl, oPlan (nI R) (nI C) (bI op) (nI (thM R C op)) ap rr rd sl) :: (sl, aI g 40 slots) :: (th, oThings pl ki el nu (nI (ctF kinds (thM R C op))) al wa wo) :: (ki, aI g 40 kinds) :: (el, aI g 40 elders) :: (nu, aI g 40 numbers) :: (wa, aJ g 12 waf) :: (wo, aJ g 12 wof) :: (pg, oGrid (nI R) (nI C) sp.1 sp.2.1 sp.2.2) :: (ga, oGrid sg.1 sg.2.1 sg.2.2.1 sg.2.2.2.1 sg.2.2.2.2) :: (sh, aS g 3 shf) :: (mo, oModel tn fi asked (nI R) (nI C) (bI op) mki mel mto mio mwy (bI hwb) mme mhs mso msr mrs mce mcp) :: (mki, aI g 40 kinds) :: (mel, aI g 40 elders) :: (mto, aI g 25 tof) :: (mio, aZ g 40 iof) :: (mwy, aI g 4096 wyf) :: (mme, aZ g 36 mef) :: (mhs, aZ g 3 hsf) :: (mso, aI g 3 sof) :: (msr, aI g 3 srf) :: (mrs, aI g 12 rsf) :: (mce, aI g 480 cef) :: (mcp, aI g 40 cpf) :: pool) [(0, .ref b), (1, .ref o), (2, .ref mo), (3, .int (nI ii))] 848 []
  refine X_aload_n K0 1 dL_law_848 rfl rfl ?_
  refine X_aload_n K0 0 dL_law_849 rfl rfl ?_
  refine X_iload_n K0 3 dL_law_850 rfl rfl ?_
  refine X_iconst (v := 1) K0 dL_law_851 (by decide) ?_
  refine X_iadd K0 dL_law_852 ?_
  refine X_v (z := (nI (ii + 1))) (nI_add ii 1) ?_
  refine X_sld K0 hsc (by omega) hLn dL_law_853 ?_
  refine X_aload_n K0 0 dL_law_854 rfl rfl ?_
  refine X_iload_n K0 3 dL_law_855 rfl rfl ?_
  refine X_iconst (v := 2) K0 dL_law_856 (by decide) ?_
  refine X_iadd K0 dL_law_857 ?_
  refine X_v (z := (nI (ii + 2))) (nI_add ii 2) ?_
  refine X_sld K0 hsc (by omega) hLn dL_law_858 ?_
  refine X_aload_n K0 0 dL_law_859 rfl rfl ?_
  refine X_iload_n K0 3 dL_law_860 rfl rfl ?_
  refine X_iconst (v := 3) K0 dL_law_861 (by decide) ?_
  refine X_iadd K0 dL_law_862 ?_
  refine X_v (z := (nI (ii + 3))) (nI_add ii 3) ?_
  refine X_sld K0 hsc (by omega) hLn dL_law_863 ?_
  refine X_callV (As := [.int (xs ((ii + 1))), .int (xs ((ii + 2))), .int (xs ((ii + 3)))]) (rest := []) K0 0 (c_row g o pl th pg ga sh (pl, oPlan (nI R) (nI C) (bI op) (nI (thM R C op)) ap rr rd sl) (sl, aI g 40 slots) (th, oThings pl ki el nu (nI (ctF kinds (thM R C op))) al wa wo) (ki, aI g 40 kinds) (el, aI g 40 elders) (nu, aI g 40 numbers) (wa, aJ g 12 waf) (wo, aJ g 12 wof) (pg, oGrid (nI R) (nI C) sp.1 sp.2.1 sp.2.2) (ga, oGrid sg.1 sg.2.1 sg.2.2.1 sg.2.2.2.1 sg.2.2.2.2) (mo, oModel tn fi asked (nI R) (nI C) (bI op) mki mel mto mio mwy (bI hwb) mme mhs mso msr mrs mce mcp) (mki, aI g 40 kinds) (mel, aI g 40 elders) (mto, aI g 25 tof) (mio, aZ g 40 iof) (mwy, aI g 4096 wyf) (mme, aZ g 36 mef) (mhs, aZ g 3 hsf) (mso, aI g 3 sof) (msr, aI g 3 srf) (mrs, aI g 12 rsf) (mce, aI g 480 cef) (mcp, aI g 40 cpf) asked fi shf pool abs hPO (xs ((ii + 1))) (xs ((ii + 2))) (xs ((ii + 3)))) mi_X4_row rfl rfl rfl ml_RL_94 rfl (Nat.le_of_ble_eq_true rfl) (by decide) ⟨by omega, by omega⟩ rfl rfl dL_law_864 ?_
  intro v w' hr'; rcases hr' with ⟨hd1, rfl, rfl⟩ | ⟨hd1, rfl, j1, jr1, n1, so1, nr1, rows1, pool1, hj1, hx1, hab1, hjr1, hr1, hn1, hne1, hPO1, rfl⟩
  · show X φ (k + 1) (n + 40) ((o, oMain pl th pg ga sh asked (rwD abs (xs ((ii + 1))) (xs ((ii + 2))) (xs ((ii + 3))))) :: (pl, oPlan (nI R) (nI C) (bI op) (nI (thM R C op)) ap rr rd sl) :: (sl, aI g 40 slots) :: (th, oThings pl ki el nu (nI (ctF kinds (thM R C op))) al wa wo) :: (ki, aI g 40 kinds) :: (el, aI g 40 elders) :: (nu, aI g 40 numbers) :: (wa, aJ g 12 waf) :: (wo, aJ g 12 wof) :: (pg, oGrid (nI R) (nI C) sp.1 sp.2.1 sp.2.2) :: (ga, oGrid sg.1 sg.2.1 sg.2.2.1 sg.2.2.2.1 sg.2.2.2.2) :: (sh, aS g 3 shf) :: (mo, oModel tn fi asked (nI R) (nI C) (bI op) mki mel mto mio mwy (bI hwb) mme mhs mso msr mrs mce mcp) :: (mki, aI g 40 kinds) :: (mel, aI g 40 elders) :: (mto, aI g 25 tof) :: (mio, aZ g 40 iof) :: (mwy, aI g 4096 wyf) :: (mme, aZ g 36 mef) :: (mhs, aZ g 3 hsf) :: (mso, aI g 3 sof) :: (msr, aI g 3 srf) :: (mrs, aI g 12 rsf) :: (mce, aI g 480 cef) :: (mcp, aI g 40 cpf) :: pool) [(0, .ref b), (1, .ref o), (2, .ref mo), (3, .int (nI ii))] 867 [.int (rwD abs (xs ((ii + 1))) (xs ((ii + 2))) (xs ((ii + 3))))]
    refine X_aload_n K0 2 dL_law_867 rfl rfl ?_
    refine X_aload_n K0 0 dL_law_868 rfl rfl ?_
    refine X_iload_n K0 3 dL_law_869 rfl rfl ?_
    refine X_iconst (v := 1) K0 dL_law_870 (by decide) ?_
    refine X_iadd K0 dL_law_871 ?_
    refine X_v (z := (nI (ii + 1))) (nI_add ii 1) ?_
    refine X_sld K0 hsc (by omega) hLn dL_law_872 ?_
    refine X_aload_n K0 0 dL_law_873 rfl rfl ?_
    refine X_iload_n K0 3 dL_law_874 rfl rfl ?_
    refine X_iconst (v := 2) K0 dL_law_875 (by decide) ?_
    refine X_iadd K0 dL_law_876 ?_
    refine X_v (z := (nI (ii + 2))) (nI_add ii 2) ?_
    refine X_sld K0 hsc (by omega) hLn dL_law_877 ?_
    refine X_aload_n K0 0 dL_law_878 rfl rfl ?_
    refine X_iload_n K0 3 dL_law_879 rfl rfl ?_
    refine X_iconst (v := 3) K0 dL_law_880 (by decide) ?_
    refine X_iadd K0 dL_law_881 ?_
    refine X_v (z := (nI (ii + 3))) (nI_add ii 3) ?_
    refine X_sld K0 hsc (by omega) hLn dL_law_882 ?_
    refine X_callV (As := [.int (xs ((ii + 1))), .int (xs ((ii + 2))), .int (xs ((ii + 3)))]) (rest := [.int (rwD abs (xs ((ii + 1))) (xs ((ii + 2))) (xs ((ii + 3))))]) K0 12 (m_row g (o, oMain pl th pg ga sh asked (rwD abs (xs ((ii + 1))) (xs ((ii + 2))) (xs ((ii + 3))))) (pl, oPlan (nI R) (nI C) (bI op) (nI (thM R C op)) ap rr rd sl) (sl, aI g 40 slots) (th, oThings pl ki el nu (nI (ctF kinds (thM R C op))) al wa wo) (ki, aI g 40 kinds) (el, aI g 40 elders) (nu, aI g 40 numbers) (wa, aJ g 12 waf) (wo, aJ g 12 wof) (pg, oGrid (nI R) (nI C) sp.1 sp.2.1 sp.2.2) (ga, oGrid sg.1 sg.2.1 sg.2.2.1 sg.2.2.2.1 sg.2.2.2.2) (sh, aS g 3 shf) mo mki mel mto mio mwy mme mhs mso msr mrs mce mcp tn fi asked R C op hwb kinds elders tof iof wyf mef hsf sof srf rsf cef cpf pool abs hMS (xs ((ii + 1))) (xs ((ii + 2))) (xs ((ii + 3)))) mi_X5_row rfl rfl rfl ml_RL_97 rfl (Nat.le_of_ble_eq_true rfl) (by decide) ⟨by omega, by omega⟩ rfl rfl dL_law_883 ?_
    intro v w' hr'; rcases hr' with ⟨hd2, rfl, rfl⟩ | ⟨hd2, rfl, j2, jr2, n2, so2, nr2, rows2, rs2, ce2, hj2, hx2, hab2, hjr2, hr2, hn2, hne2, hMS2, rfl⟩
    · show X φ (k + 1) (n + 40) ((o, oMain pl th pg ga sh asked (rwD abs (xs ((ii + 1))) (xs ((ii + 2))) (xs ((ii + 3))))) :: (pl, oPlan (nI R) (nI C) (bI op) (nI (thM R C op)) ap rr rd sl) :: (sl, aI g 40 slots) :: (th, oThings pl ki el nu (nI (ctF kinds (thM R C op))) al wa wo) :: (ki, aI g 40 kinds) :: (el, aI g 40 elders) :: (nu, aI g 40 numbers) :: (wa, aJ g 12 waf) :: (wo, aJ g 12 wof) :: (pg, oGrid (nI R) (nI C) sp.1 sp.2.1 sp.2.2) :: (ga, oGrid sg.1 sg.2.1 sg.2.2.1 sg.2.2.2.1 sg.2.2.2.2) :: (sh, aS g 3 shf) :: (mo, oModel 0 (rwD abs (xs ((ii + 1))) (xs ((ii + 2))) (xs ((ii + 3)))) asked (nI R) (nI C) (bI op) mki mel mto mio mwy (bI hwb) mme mhs mso msr mrs mce mcp) :: (mki, aI g 40 kinds) :: (mel, aI g 40 elders) :: (mto, aI g 25 tof) :: (mio, aZ g 40 iof) :: (mwy, aI g 4096 wyf) :: (mme, aZ g 36 mef) :: (mhs, aZ g 3 hsf) :: (mso, aI g 3 sof) :: (msr, aI g 3 srf) :: (mrs, aI g 12 rsf) :: (mce, aI g 480 cef) :: (mcp, aI g 40 cpf) :: pool) [(0, .ref b), (1, .ref o), (2, .ref mo), (3, .int (nI ii))] 886 [.int (rwD abs (xs ((ii + 1))) (xs ((ii + 2))) (xs ((ii + 3)))), .int (rwD abs (xs ((ii + 1))) (xs ((ii + 2))) (xs ((ii + 3))))]
      refine X_icmp_eq K0 1101 dL_law_886 (by decide) (fun _ => ?_) (fun h => absurd (rfl) h)
      exact X.widen (by omega) (by omega) (next _ ⟨pl, sl, th, ki, el, nu, wa, wo, pg, ga, sh, mki, mel, mto, mio, mwy, mme, mhs, mso, msr, mrs, mce, mcp, R, C, op, (thM R C op), slots, ap, rr, rd, (ctF kinds (thM R C op)), al, kinds, elders, numbers, waf, wof, sp, sg, shf, asked, (rwD abs (xs ((ii + 1))) (xs ((ii + 2))) (xs ((ii + 3)))), 0, hwb, tof, iof, wyf, mef, hsf, sof, srf, rsf, cef, cpf, pool, abs, ivmk rfl hRL hWY hPO hMS⟩)
    · exact absurd hd2 hd1
  · show X φ (k + 1) (n + 40) ((o, oMain pl th pg ga sh asked 0) :: (pl, oPlan (nI R) (nI C) (bI op) (nI (thM R C op)) ap rr rd sl) :: (sl, aI g 40 slots) :: (th, oThings pl ki el nu (nI (ctF kinds (thM R C op))) al wa wo) :: (ki, aI g 40 kinds) :: (el, aI g 40 elders) :: (nu, aI g 40 numbers) :: (wa, aJ g 12 waf) :: (wo, aJ g 12 wof) :: (pg, oGrid (nI R) (nI C) sp.1 sp.2.1 sp.2.2) :: (ga, oGrid sg.1 sg.2.1 sg.2.2.1 sg.2.2.2.1 sg.2.2.2.2) :: (sh, aS g 3 shf) :: (mo, oModel tn fi asked (nI R) (nI C) (bI op) mki mel mto mio mwy (bI hwb) mme mhs mso msr mrs mce mcp) :: (mki, aI g 40 kinds) :: (mel, aI g 40 elders) :: (mto, aI g 25 tof) :: (mio, aZ g 40 iof) :: (mwy, aI g 4096 wyf) :: (mme, aZ g 36 mef) :: (mhs, aZ g 3 hsf) :: (mso, aI g 3 sof) :: (msr, aI g 3 srf) :: (mrs, aI g 12 rsf) :: (mce, aI g 480 cef) :: (mcp, aI g 40 cpf) :: pool1) [(0, .ref b), (1, .ref o), (2, .ref mo), (3, .int (nI ii))] 867 [.int 1]
    refine X_aload_n K0 2 dL_law_867 rfl rfl ?_
    refine X_aload_n K0 0 dL_law_868 rfl rfl ?_
    refine X_iload_n K0 3 dL_law_869 rfl rfl ?_
    refine X_iconst (v := 1) K0 dL_law_870 (by decide) ?_
    refine X_iadd K0 dL_law_871 ?_
    refine X_v (z := (nI (ii + 1))) (nI_add ii 1) ?_
    refine X_sld K0 hsc (by omega) hLn dL_law_872 ?_
    refine X_aload_n K0 0 dL_law_873 rfl rfl ?_
    refine X_iload_n K0 3 dL_law_874 rfl rfl ?_
    refine X_iconst (v := 2) K0 dL_law_875 (by decide) ?_
    refine X_iadd K0 dL_law_876 ?_
    refine X_v (z := (nI (ii + 2))) (nI_add ii 2) ?_
    refine X_sld K0 hsc (by omega) hLn dL_law_877 ?_
    refine X_aload_n K0 0 dL_law_878 rfl rfl ?_
    refine X_iload_n K0 3 dL_law_879 rfl rfl ?_
    refine X_iconst (v := 3) K0 dL_law_880 (by decide) ?_
    refine X_iadd K0 dL_law_881 ?_
    refine X_v (z := (nI (ii + 3))) (nI_add ii 3) ?_
    refine X_sld K0 hsc (by omega) hLn dL_law_882 ?_
    refine X_callV (As := [.int (xs ((ii + 1))), .int (xs ((ii + 2))), .int (xs ((ii + 3)))]) (rest := [.int 1]) K0 12 (m_row g (o, oMain pl th pg ga sh asked 0) (pl, oPlan (nI R) (nI C) (bI op) (nI (thM R C op)) ap rr rd sl) (sl, aI g 40 slots) (th, oThings pl ki el nu (nI (ctF kinds (thM R C op))) al wa wo) (ki, aI g 40 kinds) (el, aI g 40 elders) (nu, aI g 40 numbers) (wa, aJ g 12 waf) (wo, aJ g 12 wof) (pg, oGrid (nI R) (nI C) sp.1 sp.2.1 sp.2.2) (ga, oGrid sg.1 sg.2.1 sg.2.2.1 sg.2.2.2.1 sg.2.2.2.2) (sh, aS g 3 shf) mo mki mel mto mio mwy mme mhs mso msr mrs mce mcp tn fi asked R C op hwb kinds elders tof iof wyf mef hsf sof srf rsf cef cpf pool1 abs hMS (xs ((ii + 1))) (xs ((ii + 2))) (xs ((ii + 3)))) mi_X5_row rfl rfl rfl ml_RL_97 rfl (Nat.le_of_ble_eq_true rfl) (by decide) ⟨by omega, by omega⟩ rfl rfl dL_law_883 ?_
    intro v w' hr'; rcases hr' with ⟨hd2, rfl, rfl⟩ | ⟨hd2, rfl, j2, jr2, n2, so2, nr2, rows2, rs2, ce2, hj2, hx2, hab2, hjr2, hr2, hn2, hne2, hMS2, rfl⟩
    · exact absurd hd1 hd2
    · obtain rfl : j1 = j2 := nI_e40 (hx1.symm.trans hx2) (by omega) (by omega)
      obtain ⟨rfl, rfl, rfl⟩ := inj3 (hab1.symm.trans hab2)
      have hnr := (ms_some hMS hj1 hab1).2.2.2.2.1
      obtain rfl : jr1 = jr2 := nI_e40 (hr1.symm.trans hr2) (by omega) (by omega)
      obtain rfl : n1 = n2 := nI_e40 (hne1.symm.trans hne2) (by omega) (by omega)
      show X φ (k + 1) (n + 40) ((o, oMain pl th pg ga sh asked 0) :: (pl, oPlan (nI R) (nI C) (bI op) (nI (thM R C op)) ap rr rd sl) :: (sl, aI g 40 slots) :: (th, oThings pl ki el nu (nI (ctF kinds (thM R C op))) al wa wo) :: (ki, aI g 40 kinds) :: (el, aI g 40 elders) :: (nu, aI g 40 numbers) :: (wa, aJ g 12 waf) :: (wo, aJ g 12 wof) :: (pg, oGrid (nI R) (nI C) sp.1 sp.2.1 sp.2.2) :: (ga, oGrid sg.1 sg.2.1 sg.2.2.1 sg.2.2.2.1 sg.2.2.2.2) :: (sh, aS g 3 shf) :: (mo, oModel 0 0 asked (nI R) (nI C) (bI op) mki mel mto mio mwy (bI hwb) mme mhs mso msr mrs mce mcp) :: (mki, aI g 40 kinds) :: (mel, aI g 40 elders) :: (mto, aI g 25 tof) :: (mio, aZ g 40 iof) :: (mwy, aI g 4096 wyf) :: (mme, aZ g 36 mef) :: (mhs, aZ g 3 hsf) :: (mso, aI g 3 sof) :: (msr, aI g 3 srf) :: (mrs, aI g 12 rs2) :: (mce, aI g 480 ce2) :: (mcp, aI g 40 cpf) :: pool1) [(0, .ref b), (1, .ref o), (2, .ref mo), (3, .int (nI ii))] 886 [.int 1, .int 1]
      refine X_icmp_eq K0 1101 dL_law_886 (by decide) (fun _ => ?_) (fun h => absurd (rfl) h)
      exact X.widen (by omega) (by omega) (next _ ⟨pl, sl, th, ki, el, nu, wa, wo, pg, ga, sh, mki, mel, mto, mio, mwy, mme, mhs, mso, msr, mrs, mce, mcp, R, C, op, (thM R C op), slots, ap, rr, rd, (ctF kinds (thM R C op)), al, kinds, elders, numbers, waf, wof, sp, sg, shf, asked, 0, 0, hwb, tof, iof, wyf, mef, hsf, sof, srf, rs2, ce2, cpf, pool1, (upA abs j1 (some (so1, nr1, upA rows1 jr1 (some (n1, fun _ => 0))))), ivmk rfl hRL hWY hPO1 hMS2⟩)

set_option maxRecDepth 20000 in
set_option maxHeartbeats 400000 in
theorem law_20 {φ : Fx} {g : Gx} {nm : String} {b Ln qB o mo ii k n : Nat} {xs : Nat → Int32} {w : va_W} (K0 : Cx φ g ⟨RL, nm, ""⟩ cL_law 4 9 328 600000 7302250) (hsc : Sc φ b Ln xs) (hB : Sb φ qB) (hii : ii + 8 ≤ Ln) (hLn : Ln ≤ 4096) (hk : k + 2 ≤ 600000) (hn : n + 40 ≤ 7302250) (hI : IV g o mo w) (next : ∀ w', IV g o mo w' → X φ (k + 2) (n + 40) w' [(0, .ref b), (1, .ref o), (2, .ref mo), (3, .int (nI ii))] 1101 []) : X φ k n w [(0, .ref b), (1, .ref o), (2, .ref mo), (3, .int (nI ii))] 891 [] := by
  obtain ⟨pl, sl, th, ki, el, nu, wa, wo, pg, ga, sh, mki, mel, mto, mio, mwy, mme, mhs, mso, msr, mrs, mce, mcp, R, C, op, T, slots, ap, rr, rd, m, al, kinds, elders, numbers, waf, wof, sp, sg, shf, asked, fi, tn, hwb, tof, iof, wyf, mef, hsf, sof, srf, rsf, cef, cpf, pool, abs, hIVw⟩ := hI
  obtain ⟨rfl, hRL, hWY, hPO, hMS⟩ := hIVw
  have hTe := hRL.2.2.1
  have hme := hRL.meq
  subst hTe
  subst hme
  have hR := hRL.1
  have hC := hRL.2.1
  have hKI := hRL.2.2.2.2.2.2.2.1
  have hDV := hRL.2.2.2.2.2.2.2.2
  have hT := th_M (op := op) hR hC
  have hm := hKI.2
  show X φ k n ((o, oMain pl th pg ga sh asked fi) :: (pl, oPlan (nI R) (nI C) (bI op) (nI (thM R C op)) ap rr rd sl) :: (sl, aI g 40 slots) :: (th, oThings pl ki el nu (nI (ctF kinds (thM R C op))) al wa wo) :: (ki, aI g 40 kinds) :: (el, aI g 40 elders) :: (nu, aI g 40 numbers) :: (wa, aJ g 12 waf) :: (wo, aJ g 12 wof) :: (pg, oGrid (nI R) (nI C) sp.1 sp.2.1 sp.2.2) :: (ga, oGrid sg.1 sg.2.1 sg.2.2.1 sg.2.2.2.1 sg.2.2.2.2) :: (sh, aS g 3 shf) :: (mo, oModel tn fi asked (nI R) (nI C) (bI op) mki mel mto mio mwy (bI hwb) mme mhs mso msr mrs mce mcp) :: (mki, aI g 40 kinds) :: (mel, aI g 40 elders) :: (mto, aI g 25 tof) :: (mio, aZ g 40 iof) :: (mwy, aI g 4096 wyf) :: (mme, aZ g 36 mef) :: (mhs, aZ g 3 hsf) :: (mso, aI g 3 sof) :: (msr, aI g 3 srf) :: (mrs, aI g 12 rsf) :: (mce, aI g 480 cef) :: (mcp, aI g 40 cpf) :: pool) [(0, .ref b), (1, .ref o), (2, .ref mo), (3, .int (nI ii))] 891 []
  refine X_aload_n K0 1 dL_law_891 rfl rfl ?_
  refine X_aload_n K0 0 dL_law_892 rfl rfl ?_
  refine X_iload_n K0 3 dL_law_893 rfl rfl ?_
  refine X_iconst (v := 1) K0 dL_law_894 (by decide) ?_
  refine X_iadd K0 dL_law_895 ?_
  refine X_v (z := (nI (ii + 1))) (nI_add ii 1) ?_
  refine X_sld K0 hsc (by omega) hLn dL_law_896 ?_
  refine X_aload_n K0 0 dL_law_897 rfl rfl ?_
  refine X_iload_n K0 3 dL_law_898 rfl rfl ?_
  refine X_iconst (v := 2) K0 dL_law_899 (by decide) ?_
  refine X_iadd K0 dL_law_900 ?_
  refine X_v (z := (nI (ii + 2))) (nI_add ii 2) ?_
  refine X_sld K0 hsc (by omega) hLn dL_law_901 ?_
  refine X_aload_n K0 0 dL_law_902 rfl rfl ?_
  refine X_iload_n K0 3 dL_law_903 rfl rfl ?_
  refine X_iconst (v := 3) K0 dL_law_904 (by decide) ?_
  refine X_iadd K0 dL_law_905 ?_
  refine X_v (z := (nI (ii + 3))) (nI_add ii 3) ?_
  refine X_sld K0 hsc (by omega) hLn dL_law_906 ?_
  refine X_aload_n K0 0 dL_law_907 rfl rfl ?_
  refine X_iload_n K0 3 dL_law_908 rfl rfl ?_
  refine X_iconst (v := 4) K0 dL_law_909 (by decide) ?_
  refine X_iadd K0 dL_law_910 ?_
  refine X_v (z := (nI (ii + 4))) (nI_add ii 4) ?_
  refine X_sld K0 hsc (by omega) hLn dL_law_911 ?_
  refine X_aload_n K0 0 dL_law_912 rfl rfl ?_
  refine X_iload_n K0 3 dL_law_913 rfl rfl ?_
  refine X_iconst (v := 5) K0 dL_law_914 (by decide) ?_
  refine X_iadd K0 dL_law_915 ?_
  refine X_v (z := (nI (ii + 5))) (nI_add ii 5) ?_
  refine X_sld K0 hsc (by omega) hLn dL_law_916 ?_
  refine X_callV (As := [.int (xs ((ii + 1))), .int (xs ((ii + 2))), .int (xs ((ii + 3))), .int (xs ((ii + 4))), .int (xs ((ii + 5)))]) (rest := []) K0 0 (c_put g o pl th pg ga sh (pl, oPlan (nI R) (nI C) (bI op) (nI (thM R C op)) ap rr rd sl) (sl, aI g 40 slots) (th, oThings pl ki el nu (nI (ctF kinds (thM R C op))) al wa wo) (ki, aI g 40 kinds) (el, aI g 40 elders) (nu, aI g 40 numbers) (wa, aJ g 12 waf) (wo, aJ g 12 wof) (pg, oGrid (nI R) (nI C) sp.1 sp.2.1 sp.2.2) (ga, oGrid sg.1 sg.2.1 sg.2.2.1 sg.2.2.2.1 sg.2.2.2.2) (mo, oModel tn fi asked (nI R) (nI C) (bI op) mki mel mto mio mwy (bI hwb) mme mhs mso msr mrs mce mcp) (mki, aI g 40 kinds) (mel, aI g 40 elders) (mto, aI g 25 tof) (mio, aZ g 40 iof) (mwy, aI g 4096 wyf) (mme, aZ g 36 mef) (mhs, aZ g 3 hsf) (mso, aI g 3 sof) (msr, aI g 3 srf) (mrs, aI g 12 rsf) (mce, aI g 480 cef) (mcp, aI g 40 cpf) asked fi shf pool abs hPO (xs ((ii + 1))) (xs ((ii + 2))) (xs ((ii + 3))) (xs ((ii + 4))) (xs ((ii + 5)))) mi_X4_put rfl rfl rfl ml_RL_98 rfl (Nat.le_of_ble_eq_true rfl) (by decide) ⟨by omega, by omega⟩ rfl rfl dL_law_917 ?_
  intro v w' hr'; rcases hr' with ⟨hd1, rfl, rfl⟩ | ⟨hd1, rfl, j1, jr1, i1, nr1, rows1, len1, f1, pool1, hj1, hx1, hab1, hjr1, hr1, hrw1, hi1, hie1, hPO1, rfl⟩
  · show X φ k n ((o, oMain pl th pg ga sh asked (ptD abs (xs ((ii + 1))) (xs ((ii + 2))) (xs ((ii + 3))) (xs ((ii + 4))))) :: (pl, oPlan (nI R) (nI C) (bI op) (nI (thM R C op)) ap rr rd sl) :: (sl, aI g 40 slots) :: (th, oThings pl ki el nu (nI (ctF kinds (thM R C op))) al wa wo) :: (ki, aI g 40 kinds) :: (el, aI g 40 elders) :: (nu, aI g 40 numbers) :: (wa, aJ g 12 waf) :: (wo, aJ g 12 wof) :: (pg, oGrid (nI R) (nI C) sp.1 sp.2.1 sp.2.2) :: (ga, oGrid sg.1 sg.2.1 sg.2.2.1 sg.2.2.2.1 sg.2.2.2.2) :: (sh, aS g 3 shf) :: (mo, oModel tn fi asked (nI R) (nI C) (bI op) mki mel mto mio mwy (bI hwb) mme mhs mso msr mrs mce mcp) :: (mki, aI g 40 kinds) :: (mel, aI g 40 elders) :: (mto, aI g 25 tof) :: (mio, aZ g 40 iof) :: (mwy, aI g 4096 wyf) :: (mme, aZ g 36 mef) :: (mhs, aZ g 3 hsf) :: (mso, aI g 3 sof) :: (msr, aI g 3 srf) :: (mrs, aI g 12 rsf) :: (mce, aI g 480 cef) :: (mcp, aI g 40 cpf) :: pool) [(0, .ref b), (1, .ref o), (2, .ref mo), (3, .int (nI ii))] 920 [.int (ptD abs (xs ((ii + 1))) (xs ((ii + 2))) (xs ((ii + 3))) (xs ((ii + 4))))]
    refine X_aload_n K0 2 dL_law_920 rfl rfl ?_
    refine X_aload_n K0 0 dL_law_921 rfl rfl ?_
    refine X_iload_n K0 3 dL_law_922 rfl rfl ?_
    refine X_iconst (v := 1) K0 dL_law_923 (by decide) ?_
    refine X_iadd K0 dL_law_924 ?_
    refine X_v (z := (nI (ii + 1))) (nI_add ii 1) ?_
    refine X_sld K0 hsc (by omega) hLn dL_law_925 ?_
    refine X_aload_n K0 0 dL_law_926 rfl rfl ?_
    refine X_iload_n K0 3 dL_law_927 rfl rfl ?_
    refine X_iconst (v := 2) K0 dL_law_928 (by decide) ?_
    refine X_iadd K0 dL_law_929 ?_
    refine X_v (z := (nI (ii + 2))) (nI_add ii 2) ?_
    refine X_sld K0 hsc (by omega) hLn dL_law_930 ?_
    refine X_aload_n K0 0 dL_law_931 rfl rfl ?_
    refine X_iload_n K0 3 dL_law_932 rfl rfl ?_
    refine X_iconst (v := 3) K0 dL_law_933 (by decide) ?_
    refine X_iadd K0 dL_law_934 ?_
    refine X_v (z := (nI (ii + 3))) (nI_add ii 3) ?_
    refine X_sld K0 hsc (by omega) hLn dL_law_935 ?_
    refine X_aload_n K0 0 dL_law_936 rfl rfl ?_
    refine X_iload_n K0 3 dL_law_937 rfl rfl ?_
    refine X_iconst (v := 4) K0 dL_law_938 (by decide) ?_
    refine X_iadd K0 dL_law_939 ?_
    refine X_v (z := (nI (ii + 4))) (nI_add ii 4) ?_
    refine X_sld K0 hsc (by omega) hLn dL_law_940 ?_
    refine X_aload_n K0 0 dL_law_941 rfl rfl ?_
    refine X_iload_n K0 3 dL_law_942 rfl rfl ?_
    refine X_iconst (v := 5) K0 dL_law_943 (by decide) ?_
    refine X_iadd K0 dL_law_944 ?_
    refine X_v (z := (nI (ii + 5))) (nI_add ii 5) ?_
    refine X_sld K0 hsc (by omega) hLn dL_law_945 ?_
    refine X_callV (As := [.int (xs ((ii + 1))), .int (xs ((ii + 2))), .int (xs ((ii + 3))), .int (xs ((ii + 4))), .int (xs ((ii + 5)))]) (rest := [.int (ptD abs (xs ((ii + 1))) (xs ((ii + 2))) (xs ((ii + 3))) (xs ((ii + 4))))]) K0 12 (m_put g (o, oMain pl th pg ga sh asked (ptD abs (xs ((ii + 1))) (xs ((ii + 2))) (xs ((ii + 3))) (xs ((ii + 4))))) (pl, oPlan (nI R) (nI C) (bI op) (nI (thM R C op)) ap rr rd sl) (sl, aI g 40 slots) (th, oThings pl ki el nu (nI (ctF kinds (thM R C op))) al wa wo) (ki, aI g 40 kinds) (el, aI g 40 elders) (nu, aI g 40 numbers) (wa, aJ g 12 waf) (wo, aJ g 12 wof) (pg, oGrid (nI R) (nI C) sp.1 sp.2.1 sp.2.2) (ga, oGrid sg.1 sg.2.1 sg.2.2.1 sg.2.2.2.1 sg.2.2.2.2) (sh, aS g 3 shf) mo mki mel mto mio mwy mme mhs mso msr mrs mce mcp tn fi asked R C op hwb kinds elders tof iof wyf mef hsf sof srf rsf cef cpf pool abs hMS (xs ((ii + 1))) (xs ((ii + 2))) (xs ((ii + 3))) (xs ((ii + 4))) (xs ((ii + 5)))) mi_X5_put rfl rfl rfl ml_RL_102 rfl (Nat.le_of_ble_eq_true rfl) (by decide) ⟨by omega, by omega⟩ rfl rfl dL_law_946 ?_
    intro v w' hr'; rcases hr' with ⟨hd2, rfl, rfl⟩ | ⟨hd2, rfl, j2, jr2, i2, nr2, rows2, len2, f2, ce2, hj2, hx2, hab2, hjr2, hr2, hrw2, hi2, hie2, hMS2, rfl⟩
    · show X φ k n ((o, oMain pl th pg ga sh asked (ptD abs (xs ((ii + 1))) (xs ((ii + 2))) (xs ((ii + 3))) (xs ((ii + 4))))) :: (pl, oPlan (nI R) (nI C) (bI op) (nI (thM R C op)) ap rr rd sl) :: (sl, aI g 40 slots) :: (th, oThings pl ki el nu (nI (ctF kinds (thM R C op))) al wa wo) :: (ki, aI g 40 kinds) :: (el, aI g 40 elders) :: (nu, aI g 40 numbers) :: (wa, aJ g 12 waf) :: (wo, aJ g 12 wof) :: (pg, oGrid (nI R) (nI C) sp.1 sp.2.1 sp.2.2) :: (ga, oGrid sg.1 sg.2.1 sg.2.2.1 sg.2.2.2.1 sg.2.2.2.2) :: (sh, aS g 3 shf) :: (mo, oModel 0 (ptD abs (xs ((ii + 1))) (xs ((ii + 2))) (xs ((ii + 3))) (xs ((ii + 4)))) asked (nI R) (nI C) (bI op) mki mel mto mio mwy (bI hwb) mme mhs mso msr mrs mce mcp) :: (mki, aI g 40 kinds) :: (mel, aI g 40 elders) :: (mto, aI g 25 tof) :: (mio, aZ g 40 iof) :: (mwy, aI g 4096 wyf) :: (mme, aZ g 36 mef) :: (mhs, aZ g 3 hsf) :: (mso, aI g 3 sof) :: (msr, aI g 3 srf) :: (mrs, aI g 12 rsf) :: (mce, aI g 480 cef) :: (mcp, aI g 40 cpf) :: pool) [(0, .ref b), (1, .ref o), (2, .ref mo), (3, .int (nI ii))] 949 [.int (ptD abs (xs ((ii + 1))) (xs ((ii + 2))) (xs ((ii + 3))) (xs ((ii + 4)))), .int (ptD abs (xs ((ii + 1))) (xs ((ii + 2))) (xs ((ii + 3))) (xs ((ii + 4))))]
      refine X_icmp_eq K0 1101 dL_law_949 (by decide) (fun _ => ?_) (fun h => absurd (rfl) h)
      exact X.widen (by omega) (by omega) (next _ ⟨pl, sl, th, ki, el, nu, wa, wo, pg, ga, sh, mki, mel, mto, mio, mwy, mme, mhs, mso, msr, mrs, mce, mcp, R, C, op, (thM R C op), slots, ap, rr, rd, (ctF kinds (thM R C op)), al, kinds, elders, numbers, waf, wof, sp, sg, shf, asked, (ptD abs (xs ((ii + 1))) (xs ((ii + 2))) (xs ((ii + 3))) (xs ((ii + 4)))), 0, hwb, tof, iof, wyf, mef, hsf, sof, srf, rsf, cef, cpf, pool, abs, ivmk rfl hRL hWY hPO hMS⟩)
    · exact absurd hd2 hd1
  · show X φ k n ((o, oMain pl th pg ga sh asked 0) :: (pl, oPlan (nI R) (nI C) (bI op) (nI (thM R C op)) ap rr rd sl) :: (sl, aI g 40 slots) :: (th, oThings pl ki el nu (nI (ctF kinds (thM R C op))) al wa wo) :: (ki, aI g 40 kinds) :: (el, aI g 40 elders) :: (nu, aI g 40 numbers) :: (wa, aJ g 12 waf) :: (wo, aJ g 12 wof) :: (pg, oGrid (nI R) (nI C) sp.1 sp.2.1 sp.2.2) :: (ga, oGrid sg.1 sg.2.1 sg.2.2.1 sg.2.2.2.1 sg.2.2.2.2) :: (sh, aS g 3 shf) :: (mo, oModel tn fi asked (nI R) (nI C) (bI op) mki mel mto mio mwy (bI hwb) mme mhs mso msr mrs mce mcp) :: (mki, aI g 40 kinds) :: (mel, aI g 40 elders) :: (mto, aI g 25 tof) :: (mio, aZ g 40 iof) :: (mwy, aI g 4096 wyf) :: (mme, aZ g 36 mef) :: (mhs, aZ g 3 hsf) :: (mso, aI g 3 sof) :: (msr, aI g 3 srf) :: (mrs, aI g 12 rsf) :: (mce, aI g 480 cef) :: (mcp, aI g 40 cpf) :: pool1) [(0, .ref b), (1, .ref o), (2, .ref mo), (3, .int (nI ii))] 920 [.int 1]
    refine X_aload_n K0 2 dL_law_920 rfl rfl ?_
    refine X_aload_n K0 0 dL_law_921 rfl rfl ?_
    refine X_iload_n K0 3 dL_law_922 rfl rfl ?_
    refine X_iconst (v := 1) K0 dL_law_923 (by decide) ?_
    refine X_iadd K0 dL_law_924 ?_
    refine X_v (z := (nI (ii + 1))) (nI_add ii 1) ?_
    refine X_sld K0 hsc (by omega) hLn dL_law_925 ?_
    refine X_aload_n K0 0 dL_law_926 rfl rfl ?_
    refine X_iload_n K0 3 dL_law_927 rfl rfl ?_
    refine X_iconst (v := 2) K0 dL_law_928 (by decide) ?_
    refine X_iadd K0 dL_law_929 ?_
    refine X_v (z := (nI (ii + 2))) (nI_add ii 2) ?_
    refine X_sld K0 hsc (by omega) hLn dL_law_930 ?_
    refine X_aload_n K0 0 dL_law_931 rfl rfl ?_
    refine X_iload_n K0 3 dL_law_932 rfl rfl ?_
    refine X_iconst (v := 3) K0 dL_law_933 (by decide) ?_
    refine X_iadd K0 dL_law_934 ?_
    refine X_v (z := (nI (ii + 3))) (nI_add ii 3) ?_
    refine X_sld K0 hsc (by omega) hLn dL_law_935 ?_
    refine X_aload_n K0 0 dL_law_936 rfl rfl ?_
    refine X_iload_n K0 3 dL_law_937 rfl rfl ?_
    refine X_iconst (v := 4) K0 dL_law_938 (by decide) ?_
    refine X_iadd K0 dL_law_939 ?_
    refine X_v (z := (nI (ii + 4))) (nI_add ii 4) ?_
    refine X_sld K0 hsc (by omega) hLn dL_law_940 ?_
    refine X_aload_n K0 0 dL_law_941 rfl rfl ?_
    refine X_iload_n K0 3 dL_law_942 rfl rfl ?_
    refine X_iconst (v := 5) K0 dL_law_943 (by decide) ?_
    refine X_iadd K0 dL_law_944 ?_
    refine X_v (z := (nI (ii + 5))) (nI_add ii 5) ?_
    refine X_sld K0 hsc (by omega) hLn dL_law_945 ?_
    refine X_callV (As := [.int (xs ((ii + 1))), .int (xs ((ii + 2))), .int (xs ((ii + 3))), .int (xs ((ii + 4))), .int (xs ((ii + 5)))]) (rest := [.int 1]) K0 12 (m_put g (o, oMain pl th pg ga sh asked 0) (pl, oPlan (nI R) (nI C) (bI op) (nI (thM R C op)) ap rr rd sl) (sl, aI g 40 slots) (th, oThings pl ki el nu (nI (ctF kinds (thM R C op))) al wa wo) (ki, aI g 40 kinds) (el, aI g 40 elders) (nu, aI g 40 numbers) (wa, aJ g 12 waf) (wo, aJ g 12 wof) (pg, oGrid (nI R) (nI C) sp.1 sp.2.1 sp.2.2) (ga, oGrid sg.1 sg.2.1 sg.2.2.1 sg.2.2.2.1 sg.2.2.2.2) (sh, aS g 3 shf) mo mki mel mto mio mwy mme mhs mso msr mrs mce mcp tn fi asked R C op hwb kinds elders tof iof wyf mef hsf sof srf rsf cef cpf pool1 abs hMS (xs ((ii + 1))) (xs ((ii + 2))) (xs ((ii + 3))) (xs ((ii + 4))) (xs ((ii + 5)))) mi_X5_put rfl rfl rfl ml_RL_102 rfl (Nat.le_of_ble_eq_true rfl) (by decide) ⟨by omega, by omega⟩ rfl rfl dL_law_946 ?_
    intro v w' hr'; rcases hr' with ⟨hd2, rfl, rfl⟩ | ⟨hd2, rfl, j2, jr2, i2, nr2, rows2, len2, f2, ce2, hj2, hx2, hab2, hjr2, hr2, hrw2, hi2, hie2, hMS2, rfl⟩
    · exact absurd hd1 hd2
    · obtain rfl : j1 = j2 := nI_e40 (hx1.symm.trans hx2) (by omega) (by omega)
      obtain ⟨-, rfl, rfl⟩ := inj3 (hab1.symm.trans hab2)
      have hnr := (ms_some hMS hj1 hab1).2.2.2.2.1
      obtain rfl : jr1 = jr2 := nI_e40 (hr1.symm.trans hr2) (by omega) (by omega)
      obtain ⟨rfl, rfl⟩ := inj2 (hrw1.symm.trans hrw2)
      have hln := (mr_some ((ms_some hMS hj1 hab1).2.2.2.2.2 jr1 hjr1) hrw1).2.1
      obtain rfl : i1 = i2 := nI_e40 (hie1.symm.trans hie2) (by omega) (by omega)
      show X φ k n ((o, oMain pl th pg ga sh asked 0) :: (pl, oPlan (nI R) (nI C) (bI op) (nI (thM R C op)) ap rr rd sl) :: (sl, aI g 40 slots) :: (th, oThings pl ki el nu (nI (ctF kinds (thM R C op))) al wa wo) :: (ki, aI g 40 kinds) :: (el, aI g 40 elders) :: (nu, aI g 40 numbers) :: (wa, aJ g 12 waf) :: (wo, aJ g 12 wof) :: (pg, oGrid (nI R) (nI C) sp.1 sp.2.1 sp.2.2) :: (ga, oGrid sg.1 sg.2.1 sg.2.2.1 sg.2.2.2.1 sg.2.2.2.2) :: (sh, aS g 3 shf) :: (mo, oModel 0 0 asked (nI R) (nI C) (bI op) mki mel mto mio mwy (bI hwb) mme mhs mso msr mrs mce mcp) :: (mki, aI g 40 kinds) :: (mel, aI g 40 elders) :: (mto, aI g 25 tof) :: (mio, aZ g 40 iof) :: (mwy, aI g 4096 wyf) :: (mme, aZ g 36 mef) :: (mhs, aZ g 3 hsf) :: (mso, aI g 3 sof) :: (msr, aI g 3 srf) :: (mrs, aI g 12 rsf) :: (mce, aI g 480 ce2) :: (mcp, aI g 40 cpf) :: pool1) [(0, .ref b), (1, .ref o), (2, .ref mo), (3, .int (nI ii))] 949 [.int 1, .int 1]
      refine X_icmp_eq K0 1101 dL_law_949 (by decide) (fun _ => ?_) (fun h => absurd (rfl) h)
      exact X.widen (by omega) (by omega) (next _ ⟨pl, sl, th, ki, el, nu, wa, wo, pg, ga, sh, mki, mel, mto, mio, mwy, mme, mhs, mso, msr, mrs, mce, mcp, R, C, op, (thM R C op), slots, ap, rr, rd, (ctF kinds (thM R C op)), al, kinds, elders, numbers, waf, wof, sp, sg, shf, asked, 0, 0, hwb, tof, iof, wyf, mef, hsf, sof, srf, rsf, ce2, cpf, pool1, (upA abs j1 (some ((xs ((ii + 2))), nr1, upA rows1 jr1 (some (len1, upd f1 i1 (if (xs ((ii + 2))) = 0 then (xs ((ii + 5))).toInt8.toInt32 else (xs ((ii + 5))))))))), ivmk rfl hRL hWY hPO1 hMS2⟩)

set_option maxRecDepth 20000 in
set_option maxHeartbeats 400000 in
theorem law_21 {φ : Fx} {g : Gx} {nm : String} {b Ln qB o mo ii k n : Nat} {xs : Nat → Int32} {w : va_W} (K0 : Cx φ g ⟨RL, nm, ""⟩ cL_law 4 9 328 600000 7302250) (hsc : Sc φ b Ln xs) (hB : Sb φ qB) (hii : ii + 8 ≤ Ln) (hLn : Ln ≤ 4096) (hk : k + 2 ≤ 600000) (hn : n + 40 ≤ 7302250) (hI : IV g o mo w) (next : ∀ w', IV g o mo w' → X φ (k + 2) (n + 40) w' [(0, .ref b), (1, .ref o), (2, .ref mo), (3, .int (nI ii))] 1101 []) : X φ k n w [(0, .ref b), (1, .ref o), (2, .ref mo), (3, .int (nI ii))] 954 [] := by
  obtain ⟨pl, sl, th, ki, el, nu, wa, wo, pg, ga, sh, mki, mel, mto, mio, mwy, mme, mhs, mso, msr, mrs, mce, mcp, R, C, op, T, slots, ap, rr, rd, m, al, kinds, elders, numbers, waf, wof, sp, sg, shf, asked, fi, tn, hwb, tof, iof, wyf, mef, hsf, sof, srf, rsf, cef, cpf, pool, abs, hIVw⟩ := hI
  obtain ⟨rfl, hRL, hWY, hPO, hMS⟩ := hIVw
  have hTe := hRL.2.2.1
  have hme := hRL.meq
  subst hTe
  subst hme
  have hR := hRL.1
  have hC := hRL.2.1
  have hKI := hRL.2.2.2.2.2.2.2.1
  have hDV := hRL.2.2.2.2.2.2.2.2
  have hT := th_M (op := op) hR hC
  have hm := hKI.2
  show X φ k n ((o, oMain pl th pg ga sh asked fi) :: (pl, oPlan (nI R) (nI C) (bI op) (nI (thM R C op)) ap rr rd sl) :: (sl, aI g 40 slots) :: (th, oThings pl ki el nu (nI (ctF kinds (thM R C op))) al wa wo) :: (ki, aI g 40 kinds) :: (el, aI g 40 elders) :: (nu, aI g 40 numbers) :: (wa, aJ g 12 waf) :: (wo, aJ g 12 wof) :: (pg, oGrid (nI R) (nI C) sp.1 sp.2.1 sp.2.2) :: (ga, oGrid sg.1 sg.2.1 sg.2.2.1 sg.2.2.2.1 sg.2.2.2.2) :: (sh, aS g 3 shf) :: (mo, oModel tn fi asked (nI R) (nI C) (bI op) mki mel mto mio mwy (bI hwb) mme mhs mso msr mrs mce mcp) :: (mki, aI g 40 kinds) :: (mel, aI g 40 elders) :: (mto, aI g 25 tof) :: (mio, aZ g 40 iof) :: (mwy, aI g 4096 wyf) :: (mme, aZ g 36 mef) :: (mhs, aZ g 3 hsf) :: (mso, aI g 3 sof) :: (msr, aI g 3 srf) :: (mrs, aI g 12 rsf) :: (mce, aI g 480 cef) :: (mcp, aI g 40 cpf) :: pool) [(0, .ref b), (1, .ref o), (2, .ref mo), (3, .int (nI ii))] 954 []
  refine X_aload_n K0 1 dL_law_954 rfl rfl ?_
  refine X_aload_n K0 0 dL_law_955 rfl rfl ?_
  refine X_iload_n K0 3 dL_law_956 rfl rfl ?_
  refine X_iconst (v := 1) K0 dL_law_957 (by decide) ?_
  refine X_iadd K0 dL_law_958 ?_
  refine X_v (z := (nI (ii + 1))) (nI_add ii 1) ?_
  refine X_sld K0 hsc (by omega) hLn dL_law_959 ?_
  refine X_aload_n K0 0 dL_law_960 rfl rfl ?_
  refine X_iload_n K0 3 dL_law_961 rfl rfl ?_
  refine X_iconst (v := 2) K0 dL_law_962 (by decide) ?_
  refine X_iadd K0 dL_law_963 ?_
  refine X_v (z := (nI (ii + 2))) (nI_add ii 2) ?_
  refine X_sld K0 hsc (by omega) hLn dL_law_964 ?_
  refine X_aload_n K0 0 dL_law_965 rfl rfl ?_
  refine X_iload_n K0 3 dL_law_966 rfl rfl ?_
  refine X_iconst (v := 3) K0 dL_law_967 (by decide) ?_
  refine X_iadd K0 dL_law_968 ?_
  refine X_v (z := (nI (ii + 3))) (nI_add ii 3) ?_
  refine X_sld K0 hsc (by omega) hLn dL_law_969 ?_
  refine X_aload_n K0 0 dL_law_970 rfl rfl ?_
  refine X_iload_n K0 3 dL_law_971 rfl rfl ?_
  refine X_iconst (v := 4) K0 dL_law_972 (by decide) ?_
  refine X_iadd K0 dL_law_973 ?_
  refine X_v (z := (nI (ii + 4))) (nI_add ii 4) ?_
  refine X_sld K0 hsc (by omega) hLn dL_law_974 ?_
  refine X_aload_n K0 0 dL_law_975 rfl rfl ?_
  refine X_iload_n K0 3 dL_law_976 rfl rfl ?_
  refine X_iconst (v := 5) K0 dL_law_977 (by decide) ?_
  refine X_iadd K0 dL_law_978 ?_
  refine X_v (z := (nI (ii + 5))) (nI_add ii 5) ?_
  refine X_sld K0 hsc (by omega) hLn dL_law_979 ?_
  refine X_aload_n K0 0 dL_law_980 rfl rfl ?_
  refine X_iload_n K0 3 dL_law_981 rfl rfl ?_
  refine X_bipush (v := 6) K0 dL_law_982 (by decide) ?_
  refine X_iadd K0 dL_law_984 ?_
  refine X_v (z := (nI (ii + 6))) (nI_add ii 6) ?_
  refine X_sld K0 hsc (by omega) hLn dL_law_985 ?_
  refine X_aload_n K0 0 dL_law_986 rfl rfl ?_
  refine X_iload_n K0 3 dL_law_987 rfl rfl ?_
  refine X_bipush (v := 7) K0 dL_law_988 (by decide) ?_
  refine X_iadd K0 dL_law_990 ?_
  refine X_v (z := (nI (ii + 7))) (nI_add ii 7) ?_
  refine X_sld K0 hsc (by omega) hLn dL_law_991 ?_
  refine X_callV (As := [.int (xs ((ii + 1))), .int (xs ((ii + 2))), .int (xs ((ii + 3))), .int (xs ((ii + 4))), .int (xs ((ii + 5))), .int (xs ((ii + 6))), .int (xs ((ii + 7)))]) (rest := []) K0 0 (c_copy g o pl th pg ga sh (pl, oPlan (nI R) (nI C) (bI op) (nI (thM R C op)) ap rr rd sl) (sl, aI g 40 slots) (th, oThings pl ki el nu (nI (ctF kinds (thM R C op))) al wa wo) (ki, aI g 40 kinds) (el, aI g 40 elders) (nu, aI g 40 numbers) (wa, aJ g 12 waf) (wo, aJ g 12 wof) (pg, oGrid (nI R) (nI C) sp.1 sp.2.1 sp.2.2) (ga, oGrid sg.1 sg.2.1 sg.2.2.1 sg.2.2.2.1 sg.2.2.2.2) (mo, oModel tn fi asked (nI R) (nI C) (bI op) mki mel mto mio mwy (bI hwb) mme mhs mso msr mrs mce mcp) (mki, aI g 40 kinds) (mel, aI g 40 elders) (mto, aI g 25 tof) (mio, aZ g 40 iof) (mwy, aI g 4096 wyf) (mme, aZ g 36 mef) (mhs, aZ g 3 hsf) (mso, aI g 3 sof) (msr, aI g 3 srf) (mrs, aI g 12 rsf) (mce, aI g 480 cef) (mcp, aI g 40 cpf) asked fi shf pool abs hPO (xs ((ii + 1))) (xs ((ii + 2))) (xs ((ii + 3))) (xs ((ii + 4))) (xs ((ii + 5))) (xs ((ii + 6))) (xs ((ii + 7)))) mi_X4_copy rfl rfl rfl ml_RL_103 rfl (Nat.le_of_ble_eq_true rfl) (by decide) ⟨by omega, by omega⟩ rfl rfl dL_law_992 ?_
  intro v w' hr'; rcases hr' with ⟨hd1, rfl, rfl⟩ | ⟨hd1, rfl, a1, b1, jr1, js1, i1, jj1, n1, so1, na1, nb1, rowsa1, rowsb1, la1, lb1, fa1, fb1, pool1, ha1, hb1, hx1, ho1, hab1, hbb1, hjr1, hjs1, hr1, hs1, hra1, hrb1, hi1, hjj1, hne1, hk1, hk2, hPO1, rfl⟩
  · show X φ k n ((o, oMain pl th pg ga sh asked (cpD abs (xs ((ii + 1))) (xs ((ii + 2))) (xs ((ii + 3))) (xs ((ii + 4))) (xs ((ii + 5))) (xs ((ii + 6))) (xs ((ii + 7))))) :: (pl, oPlan (nI R) (nI C) (bI op) (nI (thM R C op)) ap rr rd sl) :: (sl, aI g 40 slots) :: (th, oThings pl ki el nu (nI (ctF kinds (thM R C op))) al wa wo) :: (ki, aI g 40 kinds) :: (el, aI g 40 elders) :: (nu, aI g 40 numbers) :: (wa, aJ g 12 waf) :: (wo, aJ g 12 wof) :: (pg, oGrid (nI R) (nI C) sp.1 sp.2.1 sp.2.2) :: (ga, oGrid sg.1 sg.2.1 sg.2.2.1 sg.2.2.2.1 sg.2.2.2.2) :: (sh, aS g 3 shf) :: (mo, oModel tn fi asked (nI R) (nI C) (bI op) mki mel mto mio mwy (bI hwb) mme mhs mso msr mrs mce mcp) :: (mki, aI g 40 kinds) :: (mel, aI g 40 elders) :: (mto, aI g 25 tof) :: (mio, aZ g 40 iof) :: (mwy, aI g 4096 wyf) :: (mme, aZ g 36 mef) :: (mhs, aZ g 3 hsf) :: (mso, aI g 3 sof) :: (msr, aI g 3 srf) :: (mrs, aI g 12 rsf) :: (mce, aI g 480 cef) :: (mcp, aI g 40 cpf) :: pool) [(0, .ref b), (1, .ref o), (2, .ref mo), (3, .int (nI ii))] 995 [.int (cpD abs (xs ((ii + 1))) (xs ((ii + 2))) (xs ((ii + 3))) (xs ((ii + 4))) (xs ((ii + 5))) (xs ((ii + 6))) (xs ((ii + 7))))]
    refine X_aload_n K0 2 dL_law_995 rfl rfl ?_
    refine X_aload_n K0 0 dL_law_996 rfl rfl ?_
    refine X_iload_n K0 3 dL_law_997 rfl rfl ?_
    refine X_iconst (v := 1) K0 dL_law_998 (by decide) ?_
    refine X_iadd K0 dL_law_999 ?_
    refine X_v (z := (nI (ii + 1))) (nI_add ii 1) ?_
    refine X_sld K0 hsc (by omega) hLn dL_law_1000 ?_
    refine X_aload_n K0 0 dL_law_1001 rfl rfl ?_
    refine X_iload_n K0 3 dL_law_1002 rfl rfl ?_
    refine X_iconst (v := 2) K0 dL_law_1003 (by decide) ?_
    refine X_iadd K0 dL_law_1004 ?_
    refine X_v (z := (nI (ii + 2))) (nI_add ii 2) ?_
    refine X_sld K0 hsc (by omega) hLn dL_law_1005 ?_
    refine X_aload_n K0 0 dL_law_1006 rfl rfl ?_
    refine X_iload_n K0 3 dL_law_1007 rfl rfl ?_
    refine X_iconst (v := 3) K0 dL_law_1008 (by decide) ?_
    refine X_iadd K0 dL_law_1009 ?_
    refine X_v (z := (nI (ii + 3))) (nI_add ii 3) ?_
    refine X_sld K0 hsc (by omega) hLn dL_law_1010 ?_
    refine X_aload_n K0 0 dL_law_1011 rfl rfl ?_
    refine X_iload_n K0 3 dL_law_1012 rfl rfl ?_
    refine X_iconst (v := 4) K0 dL_law_1013 (by decide) ?_
    refine X_iadd K0 dL_law_1014 ?_
    refine X_v (z := (nI (ii + 4))) (nI_add ii 4) ?_
    refine X_sld K0 hsc (by omega) hLn dL_law_1015 ?_
    refine X_aload_n K0 0 dL_law_1016 rfl rfl ?_
    refine X_iload_n K0 3 dL_law_1017 rfl rfl ?_
    refine X_iconst (v := 5) K0 dL_law_1018 (by decide) ?_
    refine X_iadd K0 dL_law_1019 ?_
    refine X_v (z := (nI (ii + 5))) (nI_add ii 5) ?_
    refine X_sld K0 hsc (by omega) hLn dL_law_1020 ?_
    refine X_aload_n K0 0 dL_law_1021 rfl rfl ?_
    refine X_iload_n K0 3 dL_law_1022 rfl rfl ?_
    refine X_bipush (v := 6) K0 dL_law_1023 (by decide) ?_
    refine X_iadd K0 dL_law_1025 ?_
    refine X_v (z := (nI (ii + 6))) (nI_add ii 6) ?_
    refine X_sld K0 hsc (by omega) hLn dL_law_1026 ?_
    refine X_aload_n K0 0 dL_law_1027 rfl rfl ?_
    refine X_iload_n K0 3 dL_law_1028 rfl rfl ?_
    refine X_bipush (v := 7) K0 dL_law_1029 (by decide) ?_
    refine X_iadd K0 dL_law_1031 ?_
    refine X_v (z := (nI (ii + 7))) (nI_add ii 7) ?_
    refine X_sld K0 hsc (by omega) hLn dL_law_1032 ?_
    refine X_callV (As := [.int (xs ((ii + 1))), .int (xs ((ii + 2))), .int (xs ((ii + 3))), .int (xs ((ii + 4))), .int (xs ((ii + 5))), .int (xs ((ii + 6))), .int (xs ((ii + 7)))]) (rest := [.int (cpD abs (xs ((ii + 1))) (xs ((ii + 2))) (xs ((ii + 3))) (xs ((ii + 4))) (xs ((ii + 5))) (xs ((ii + 6))) (xs ((ii + 7))))]) K0 12 (m_copy g (o, oMain pl th pg ga sh asked (cpD abs (xs ((ii + 1))) (xs ((ii + 2))) (xs ((ii + 3))) (xs ((ii + 4))) (xs ((ii + 5))) (xs ((ii + 6))) (xs ((ii + 7))))) (pl, oPlan (nI R) (nI C) (bI op) (nI (thM R C op)) ap rr rd sl) (sl, aI g 40 slots) (th, oThings pl ki el nu (nI (ctF kinds (thM R C op))) al wa wo) (ki, aI g 40 kinds) (el, aI g 40 elders) (nu, aI g 40 numbers) (wa, aJ g 12 waf) (wo, aJ g 12 wof) (pg, oGrid (nI R) (nI C) sp.1 sp.2.1 sp.2.2) (ga, oGrid sg.1 sg.2.1 sg.2.2.1 sg.2.2.2.1 sg.2.2.2.2) (sh, aS g 3 shf) mo mki mel mto mio mwy mme mhs mso msr mrs mce mcp tn fi asked R C op hwb kinds elders tof iof wyf mef hsf sof srf rsf cef cpf pool abs hMS (xs ((ii + 1))) (xs ((ii + 2))) (xs ((ii + 3))) (xs ((ii + 4))) (xs ((ii + 5))) (xs ((ii + 6))) (xs ((ii + 7)))) mi_X5_copy rfl rfl rfl ml_RL_107 rfl (Nat.le_of_ble_eq_true rfl) (by decide) ⟨by omega, by omega⟩ rfl rfl dL_law_1033 ?_
    intro v w' hr'; rcases hr' with ⟨hd2, rfl, rfl⟩ | ⟨hd2, rfl, a2, b2, jr2, js2, i2, jj2, n2, so2, na2, nb2, rowsa2, rowsb2, la2, lb2, fa2, fb2, ce2, cp2, ha2, hb2, hx2, ho2, hab2, hbb2, hjr2, hjs2, hr2, hs2, hra2, hrb2, hi2, hjj2, hne2, hk3, hk4, hMS2, rfl⟩
    · show X φ k n ((o, oMain pl th pg ga sh asked (cpD abs (xs ((ii + 1))) (xs ((ii + 2))) (xs ((ii + 3))) (xs ((ii + 4))) (xs ((ii + 5))) (xs ((ii + 6))) (xs ((ii + 7))))) :: (pl, oPlan (nI R) (nI C) (bI op) (nI (thM R C op)) ap rr rd sl) :: (sl, aI g 40 slots) :: (th, oThings pl ki el nu (nI (ctF kinds (thM R C op))) al wa wo) :: (ki, aI g 40 kinds) :: (el, aI g 40 elders) :: (nu, aI g 40 numbers) :: (wa, aJ g 12 waf) :: (wo, aJ g 12 wof) :: (pg, oGrid (nI R) (nI C) sp.1 sp.2.1 sp.2.2) :: (ga, oGrid sg.1 sg.2.1 sg.2.2.1 sg.2.2.2.1 sg.2.2.2.2) :: (sh, aS g 3 shf) :: (mo, oModel 0 (cpD abs (xs ((ii + 1))) (xs ((ii + 2))) (xs ((ii + 3))) (xs ((ii + 4))) (xs ((ii + 5))) (xs ((ii + 6))) (xs ((ii + 7)))) asked (nI R) (nI C) (bI op) mki mel mto mio mwy (bI hwb) mme mhs mso msr mrs mce mcp) :: (mki, aI g 40 kinds) :: (mel, aI g 40 elders) :: (mto, aI g 25 tof) :: (mio, aZ g 40 iof) :: (mwy, aI g 4096 wyf) :: (mme, aZ g 36 mef) :: (mhs, aZ g 3 hsf) :: (mso, aI g 3 sof) :: (msr, aI g 3 srf) :: (mrs, aI g 12 rsf) :: (mce, aI g 480 cef) :: (mcp, aI g 40 cpf) :: pool) [(0, .ref b), (1, .ref o), (2, .ref mo), (3, .int (nI ii))] 1036 [.int (cpD abs (xs ((ii + 1))) (xs ((ii + 2))) (xs ((ii + 3))) (xs ((ii + 4))) (xs ((ii + 5))) (xs ((ii + 6))) (xs ((ii + 7)))), .int (cpD abs (xs ((ii + 1))) (xs ((ii + 2))) (xs ((ii + 3))) (xs ((ii + 4))) (xs ((ii + 5))) (xs ((ii + 6))) (xs ((ii + 7))))]
      refine X_icmp_eq K0 1101 dL_law_1036 (by decide) (fun _ => ?_) (fun h => absurd (rfl) h)
      exact X.widen (by omega) (by omega) (next _ ⟨pl, sl, th, ki, el, nu, wa, wo, pg, ga, sh, mki, mel, mto, mio, mwy, mme, mhs, mso, msr, mrs, mce, mcp, R, C, op, (thM R C op), slots, ap, rr, rd, (ctF kinds (thM R C op)), al, kinds, elders, numbers, waf, wof, sp, sg, shf, asked, (cpD abs (xs ((ii + 1))) (xs ((ii + 2))) (xs ((ii + 3))) (xs ((ii + 4))) (xs ((ii + 5))) (xs ((ii + 6))) (xs ((ii + 7)))), 0, hwb, tof, iof, wyf, mef, hsf, sof, srf, rsf, cef, cpf, pool, abs, ivmk rfl hRL hWY hPO hMS⟩)
    · exact absurd hd2 hd1
  · show X φ k n ((o, oMain pl th pg ga sh asked 0) :: (pl, oPlan (nI R) (nI C) (bI op) (nI (thM R C op)) ap rr rd sl) :: (sl, aI g 40 slots) :: (th, oThings pl ki el nu (nI (ctF kinds (thM R C op))) al wa wo) :: (ki, aI g 40 kinds) :: (el, aI g 40 elders) :: (nu, aI g 40 numbers) :: (wa, aJ g 12 waf) :: (wo, aJ g 12 wof) :: (pg, oGrid (nI R) (nI C) sp.1 sp.2.1 sp.2.2) :: (ga, oGrid sg.1 sg.2.1 sg.2.2.1 sg.2.2.2.1 sg.2.2.2.2) :: (sh, aS g 3 shf) :: (mo, oModel tn fi asked (nI R) (nI C) (bI op) mki mel mto mio mwy (bI hwb) mme mhs mso msr mrs mce mcp) :: (mki, aI g 40 kinds) :: (mel, aI g 40 elders) :: (mto, aI g 25 tof) :: (mio, aZ g 40 iof) :: (mwy, aI g 4096 wyf) :: (mme, aZ g 36 mef) :: (mhs, aZ g 3 hsf) :: (mso, aI g 3 sof) :: (msr, aI g 3 srf) :: (mrs, aI g 12 rsf) :: (mce, aI g 480 cef) :: (mcp, aI g 40 cpf) :: pool1) [(0, .ref b), (1, .ref o), (2, .ref mo), (3, .int (nI ii))] 995 [.int (xs ((ii + 7)))]
    refine X_aload_n K0 2 dL_law_995 rfl rfl ?_
    refine X_aload_n K0 0 dL_law_996 rfl rfl ?_
    refine X_iload_n K0 3 dL_law_997 rfl rfl ?_
    refine X_iconst (v := 1) K0 dL_law_998 (by decide) ?_
    refine X_iadd K0 dL_law_999 ?_
    refine X_v (z := (nI (ii + 1))) (nI_add ii 1) ?_
    refine X_sld K0 hsc (by omega) hLn dL_law_1000 ?_
    refine X_aload_n K0 0 dL_law_1001 rfl rfl ?_
    refine X_iload_n K0 3 dL_law_1002 rfl rfl ?_
    refine X_iconst (v := 2) K0 dL_law_1003 (by decide) ?_
    refine X_iadd K0 dL_law_1004 ?_
    refine X_v (z := (nI (ii + 2))) (nI_add ii 2) ?_
    refine X_sld K0 hsc (by omega) hLn dL_law_1005 ?_
    refine X_aload_n K0 0 dL_law_1006 rfl rfl ?_
    refine X_iload_n K0 3 dL_law_1007 rfl rfl ?_
    refine X_iconst (v := 3) K0 dL_law_1008 (by decide) ?_
    refine X_iadd K0 dL_law_1009 ?_
    refine X_v (z := (nI (ii + 3))) (nI_add ii 3) ?_
    refine X_sld K0 hsc (by omega) hLn dL_law_1010 ?_
    refine X_aload_n K0 0 dL_law_1011 rfl rfl ?_
    refine X_iload_n K0 3 dL_law_1012 rfl rfl ?_
    refine X_iconst (v := 4) K0 dL_law_1013 (by decide) ?_
    refine X_iadd K0 dL_law_1014 ?_
    refine X_v (z := (nI (ii + 4))) (nI_add ii 4) ?_
    refine X_sld K0 hsc (by omega) hLn dL_law_1015 ?_
    refine X_aload_n K0 0 dL_law_1016 rfl rfl ?_
    refine X_iload_n K0 3 dL_law_1017 rfl rfl ?_
    refine X_iconst (v := 5) K0 dL_law_1018 (by decide) ?_
    refine X_iadd K0 dL_law_1019 ?_
    refine X_v (z := (nI (ii + 5))) (nI_add ii 5) ?_
    refine X_sld K0 hsc (by omega) hLn dL_law_1020 ?_
    refine X_aload_n K0 0 dL_law_1021 rfl rfl ?_
    refine X_iload_n K0 3 dL_law_1022 rfl rfl ?_
    refine X_bipush (v := 6) K0 dL_law_1023 (by decide) ?_
    refine X_iadd K0 dL_law_1025 ?_
    refine X_v (z := (nI (ii + 6))) (nI_add ii 6) ?_
    refine X_sld K0 hsc (by omega) hLn dL_law_1026 ?_
    refine X_aload_n K0 0 dL_law_1027 rfl rfl ?_
    refine X_iload_n K0 3 dL_law_1028 rfl rfl ?_
    refine X_bipush (v := 7) K0 dL_law_1029 (by decide) ?_
    refine X_iadd K0 dL_law_1031 ?_
    refine X_v (z := (nI (ii + 7))) (nI_add ii 7) ?_
    refine X_sld K0 hsc (by omega) hLn dL_law_1032 ?_
    refine X_callV (As := [.int (xs ((ii + 1))), .int (xs ((ii + 2))), .int (xs ((ii + 3))), .int (xs ((ii + 4))), .int (xs ((ii + 5))), .int (xs ((ii + 6))), .int (xs ((ii + 7)))]) (rest := [.int (xs ((ii + 7)))]) K0 12 (m_copy g (o, oMain pl th pg ga sh asked 0) (pl, oPlan (nI R) (nI C) (bI op) (nI (thM R C op)) ap rr rd sl) (sl, aI g 40 slots) (th, oThings pl ki el nu (nI (ctF kinds (thM R C op))) al wa wo) (ki, aI g 40 kinds) (el, aI g 40 elders) (nu, aI g 40 numbers) (wa, aJ g 12 waf) (wo, aJ g 12 wof) (pg, oGrid (nI R) (nI C) sp.1 sp.2.1 sp.2.2) (ga, oGrid sg.1 sg.2.1 sg.2.2.1 sg.2.2.2.1 sg.2.2.2.2) (sh, aS g 3 shf) mo mki mel mto mio mwy mme mhs mso msr mrs mce mcp tn fi asked R C op hwb kinds elders tof iof wyf mef hsf sof srf rsf cef cpf pool1 abs hMS (xs ((ii + 1))) (xs ((ii + 2))) (xs ((ii + 3))) (xs ((ii + 4))) (xs ((ii + 5))) (xs ((ii + 6))) (xs ((ii + 7)))) mi_X5_copy rfl rfl rfl ml_RL_107 rfl (Nat.le_of_ble_eq_true rfl) (by decide) ⟨by omega, by omega⟩ rfl rfl dL_law_1033 ?_
    intro v w' hr'; rcases hr' with ⟨hd2, rfl, rfl⟩ | ⟨hd2, rfl, a2, b2, jr2, js2, i2, jj2, n2, so2, na2, nb2, rowsa2, rowsb2, la2, lb2, fa2, fb2, ce2, cp2, ha2, hb2, hx2, ho2, hab2, hbb2, hjr2, hjs2, hr2, hs2, hra2, hrb2, hi2, hjj2, hne2, hk3, hk4, hMS2, rfl⟩
    · exact absurd hd1 hd2
    · obtain rfl : a1 = a2 := nI_e40 (hx1.symm.trans hx2) (by omega) (by omega)
      obtain rfl : b1 = b2 := nI_e40 (ho1.symm.trans ho2) (by omega) (by omega)
      obtain ⟨rfl, rfl, rfl⟩ := inj3 (hab1.symm.trans hab2)
      obtain ⟨-, rfl, rfl⟩ := inj3 (hbb1.symm.trans hbb2)
      have hnra := (ms_some hMS ha1 hab1).2.2.2.2.1
      have hnrb := (ms_some hMS hb1 hbb1).2.2.2.2.1
      obtain rfl : jr1 = jr2 := nI_e40 (hr1.symm.trans hr2) (by omega) (by omega)
      obtain rfl : js1 = js2 := nI_e40 (hs1.symm.trans hs2) (by omega) (by omega)
      obtain ⟨rfl, rfl⟩ := inj2 (hra1.symm.trans hra2)
      obtain ⟨rfl, rfl⟩ := inj2 (hrb1.symm.trans hrb2)
      have hlna := (mr_some ((ms_some hMS ha1 hab1).2.2.2.2.2 jr1 hjr1) hra1).2.1
      have hlnb := (mr_some ((ms_some hMS hb1 hbb1).2.2.2.2.2 js1 hjs1) hrb1).2.1
      obtain rfl : i1 = i2 := nI_e40 (hi1.symm.trans hi2) (by omega) (by omega)
      obtain rfl : jj1 = jj2 := nI_e40 (hjj1.symm.trans hjj2) (by omega) (by omega)
      obtain rfl : n1 = n2 := nI_e40 (hne1.symm.trans hne2) (by omega) (by omega)
      show X φ k n ((o, oMain pl th pg ga sh asked 0) :: (pl, oPlan (nI R) (nI C) (bI op) (nI (thM R C op)) ap rr rd sl) :: (sl, aI g 40 slots) :: (th, oThings pl ki el nu (nI (ctF kinds (thM R C op))) al wa wo) :: (ki, aI g 40 kinds) :: (el, aI g 40 elders) :: (nu, aI g 40 numbers) :: (wa, aJ g 12 waf) :: (wo, aJ g 12 wof) :: (pg, oGrid (nI R) (nI C) sp.1 sp.2.1 sp.2.2) :: (ga, oGrid sg.1 sg.2.1 sg.2.2.1 sg.2.2.2.1 sg.2.2.2.2) :: (sh, aS g 3 shf) :: (mo, oModel 0 0 asked (nI R) (nI C) (bI op) mki mel mto mio mwy (bI hwb) mme mhs mso msr mrs mce mcp) :: (mki, aI g 40 kinds) :: (mel, aI g 40 elders) :: (mto, aI g 25 tof) :: (mio, aZ g 40 iof) :: (mwy, aI g 4096 wyf) :: (mme, aZ g 36 mef) :: (mhs, aZ g 3 hsf) :: (mso, aI g 3 sof) :: (msr, aI g 3 srf) :: (mrs, aI g 12 rsf) :: (mce, aI g 480 ce2) :: (mcp, aI g 40 cp2) :: pool1) [(0, .ref b), (1, .ref o), (2, .ref mo), (3, .int (nI ii))] 1036 [.int (xs ((ii + 7))), .int (xs ((ii + 7)))]
      refine X_icmp_eq K0 1101 dL_law_1036 (by decide) (fun _ => ?_) (fun h => absurd (rfl) h)
      exact X.widen (by omega) (by omega) (next _ ⟨pl, sl, th, ki, el, nu, wa, wo, pg, ga, sh, mki, mel, mto, mio, mwy, mme, mhs, mso, msr, mrs, mce, mcp, R, C, op, (thM R C op), slots, ap, rr, rd, (ctF kinds (thM R C op)), al, kinds, elders, numbers, waf, wof, sp, sg, shf, asked, 0, 0, hwb, tof, iof, wyf, mef, hsf, sof, srf, rsf, ce2, cp2, pool1, (upA abs b1 (some (so1, nb1, upA rowsb1 js1 (some (lb1, va_cpy fa1 fb1 i1 jj1 n1))))), ivmk rfl hRL hWY hPO1 hMS2⟩)

set_option maxRecDepth 20000 in
set_option maxHeartbeats 400000 in
theorem law_22 {φ : Fx} {g : Gx} {nm : String} {b Ln qB o mo ii k n : Nat} {xs : Nat → Int32} {w : va_W} (K0 : Cx φ g ⟨RL, nm, ""⟩ cL_law 4 9 328 600000 7302250) (hsc : Sc φ b Ln xs) (hB : Sb φ qB) (hii : ii + 8 ≤ Ln) (hLn : Ln ≤ 4096) (hk : k + 2 ≤ 600000) (hn : n + 40 ≤ 7302250) (hI : IV g o mo w) (next : ∀ w', IV g o mo w' → X φ (k + 2) (n + 40) w' [(0, .ref b), (1, .ref o), (2, .ref mo), (3, .int (nI ii))] 1101 []) : X φ k n w [(0, .ref b), (1, .ref o), (2, .ref mo), (3, .int (nI ii))] 1041 [] := by
  obtain ⟨pl, sl, th, ki, el, nu, wa, wo, pg, ga, sh, mki, mel, mto, mio, mwy, mme, mhs, mso, msr, mrs, mce, mcp, R, C, op, T, slots, ap, rr, rd, m, al, kinds, elders, numbers, waf, wof, sp, sg, shf, asked, fi, tn, hwb, tof, iof, wyf, mef, hsf, sof, srf, rsf, cef, cpf, pool, abs, hIVw⟩ := hI
  obtain ⟨rfl, hRL, hWY, hPO, hMS⟩ := hIVw
  have hTe := hRL.2.2.1
  have hme := hRL.meq
  subst hTe
  subst hme
  have hR := hRL.1
  have hC := hRL.2.1
  have hKI := hRL.2.2.2.2.2.2.2.1
  have hDV := hRL.2.2.2.2.2.2.2.2
  have hT := th_M (op := op) hR hC
  have hm := hKI.2
  show X φ k n ((o, oMain pl th pg ga sh asked fi) :: (pl, oPlan (nI R) (nI C) (bI op) (nI (thM R C op)) ap rr rd sl) :: (sl, aI g 40 slots) :: (th, oThings pl ki el nu (nI (ctF kinds (thM R C op))) al wa wo) :: (ki, aI g 40 kinds) :: (el, aI g 40 elders) :: (nu, aI g 40 numbers) :: (wa, aJ g 12 waf) :: (wo, aJ g 12 wof) :: (pg, oGrid (nI R) (nI C) sp.1 sp.2.1 sp.2.2) :: (ga, oGrid sg.1 sg.2.1 sg.2.2.1 sg.2.2.2.1 sg.2.2.2.2) :: (sh, aS g 3 shf) :: (mo, oModel tn fi asked (nI R) (nI C) (bI op) mki mel mto mio mwy (bI hwb) mme mhs mso msr mrs mce mcp) :: (mki, aI g 40 kinds) :: (mel, aI g 40 elders) :: (mto, aI g 25 tof) :: (mio, aZ g 40 iof) :: (mwy, aI g 4096 wyf) :: (mme, aZ g 36 mef) :: (mhs, aZ g 3 hsf) :: (mso, aI g 3 sof) :: (msr, aI g 3 srf) :: (mrs, aI g 12 rsf) :: (mce, aI g 480 cef) :: (mcp, aI g 40 cpf) :: pool) [(0, .ref b), (1, .ref o), (2, .ref mo), (3, .int (nI ii))] 1041 []
  refine X_aload_n K0 1 dL_law_1041 rfl rfl ?_
  refine X_aload_n K0 0 dL_law_1042 rfl rfl ?_
  refine X_iload_n K0 3 dL_law_1043 rfl rfl ?_
  refine X_iconst (v := 1) K0 dL_law_1044 (by decide) ?_
  refine X_iadd K0 dL_law_1045 ?_
  refine X_v (z := (nI (ii + 1))) (nI_add ii 1) ?_
  refine X_sld K0 hsc (by omega) hLn dL_law_1046 ?_
  refine X_aload_n K0 0 dL_law_1047 rfl rfl ?_
  refine X_iload_n K0 3 dL_law_1048 rfl rfl ?_
  refine X_iconst (v := 2) K0 dL_law_1049 (by decide) ?_
  refine X_iadd K0 dL_law_1050 ?_
  refine X_v (z := (nI (ii + 2))) (nI_add ii 2) ?_
  refine X_sld K0 hsc (by omega) hLn dL_law_1051 ?_
  refine X_callV (As := [.int (xs ((ii + 1))), .int (xs ((ii + 2)))]) (rest := []) K0 0 (c_read g o pl sl th ki el nu wa wo pg ga sh R C op (thM R C op) slots ap rr rd (ctF kinds (thM R C op)) al kinds elders numbers waf wof sp sg shf asked fi (mo, oModel tn fi asked (nI R) (nI C) (bI op) mki mel mto mio mwy (bI hwb) mme mhs mso msr mrs mce mcp) (mki, aI g 40 kinds) (mel, aI g 40 elders) (mto, aI g 25 tof) (mio, aZ g 40 iof) (mwy, aI g 4096 wyf) (mme, aZ g 36 mef) (mhs, aZ g 3 hsf) (mso, aI g 3 sof) (msr, aI g 3 srf) (mrs, aI g 12 rsf) (mce, aI g 480 cef) (mcp, aI g 40 cpf) pool hR hC hT hm hKI hDV abs hPO (xs ((ii + 1))) (xs ((ii + 2)))) mi_X4_read rfl rfl rfl ml_RL_108 rfl (Nat.le_of_ble_eq_true rfl) (by decide) ⟨by omega, by omega⟩ rfl rfl dL_law_1052 ?_
  intro v w' hr'; rcases hr' with ⟨hb1, rfl, rfl⟩ | ⟨j1, hj1, hx1, (⟨hf1, rfl, rfl⟩ | ⟨so1, nr1, rows1, jr1, len1, row1, hab1, hjr1, hr1, hrw1, hlen1, i1, f1, m2, al2, kinds2, elders2, nu2, wa2, wo2, rfl, hrk1, hk1, he1, hKI1, hDV1, rfl⟩)⟩
  · show X φ k n ((o, oMain pl th pg ga sh asked (-1)) :: (pl, oPlan (nI R) (nI C) (bI op) (nI (thM R C op)) ap rr rd sl) :: (sl, aI g 40 slots) :: (th, oThings pl ki el nu (nI (ctF kinds (thM R C op))) al wa wo) :: (ki, aI g 40 kinds) :: (el, aI g 40 elders) :: (nu, aI g 40 numbers) :: (wa, aJ g 12 waf) :: (wo, aJ g 12 wof) :: (pg, oGrid (nI R) (nI C) sp.1 sp.2.1 sp.2.2) :: (ga, oGrid sg.1 sg.2.1 sg.2.2.1 sg.2.2.2.1 sg.2.2.2.2) :: (sh, aS g 3 shf) :: (mo, oModel tn fi asked (nI R) (nI C) (bI op) mki mel mto mio mwy (bI hwb) mme mhs mso msr mrs mce mcp) :: (mki, aI g 40 kinds) :: (mel, aI g 40 elders) :: (mto, aI g 25 tof) :: (mio, aZ g 40 iof) :: (mwy, aI g 4096 wyf) :: (mme, aZ g 36 mef) :: (mhs, aZ g 3 hsf) :: (mso, aI g 3 sof) :: (msr, aI g 3 srf) :: (mrs, aI g 12 rsf) :: (mce, aI g 480 cef) :: (mcp, aI g 40 cpf) :: pool) [(0, .ref b), (1, .ref o), (2, .ref mo), (3, .int (nI ii))] 1055 [.int (-1)]
    refine X_aload_n K0 2 dL_law_1055 rfl rfl ?_
    refine X_aload_n K0 0 dL_law_1056 rfl rfl ?_
    refine X_iload_n K0 3 dL_law_1057 rfl rfl ?_
    refine X_iconst (v := 1) K0 dL_law_1058 (by decide) ?_
    refine X_iadd K0 dL_law_1059 ?_
    refine X_v (z := (nI (ii + 1))) (nI_add ii 1) ?_
    refine X_sld K0 hsc (by omega) hLn dL_law_1060 ?_
    refine X_aload_n K0 0 dL_law_1061 rfl rfl ?_
    refine X_iload_n K0 3 dL_law_1062 rfl rfl ?_
    refine X_iconst (v := 2) K0 dL_law_1063 (by decide) ?_
    refine X_iadd K0 dL_law_1064 ?_
    refine X_v (z := (nI (ii + 2))) (nI_add ii 2) ?_
    refine X_sld K0 hsc (by omega) hLn dL_law_1065 ?_
    refine X_callV (As := [.int (xs ((ii + 1))), .int (xs ((ii + 2)))]) (rest := [.int (-1)]) K0 12 (m_read g (o, oMain pl th pg ga sh asked (-1)) (pl, oPlan (nI R) (nI C) (bI op) (nI (thM R C op)) ap rr rd sl) (sl, aI g 40 slots) (th, oThings pl ki el nu (nI (ctF kinds (thM R C op))) al wa wo) (ki, aI g 40 kinds) (el, aI g 40 elders) (nu, aI g 40 numbers) (wa, aJ g 12 waf) (wo, aJ g 12 wof) (pg, oGrid (nI R) (nI C) sp.1 sp.2.1 sp.2.2) (ga, oGrid sg.1 sg.2.1 sg.2.2.1 sg.2.2.2.1 sg.2.2.2.2) (sh, aS g 3 shf) mo mki mel mto mio mwy mme mhs mso msr mrs mce mcp tn fi asked R C op hwb kinds elders tof iof wyf mef hsf sof srf rsf cef cpf pool hR hC hKI hWY abs hMS (xs ((ii + 1))) (xs ((ii + 2)))) mi_X5_read rfl rfl rfl ml_RL_111 rfl (Nat.le_of_ble_eq_true rfl) (by decide) ⟨by omega, by omega⟩ rfl rfl dL_law_1066 ?_
    intro v w' hr'; rcases hr' with ⟨hb2, rfl, rfl⟩ | ⟨j2, hj2, hx2, (⟨hf2, rfl, rfl⟩ | ⟨so2, nr2, rows2, jr2, len2, row2, hab2, hjr2, hr2, hrw2, hlen2, i2, f2, kinds3, elders3, hq, rfl, hrk2, hk2, he2, hKI2, hWY2, rfl⟩)⟩
    · show X φ k n ((o, oMain pl th pg ga sh asked (-1)) :: (pl, oPlan (nI R) (nI C) (bI op) (nI (thM R C op)) ap rr rd sl) :: (sl, aI g 40 slots) :: (th, oThings pl ki el nu (nI (ctF kinds (thM R C op))) al wa wo) :: (ki, aI g 40 kinds) :: (el, aI g 40 elders) :: (nu, aI g 40 numbers) :: (wa, aJ g 12 waf) :: (wo, aJ g 12 wof) :: (pg, oGrid (nI R) (nI C) sp.1 sp.2.1 sp.2.2) :: (ga, oGrid sg.1 sg.2.1 sg.2.2.1 sg.2.2.2.1 sg.2.2.2.2) :: (sh, aS g 3 shf) :: (mo, oModel 0 (-1) asked (nI R) (nI C) (bI op) mki mel mto mio mwy (bI hwb) mme mhs mso msr mrs mce mcp) :: (mki, aI g 40 kinds) :: (mel, aI g 40 elders) :: (mto, aI g 25 tof) :: (mio, aZ g 40 iof) :: (mwy, aI g 4096 wyf) :: (mme, aZ g 36 mef) :: (mhs, aZ g 3 hsf) :: (mso, aI g 3 sof) :: (msr, aI g 3 srf) :: (mrs, aI g 12 rsf) :: (mce, aI g 480 cef) :: (mcp, aI g 40 cpf) :: pool) [(0, .ref b), (1, .ref o), (2, .ref mo), (3, .int (nI ii))] 1069 [.int (-1), .int (-1)]
      refine X_icmp_eq K0 1101 dL_law_1069 (by decide) (fun _ => ?_) (fun h => absurd (rfl) h)
      exact X.widen (by omega) (by omega) (next _ ⟨pl, sl, th, ki, el, nu, wa, wo, pg, ga, sh, mki, mel, mto, mio, mwy, mme, mhs, mso, msr, mrs, mce, mcp, R, C, op, (thM R C op), slots, ap, rr, rd, (ctF kinds (thM R C op)), al, kinds, elders, numbers, waf, wof, sp, sg, shf, asked, (-1), 0, hwb, tof, iof, wyf, mef, hsf, sof, srf, rsf, cef, cpf, pool, abs, ivmk rfl hRL hWY hPO hMS⟩)
    · exact absurd hb1 (by rw [hx2, wi3y hj2]; decide)
    · exact absurd hb1 (by rw [hx2, wi3y hj2]; decide)
  · show X φ k n ((o, oMain pl th pg ga sh asked (rfD (abs j1) (xs ((ii + 2))))) :: (pl, oPlan (nI R) (nI C) (bI op) (nI (thM R C op)) ap rr rd sl) :: (sl, aI g 40 slots) :: (th, oThings pl ki el nu (nI (ctF kinds (thM R C op))) al wa wo) :: (ki, aI g 40 kinds) :: (el, aI g 40 elders) :: (nu, aI g 40 numbers) :: (wa, aJ g 12 waf) :: (wo, aJ g 12 wof) :: (pg, oGrid (nI R) (nI C) sp.1 sp.2.1 sp.2.2) :: (ga, oGrid sg.1 sg.2.1 sg.2.2.1 sg.2.2.2.1 sg.2.2.2.2) :: (sh, aS g 3 shf) :: (mo, oModel tn fi asked (nI R) (nI C) (bI op) mki mel mto mio mwy (bI hwb) mme mhs mso msr mrs mce mcp) :: (mki, aI g 40 kinds) :: (mel, aI g 40 elders) :: (mto, aI g 25 tof) :: (mio, aZ g 40 iof) :: (mwy, aI g 4096 wyf) :: (mme, aZ g 36 mef) :: (mhs, aZ g 3 hsf) :: (mso, aI g 3 sof) :: (msr, aI g 3 srf) :: (mrs, aI g 12 rsf) :: (mce, aI g 480 cef) :: (mcp, aI g 40 cpf) :: pool) [(0, .ref b), (1, .ref o), (2, .ref mo), (3, .int (nI ii))] 1055 [.int 0]
    refine X_aload_n K0 2 dL_law_1055 rfl rfl ?_
    refine X_aload_n K0 0 dL_law_1056 rfl rfl ?_
    refine X_iload_n K0 3 dL_law_1057 rfl rfl ?_
    refine X_iconst (v := 1) K0 dL_law_1058 (by decide) ?_
    refine X_iadd K0 dL_law_1059 ?_
    refine X_v (z := (nI (ii + 1))) (nI_add ii 1) ?_
    refine X_sld K0 hsc (by omega) hLn dL_law_1060 ?_
    refine X_aload_n K0 0 dL_law_1061 rfl rfl ?_
    refine X_iload_n K0 3 dL_law_1062 rfl rfl ?_
    refine X_iconst (v := 2) K0 dL_law_1063 (by decide) ?_
    refine X_iadd K0 dL_law_1064 ?_
    refine X_v (z := (nI (ii + 2))) (nI_add ii 2) ?_
    refine X_sld K0 hsc (by omega) hLn dL_law_1065 ?_
    refine X_callV (As := [.int (xs ((ii + 1))), .int (xs ((ii + 2)))]) (rest := [.int 0]) K0 12 (m_read g (o, oMain pl th pg ga sh asked (rfD (abs j1) (xs ((ii + 2))))) (pl, oPlan (nI R) (nI C) (bI op) (nI (thM R C op)) ap rr rd sl) (sl, aI g 40 slots) (th, oThings pl ki el nu (nI (ctF kinds (thM R C op))) al wa wo) (ki, aI g 40 kinds) (el, aI g 40 elders) (nu, aI g 40 numbers) (wa, aJ g 12 waf) (wo, aJ g 12 wof) (pg, oGrid (nI R) (nI C) sp.1 sp.2.1 sp.2.2) (ga, oGrid sg.1 sg.2.1 sg.2.2.1 sg.2.2.2.1 sg.2.2.2.2) (sh, aS g 3 shf) mo mki mel mto mio mwy mme mhs mso msr mrs mce mcp tn fi asked R C op hwb kinds elders tof iof wyf mef hsf sof srf rsf cef cpf pool hR hC hKI hWY abs hMS (xs ((ii + 1))) (xs ((ii + 2)))) mi_X5_read rfl rfl rfl ml_RL_111 rfl (Nat.le_of_ble_eq_true rfl) (by decide) ⟨by omega, by omega⟩ rfl rfl dL_law_1066 ?_
    intro v w' hr'; rcases hr' with ⟨hb2, rfl, rfl⟩ | ⟨j2, hj2, hx2, (⟨hf2, rfl, rfl⟩ | ⟨so2, nr2, rows2, jr2, len2, row2, hab2, hjr2, hr2, hrw2, hlen2, i2, f2, kinds3, elders3, hq, rfl, hrk2, hk2, he2, hKI2, hWY2, rfl⟩)⟩
    · exact absurd hb2 (by rw [hx1, wi3y hj1]; decide)
    · obtain rfl : j1 = j2 := nI_e40 (hx1.symm.trans hx2) (by omega) (by omega)
      show X φ k n ((o, oMain pl th pg ga sh asked (rfD (abs j1) (xs ((ii + 2))))) :: (pl, oPlan (nI R) (nI C) (bI op) (nI (thM R C op)) ap rr rd sl) :: (sl, aI g 40 slots) :: (th, oThings pl ki el nu (nI (ctF kinds (thM R C op))) al wa wo) :: (ki, aI g 40 kinds) :: (el, aI g 40 elders) :: (nu, aI g 40 numbers) :: (wa, aJ g 12 waf) :: (wo, aJ g 12 wof) :: (pg, oGrid (nI R) (nI C) sp.1 sp.2.1 sp.2.2) :: (ga, oGrid sg.1 sg.2.1 sg.2.2.1 sg.2.2.2.1 sg.2.2.2.2) :: (sh, aS g 3 shf) :: (mo, oModel 0 (rfD (abs j1) (xs ((ii + 2)))) asked (nI R) (nI C) (bI op) mki mel mto mio mwy (bI hwb) mme mhs mso msr mrs mce mcp) :: (mki, aI g 40 kinds) :: (mel, aI g 40 elders) :: (mto, aI g 25 tof) :: (mio, aZ g 40 iof) :: (mwy, aI g 4096 wyf) :: (mme, aZ g 36 mef) :: (mhs, aZ g 3 hsf) :: (mso, aI g 3 sof) :: (msr, aI g 3 srf) :: (mrs, aI g 12 rsf) :: (mce, aI g 480 cef) :: (mcp, aI g 40 cpf) :: pool) [(0, .ref b), (1, .ref o), (2, .ref mo), (3, .int (nI ii))] 1069 [.int 0, .int 0]
      refine X_icmp_eq K0 1101 dL_law_1069 (by decide) (fun _ => ?_) (fun h => absurd (rfl) h)
      exact X.widen (by omega) (by omega) (next _ ⟨pl, sl, th, ki, el, nu, wa, wo, pg, ga, sh, mki, mel, mto, mio, mwy, mme, mhs, mso, msr, mrs, mce, mcp, R, C, op, (thM R C op), slots, ap, rr, rd, (ctF kinds (thM R C op)), al, kinds, elders, numbers, waf, wof, sp, sg, shf, asked, (rfD (abs j1) (xs ((ii + 2)))), 0, hwb, tof, iof, wyf, mef, hsf, sof, srf, rsf, cef, cpf, pool, abs, ivmk rfl hRL hWY hPO hMS⟩)
    · obtain rfl : j1 = j2 := nI_e40 (hx1.symm.trans hx2) (by omega) (by omega)
      exact absurd (show rfD (abs j1) _ = 0 by rw [hab2, hr2]; exact rf_ok hjr2 (ms_some hMS hj1 hab2).2.2.2.2.1 hrw2) hf1
  · show X φ k n ((o, oMain pl th pg ga sh asked f1) :: (pl, oPlan (nI R) (nI C) (bI op) (nI (thM R C op)) ap rr rd sl) :: (sl, aI g 40 slots) :: (th, oThings pl ki el nu (nI m2) al2 wa wo) :: (ki, aI g 40 kinds2) :: (el, aI g 40 elders2) :: (nu, aI g 40 nu2) :: (wa, aJ g 12 wa2) :: (wo, aJ g 12 wo2) :: (pg, oGrid (nI R) (nI C) sp.1 sp.2.1 sp.2.2) :: (ga, oGrid sg.1 sg.2.1 sg.2.2.1 sg.2.2.2.1 sg.2.2.2.2) :: (sh, aS g 3 shf) :: (mo, oModel tn fi asked (nI R) (nI C) (bI op) mki mel mto mio mwy (bI hwb) mme mhs mso msr mrs mce mcp) :: (mki, aI g 40 kinds) :: (mel, aI g 40 elders) :: (mto, aI g 25 tof) :: (mio, aZ g 40 iof) :: (mwy, aI g 4096 wyf) :: (mme, aZ g 36 mef) :: (mhs, aZ g 3 hsf) :: (mso, aI g 3 sof) :: (msr, aI g 3 srf) :: (mrs, aI g 12 rsf) :: (mce, aI g 480 cef) :: (mcp, aI g 40 cpf) :: pool) [(0, .ref b), (1, .ref o), (2, .ref mo), (3, .int (nI ii))] 1055 [.int (nI i1)]
    refine X_aload_n K0 2 dL_law_1055 rfl rfl ?_
    refine X_aload_n K0 0 dL_law_1056 rfl rfl ?_
    refine X_iload_n K0 3 dL_law_1057 rfl rfl ?_
    refine X_iconst (v := 1) K0 dL_law_1058 (by decide) ?_
    refine X_iadd K0 dL_law_1059 ?_
    refine X_v (z := (nI (ii + 1))) (nI_add ii 1) ?_
    refine X_sld K0 hsc (by omega) hLn dL_law_1060 ?_
    refine X_aload_n K0 0 dL_law_1061 rfl rfl ?_
    refine X_iload_n K0 3 dL_law_1062 rfl rfl ?_
    refine X_iconst (v := 2) K0 dL_law_1063 (by decide) ?_
    refine X_iadd K0 dL_law_1064 ?_
    refine X_v (z := (nI (ii + 2))) (nI_add ii 2) ?_
    refine X_sld K0 hsc (by omega) hLn dL_law_1065 ?_
    refine X_callV (As := [.int (xs ((ii + 1))), .int (xs ((ii + 2)))]) (rest := [.int (nI i1)]) K0 12 (m_read g (o, oMain pl th pg ga sh asked f1) (pl, oPlan (nI R) (nI C) (bI op) (nI (thM R C op)) ap rr rd sl) (sl, aI g 40 slots) (th, oThings pl ki el nu (nI m2) al2 wa wo) (ki, aI g 40 kinds2) (el, aI g 40 elders2) (nu, aI g 40 nu2) (wa, aJ g 12 wa2) (wo, aJ g 12 wo2) (pg, oGrid (nI R) (nI C) sp.1 sp.2.1 sp.2.2) (ga, oGrid sg.1 sg.2.1 sg.2.2.1 sg.2.2.2.1 sg.2.2.2.2) (sh, aS g 3 shf) mo mki mel mto mio mwy mme mhs mso msr mrs mce mcp tn fi asked R C op hwb kinds elders tof iof wyf mef hsf sof srf rsf cef cpf pool hR hC hKI hWY abs hMS (xs ((ii + 1))) (xs ((ii + 2)))) mi_X5_read rfl rfl rfl ml_RL_111 rfl (Nat.le_of_ble_eq_true rfl) (by decide) ⟨by omega, by omega⟩ rfl rfl dL_law_1066 ?_
    intro v w' hr'; rcases hr' with ⟨hb2, rfl, rfl⟩ | ⟨j2, hj2, hx2, (⟨hf2, rfl, rfl⟩ | ⟨so2, nr2, rows2, jr2, len2, row2, hab2, hjr2, hr2, hrw2, hlen2, i2, f2, kinds3, elders3, hq, rfl, hrk2, hk2, he2, hKI2, hWY2, rfl⟩)⟩
    · exact absurd hb2 (by rw [hx1, wi3y hj1]; decide)
    · obtain rfl : j1 = j2 := nI_e40 (hx1.symm.trans hx2) (by omega) (by omega)
      exact absurd (show rfD (abs j1) _ = 0 by rw [hab1, hr1]; exact rf_ok hjr1 (ms_some hMS hj1 hab1).2.2.2.2.1 hrw1) hf2
    · obtain rfl : j1 = j2 := nI_e40 (hx1.symm.trans hx2) (by omega) (by omega)
      obtain ⟨rfl, rfl, rfl⟩ := inj3 (hab1.symm.trans hab2)
      have hnr := (ms_some hMS hj1 hab1).2.2.2.2.1
      obtain rfl : jr1 = jr2 := nI_e40 (hr1.symm.trans hr2) (by omega) (by omega)
      obtain ⟨rfl, rfl⟩ := inj2 (hrw1.symm.trans hrw2)
      obtain ⟨rfl, rfl⟩ := rk_uniq hrk1 hrk2
      have hke := hk1.trans hk2.symm
      have hee := he1.trans he2.symm
      subst hke
      subst hee
      show X φ k n ((o, oMain pl th pg ga sh asked f1) :: (pl, oPlan (nI R) (nI C) (bI op) (nI (thM R C op)) ap rr rd sl) :: (sl, aI g 40 slots) :: (th, oThings pl ki el nu (nI m2) al2 wa wo) :: (ki, aI g 40 kinds2) :: (el, aI g 40 elders2) :: (nu, aI g 40 nu2) :: (wa, aJ g 12 wa2) :: (wo, aJ g 12 wo2) :: (pg, oGrid (nI R) (nI C) sp.1 sp.2.1 sp.2.2) :: (ga, oGrid sg.1 sg.2.1 sg.2.2.1 sg.2.2.2.1 sg.2.2.2.2) :: (sh, aS g 3 shf) :: (mo, oModel 0 f1 asked (nI R) (nI C) (bI op) mki mel mto mio mwy (bI hq) mme mhs mso msr mrs mce mcp) :: (mki, aI g 40 kinds2) :: (mel, aI g 40 elders2) :: (mto, aI g 25 tof) :: (mio, aZ g 40 iof) :: (mwy, aI g 4096 wyf) :: (mme, aZ g 36 mef) :: (mhs, aZ g 3 hsf) :: (mso, aI g 3 sof) :: (msr, aI g 3 srf) :: (mrs, aI g 12 rsf) :: (mce, aI g 480 cef) :: (mcp, aI g 40 cpf) :: pool) [(0, .ref b), (1, .ref o), (2, .ref mo), (3, .int (nI ii))] 1069 [.int (nI i1), .int (nI i1)]
      refine X_icmp_eq K0 1101 dL_law_1069 (by decide) (fun _ => ?_) (fun h => absurd (rfl) h)
      exact X.widen (by omega) (by omega) (next _ ⟨pl, sl, th, ki, el, nu, wa, wo, pg, ga, sh, mki, mel, mto, mio, mwy, mme, mhs, mso, msr, mrs, mce, mcp, R, C, op, (thM R C op), slots, ap, rr, rd, m2, al2, kinds2, elders2, nu2, wa2, wo2, sp, sg, shf, asked, f1, 0, hq, tof, iof, wyf, mef, hsf, sof, srf, rsf, cef, cpf, pool, abs, ivmk rfl ⟨hR, hC, rfl, hRL.2.2.2.1, hRL.2.2.2.2.1, hRL.2.2.2.2.2.1, hRL.2.2.2.2.2.2.1, hKI1, hDV1⟩ hWY2 hPO hMS⟩)
