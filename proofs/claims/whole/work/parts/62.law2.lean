set_option maxRecDepth 20000 in
set_option maxHeartbeats 400000 in
theorem law_0 {φ : Fx} {g : Gx} {nm : String} {b Ln qB o mo ii k n : Nat} {xs : Nat → Int32} {w : va_W} (K0 : Cx φ g ⟨RL, nm, ""⟩ cL_law 4 9 328 600000 7302250) (hsc : Sc φ b Ln xs) (hB : Sb φ qB) (hii : ii + 8 ≤ Ln) (hLn : Ln ≤ 4096) (hk : k + 2 ≤ 600000) (hn : n + 40 ≤ 7302250) (hI : IV g o mo w) (next : ∀ w', IV g o mo w' → X φ (k + 2) (n + 40) w' [(0, .ref b), (1, .ref o), (2, .ref mo), (3, .int (nI ii))] 1101 []) : X φ k n w [(0, .ref b), (1, .ref o), (2, .ref mo), (3, .int (nI ii))] 148 [] := by
  obtain ⟨pl, sl, th, ki, el, nu, wa, wo, pg, ga, sh, mki, mel, mto, mio, mwy, mme, mhs, mso, msr, mrs, mce, mcp, R, C, op, T, slots, ap, rr, rd, m, al, kinds, elders, numbers, waf, wof, sp, sg, shf, asked, fi, tn, hwb, tof, iof, wyf, mef, hsf, sof, srf, rsf, cef, cpf, pool, abs, hIVw⟩ := hI
  obtain ⟨rfl, hRL, hWY, hPO, hMS⟩ := hIVw
  have hTe := hRL.2.2.1
  have hme := hRL.meq
  subst hTe
  subst hme
  have hR := hRL.1
  have hC := hRL.2.1
  have hKI := hRL.2.2.2.2.2.2.2.1
  have hDV := hRL.2.2.2.2.2.2.2.2
  have hT := th_M (op := op) hR hC
  have hm := hKI.2
  show X φ k n ((o, oMain pl th pg ga sh asked fi) :: (pl, oPlan (nI R) (nI C) (bI op) (nI (thM R C op)) ap rr rd sl) :: (sl, aI g 40 slots) :: (th, oThings pl ki el nu (nI (ctF kinds (thM R C op))) al wa wo) :: (ki, aI g 40 kinds) :: (el, aI g 40 elders) :: (nu, aI g 40 numbers) :: (wa, aJ g 12 waf) :: (wo, aJ g 12 wof) :: (pg, oGrid (nI R) (nI C) sp.1 sp.2.1 sp.2.2) :: (ga, oGrid sg.1 sg.2.1 sg.2.2.1 sg.2.2.2.1 sg.2.2.2.2) :: (sh, aS g 3 shf) :: (mo, oModel tn fi asked (nI R) (nI C) (bI op) mki mel mto mio mwy (bI hwb) mme mhs mso msr mrs mce mcp) :: (mki, aI g 40 kinds) :: (mel, aI g 40 elders) :: (mto, aI g 25 tof) :: (mio, aZ g 40 iof) :: (mwy, aI g 4096 wyf) :: (mme, aZ g 36 mef) :: (mhs, aZ g 3 hsf) :: (mso, aI g 3 sof) :: (msr, aI g 3 srf) :: (mrs, aI g 12 rsf) :: (mce, aI g 480 cef) :: (mcp, aI g 40 cpf) :: pool) [(0, .ref b), (1, .ref o), (2, .ref mo), (3, .int (nI ii))] 148 []
  refine X_aload_n K0 1 dL_law_148 rfl rfl ?_
  refine X_aload_n K0 0 dL_law_149 rfl rfl ?_
  refine X_iload_n K0 3 dL_law_150 rfl rfl ?_
  refine X_iconst (v := 1) K0 dL_law_151 (by decide) ?_
  refine X_iadd K0 dL_law_152 ?_
  refine X_v (z := (nI (ii + 1))) (nI_add ii 1) ?_
  refine X_sld K0 hsc (by omega) hLn dL_law_153 ?_
  refine X_aload_n K0 0 dL_law_154 rfl rfl ?_
  refine X_iload_n K0 3 dL_law_155 rfl rfl ?_
  refine X_iconst (v := 2) K0 dL_law_156 (by decide) ?_
  refine X_iadd K0 dL_law_157 ?_
  refine X_v (z := (nI (ii + 2))) (nI_add ii 2) ?_
  refine X_sld K0 hsc (by omega) hLn dL_law_158 ?_
  refine X_aload_n K0 0 dL_law_159 rfl rfl ?_
  refine X_iload_n K0 3 dL_law_160 rfl rfl ?_
  refine X_iconst (v := 3) K0 dL_law_161 (by decide) ?_
  refine X_iadd K0 dL_law_162 ?_
  refine X_v (z := (nI (ii + 3))) (nI_add ii 3) ?_
  refine X_sld K0 hsc (by omega) hLn dL_law_163 ?_
  suffices hj : X φ k n ((o, oMain pl th pg ga sh asked fi) :: (pl, oPlan (nI R) (nI C) (bI op) (nI (thM R C op)) ap rr rd sl) :: (sl, aI g 40 slots) :: (th, oThings pl ki el nu (nI (ctF kinds (thM R C op))) al wa wo) :: (ki, aI g 40 kinds) :: (el, aI g 40 elders) :: (nu, aI g 40 numbers) :: (wa, aJ g 12 waf) :: (wo, aJ g 12 wof) :: (pg, oGrid (nI R) (nI C) sp.1 sp.2.1 sp.2.2) :: (ga, oGrid sg.1 sg.2.1 sg.2.2.1 sg.2.2.2.1 sg.2.2.2.2) :: (sh, aS g 3 shf) :: (mo, oModel tn fi asked (nI R) (nI C) (bI op) mki mel mto mio mwy (bI hwb) mme mhs mso msr mrs mce mcp) :: (mki, aI g 40 kinds) :: (mel, aI g 40 elders) :: (mto, aI g 25 tof) :: (mio, aZ g 40 iof) :: (mwy, aI g 4096 wyf) :: (mme, aZ g 36 mef) :: (mhs, aZ g 3 hsf) :: (mso, aI g 3 sof) :: (msr, aI g 3 srf) :: (mrs, aI g 12 rsf) :: (mce, aI g 480 cef) :: (mcp, aI g 40 cpf) :: pool) [(0, .ref b), (1, .ref o), (2, .ref mo), (3, .int (nI ii))] 172 [.int (bI (decide (¬ (xs ((ii + 3))) = 0))), .int (xs ((ii + 2))), .int (xs ((ii + 1))), .ref o] from X_if_eq K0 171 dL_law_164 (by decide) (fun h => X_iconst (v := 0) K0 dL_law_171 (by decide) (X_b0 h hj)) (fun h => X_iconst (v := 1) K0 dL_law_167 (by decide) (X_goto K0 172 dL_law_168 (by decide) (X_b1 h hj)))
  obtain ⟨op1, hop1⟩ : ∃ z, z = (decide (¬ (xs ((ii + 3))) = 0)) := ⟨_, rfl⟩
  rw [← hop1]
  refine X_callV (As := [.int (xs ((ii + 1))), .int (xs ((ii + 2))), .int (bI op1)]) (rest := []) K0 0 (c_ground g o pl sl th ki el nu wa wo pg ga sh R C op (thM R C op) slots ap rr rd (ctF kinds (thM R C op)) al kinds elders numbers waf wof sp sg shf asked fi ((mo, oModel tn fi asked (nI R) (nI C) (bI op) mki mel mto mio mwy (bI hwb) mme mhs mso msr mrs mce mcp) :: (mki, aI g 40 kinds) :: (mel, aI g 40 elders) :: (mto, aI g 25 tof) :: (mio, aZ g 40 iof) :: (mwy, aI g 4096 wyf) :: (mme, aZ g 36 mef) :: (mhs, aZ g 3 hsf) :: (mso, aI g 3 sof) :: (msr, aI g 3 srf) :: (mrs, aI g 12 rsf) :: (mce, aI g 480 cef) :: (mcp, aI g 40 cpf) :: pool) (xs ((ii + 1))) (xs ((ii + 2))) op1) mi_X4_ground rfl rfl rfl ml_RL_13 rfl (Nat.le_of_ble_eq_true rfl) (by decide) ⟨by omega, by omega⟩ rfl rfl dL_law_172 ?_
  intro v w' hr'; rcases hr' with ⟨hbad, rfl, rfl⟩ | ⟨R1, C1, hR1, hC1, hr1, hc1, rfl, rfl⟩
  · show X φ k n ((o, oMain pl th pg ga sh asked fi) :: (pl, oPlan (nI R) (nI C) (bI op) (nI (thM R C op)) ap rr rd sl) :: (sl, aI g 40 slots) :: (th, oThings pl ki el nu (nI (ctF kinds (thM R C op))) al wa wo) :: (ki, aI g 40 kinds) :: (el, aI g 40 elders) :: (nu, aI g 40 numbers) :: (wa, aJ g 12 waf) :: (wo, aJ g 12 wof) :: (pg, oGrid (nI R) (nI C) sp.1 sp.2.1 sp.2.2) :: (ga, oGrid sg.1 sg.2.1 sg.2.2.1 sg.2.2.2.1 sg.2.2.2.2) :: (sh, aS g 3 shf) :: (mo, oModel tn fi asked (nI R) (nI C) (bI op) mki mel mto mio mwy (bI hwb) mme mhs mso msr mrs mce mcp) :: (mki, aI g 40 kinds) :: (mel, aI g 40 elders) :: (mto, aI g 25 tof) :: (mio, aZ g 40 iof) :: (mwy, aI g 4096 wyf) :: (mme, aZ g 36 mef) :: (mhs, aZ g 3 hsf) :: (mso, aI g 3 sof) :: (msr, aI g 3 srf) :: (mrs, aI g 12 rsf) :: (mce, aI g 480 cef) :: (mcp, aI g 40 cpf) :: pool) [(0, .ref b), (1, .ref o), (2, .ref mo), (3, .int (nI ii))] 175 [.int (-1)]
    refine X_aload_n K0 2 dL_law_175 rfl rfl ?_
    refine X_aload_n K0 0 dL_law_176 rfl rfl ?_
    refine X_iload_n K0 3 dL_law_177 rfl rfl ?_
    refine X_iconst (v := 1) K0 dL_law_178 (by decide) ?_
    refine X_iadd K0 dL_law_179 ?_
    refine X_v (z := (nI (ii + 1))) (nI_add ii 1) ?_
    refine X_sld K0 hsc (by omega) hLn dL_law_180 ?_
    refine X_aload_n K0 0 dL_law_181 rfl rfl ?_
    refine X_iload_n K0 3 dL_law_182 rfl rfl ?_
    refine X_iconst (v := 2) K0 dL_law_183 (by decide) ?_
    refine X_iadd K0 dL_law_184 ?_
    refine X_v (z := (nI (ii + 2))) (nI_add ii 2) ?_
    refine X_sld K0 hsc (by omega) hLn dL_law_185 ?_
    refine X_aload_n K0 0 dL_law_186 rfl rfl ?_
    refine X_iload_n K0 3 dL_law_187 rfl rfl ?_
    refine X_iconst (v := 3) K0 dL_law_188 (by decide) ?_
    refine X_iadd K0 dL_law_189 ?_
    refine X_v (z := (nI (ii + 3))) (nI_add ii 3) ?_
    refine X_sld K0 hsc (by omega) hLn dL_law_190 ?_
    suffices hj : X φ k n ((o, oMain pl th pg ga sh asked fi) :: (pl, oPlan (nI R) (nI C) (bI op) (nI (thM R C op)) ap rr rd sl) :: (sl, aI g 40 slots) :: (th, oThings pl ki el nu (nI (ctF kinds (thM R C op))) al wa wo) :: (ki, aI g 40 kinds) :: (el, aI g 40 elders) :: (nu, aI g 40 numbers) :: (wa, aJ g 12 waf) :: (wo, aJ g 12 wof) :: (pg, oGrid (nI R) (nI C) sp.1 sp.2.1 sp.2.2) :: (ga, oGrid sg.1 sg.2.1 sg.2.2.1 sg.2.2.2.1 sg.2.2.2.2) :: (sh, aS g 3 shf) :: (mo, oModel tn fi asked (nI R) (nI C) (bI op) mki mel mto mio mwy (bI hwb) mme mhs mso msr mrs mce mcp) :: (mki, aI g 40 kinds) :: (mel, aI g 40 elders) :: (mto, aI g 25 tof) :: (mio, aZ g 40 iof) :: (mwy, aI g 4096 wyf) :: (mme, aZ g 36 mef) :: (mhs, aZ g 3 hsf) :: (mso, aI g 3 sof) :: (msr, aI g 3 srf) :: (mrs, aI g 12 rsf) :: (mce, aI g 480 cef) :: (mcp, aI g 40 cpf) :: pool) [(0, .ref b), (1, .ref o), (2, .ref mo), (3, .int (nI ii))] 199 [.int (bI (decide (¬ (xs ((ii + 3))) = 0))), .int (xs ((ii + 2))), .int (xs ((ii + 1))), .ref mo, .int (-1)] from X_if_eq K0 198 dL_law_191 (by decide) (fun h => X_iconst (v := 0) K0 dL_law_198 (by decide) (X_b0 h hj)) (fun h => X_iconst (v := 1) K0 dL_law_194 (by decide) (X_goto K0 199 dL_law_195 (by decide) (X_b1 h hj)))
    rw [← hop1]
    refine X_callV (As := [.int (xs ((ii + 1))), .int (xs ((ii + 2))), .int (bI op1)]) (rest := [.int (-1)]) K0 12 (m_ground g (o, oMain pl th pg ga sh asked fi) (pl, oPlan (nI R) (nI C) (bI op) (nI (thM R C op)) ap rr rd sl) (sl, aI g 40 slots) (th, oThings pl ki el nu (nI (ctF kinds (thM R C op))) al wa wo) (ki, aI g 40 kinds) (el, aI g 40 elders) (nu, aI g 40 numbers) (wa, aJ g 12 waf) (wo, aJ g 12 wof) (pg, oGrid (nI R) (nI C) sp.1 sp.2.1 sp.2.2) (ga, oGrid sg.1 sg.2.1 sg.2.2.1 sg.2.2.2.1 sg.2.2.2.2) (sh, aS g 3 shf) mo mki mel mto mio mwy mme mhs mso msr mrs mce mcp tn fi asked R C op hwb kinds elders tof iof wyf mef hsf sof srf rsf cef cpf pool (xs ((ii + 1))) (xs ((ii + 2))) op1) mi_X5_ground rfl rfl rfl ml_RL_17 rfl (Nat.le_of_ble_eq_true rfl) (by decide) ⟨by omega, by omega⟩ rfl rfl dL_law_199 ?_
    intro v w' hr'; rcases hr' with ⟨hbad2, rfl, rfl⟩ | ⟨R2, C2, hR2, hC2, hr2, hc2, rfl, rfl⟩
    · show X φ k n ((o, oMain pl th pg ga sh asked fi) :: (pl, oPlan (nI R) (nI C) (bI op) (nI (thM R C op)) ap rr rd sl) :: (sl, aI g 40 slots) :: (th, oThings pl ki el nu (nI (ctF kinds (thM R C op))) al wa wo) :: (ki, aI g 40 kinds) :: (el, aI g 40 elders) :: (nu, aI g 40 numbers) :: (wa, aJ g 12 waf) :: (wo, aJ g 12 wof) :: (pg, oGrid (nI R) (nI C) sp.1 sp.2.1 sp.2.2) :: (ga, oGrid sg.1 sg.2.1 sg.2.2.1 sg.2.2.2.1 sg.2.2.2.2) :: (sh, aS g 3 shf) :: (mo, oModel 0 fi asked (nI R) (nI C) (bI op) mki mel mto mio mwy (bI hwb) mme mhs mso msr mrs mce mcp) :: (mki, aI g 40 kinds) :: (mel, aI g 40 elders) :: (mto, aI g 25 tof) :: (mio, aZ g 40 iof) :: (mwy, aI g 4096 wyf) :: (mme, aZ g 36 mef) :: (mhs, aZ g 3 hsf) :: (mso, aI g 3 sof) :: (msr, aI g 3 srf) :: (mrs, aI g 12 rsf) :: (mce, aI g 480 cef) :: (mcp, aI g 40 cpf) :: pool) [(0, .ref b), (1, .ref o), (2, .ref mo), (3, .int (nI ii))] 202 [.int (-1), .int (-1)]
      refine X_icmp_eq K0 1101 dL_law_202 (by decide) (fun _ => ?_) (fun h => absurd (rfl) h)
      exact X.widen (by omega) (by omega) (next _ ⟨pl, sl, th, ki, el, nu, wa, wo, pg, ga, sh, mki, mel, mto, mio, mwy, mme, mhs, mso, msr, mrs, mce, mcp, R, C, op, (thM R C op), slots, ap, rr, rd, (ctF kinds (thM R C op)), al, kinds, elders, numbers, waf, wof, sp, sg, shf, asked, fi, 0, hwb, tof, iof, wyf, mef, hsf, sof, srf, rsf, cef, cpf, pool, abs, ivmk rfl hRL hWY hPO hMS⟩)
    · exact absurd hbad (by rw [hr2, hc2, wi15y hR2 hC2]; decide)
  · show X φ k n ((o, oMain pl th pg ga sh asked fi) :: (pl, oPlan (nI R1) (nI C1) (bI op1) (nI (plF R1 C1 op1 slots).2) (coF C1 C1 R1) (coF C1 (C1 - 1) R1) (coF C1 C1 (R1 - 1)) sl) :: (sl, aI g 40 (plF R1 C1 op1 slots).1) :: (th, oThings pl ki el nu (nI (ctF (fiF kinds 1 40) (plF R1 C1 op1 slots).2)) (seA (fiF kinds 1 40) (plF R1 C1 op1 slots).1 (plF R1 C1 op1 slots).2) wa wo) :: (ki, aI g 40 (fiF kinds 1 40)) :: (el, aI g 40 (fiF elders (-9) 40)) :: (nu, aI g 40 (nuF (fiF kinds 1 40) numbers (plF R1 C1 op1 slots).2)) :: (wa, aJ g 12 (seW (fiF kinds 1 40) (fiF elders (-9) 40) (nuF (fiF kinds 1 40) numbers (plF R1 C1 op1 slots).2) (plF R1 C1 op1 slots).1 (fiF waf 0 12) (plF R1 C1 op1 slots).2)) :: (wo, aJ g 12 (seO (fiF kinds 1 40) (fiF elders (-9) 40) (nuF (fiF kinds 1 40) numbers (plF R1 C1 op1 slots).2) (plF R1 C1 op1 slots).1 (fiF wof 0 12) (plF R1 C1 op1 slots).2)) :: (pg, oGrid (nI R1) (nI C1) sp.1 sp.2.1 sp.2.2) :: (ga, oGrid sg.1 sg.2.1 sg.2.2.1 sg.2.2.2.1 sg.2.2.2.2) :: (sh, aS g 3 shf) :: (mo, oModel tn fi asked (nI R) (nI C) (bI op) mki mel mto mio mwy (bI hwb) mme mhs mso msr mrs mce mcp) :: (mki, aI g 40 kinds) :: (mel, aI g 40 elders) :: (mto, aI g 25 tof) :: (mio, aZ g 40 iof) :: (mwy, aI g 4096 wyf) :: (mme, aZ g 36 mef) :: (mhs, aZ g 3 hsf) :: (mso, aI g 3 sof) :: (msr, aI g 3 srf) :: (mrs, aI g 12 rsf) :: (mce, aI g 480 cef) :: (mcp, aI g 40 cpf) :: pool) [(0, .ref b), (1, .ref o), (2, .ref mo), (3, .int (nI ii))] 175 [.int (nI (plF R1 C1 op1 slots).2)]
    refine X_aload_n K0 2 dL_law_175 rfl rfl ?_
    refine X_aload_n K0 0 dL_law_176 rfl rfl ?_
    refine X_iload_n K0 3 dL_law_177 rfl rfl ?_
    refine X_iconst (v := 1) K0 dL_law_178 (by decide) ?_
    refine X_iadd K0 dL_law_179 ?_
    refine X_v (z := (nI (ii + 1))) (nI_add ii 1) ?_
    refine X_sld K0 hsc (by omega) hLn dL_law_180 ?_
    refine X_aload_n K0 0 dL_law_181 rfl rfl ?_
    refine X_iload_n K0 3 dL_law_182 rfl rfl ?_
    refine X_iconst (v := 2) K0 dL_law_183 (by decide) ?_
    refine X_iadd K0 dL_law_184 ?_
    refine X_v (z := (nI (ii + 2))) (nI_add ii 2) ?_
    refine X_sld K0 hsc (by omega) hLn dL_law_185 ?_
    refine X_aload_n K0 0 dL_law_186 rfl rfl ?_
    refine X_iload_n K0 3 dL_law_187 rfl rfl ?_
    refine X_iconst (v := 3) K0 dL_law_188 (by decide) ?_
    refine X_iadd K0 dL_law_189 ?_
    refine X_v (z := (nI (ii + 3))) (nI_add ii 3) ?_
    refine X_sld K0 hsc (by omega) hLn dL_law_190 ?_
    suffices hj : X φ k n ((o, oMain pl th pg ga sh asked fi) :: (pl, oPlan (nI R1) (nI C1) (bI op1) (nI (plF R1 C1 op1 slots).2) (coF C1 C1 R1) (coF C1 (C1 - 1) R1) (coF C1 C1 (R1 - 1)) sl) :: (sl, aI g 40 (plF R1 C1 op1 slots).1) :: (th, oThings pl ki el nu (nI (ctF (fiF kinds 1 40) (plF R1 C1 op1 slots).2)) (seA (fiF kinds 1 40) (plF R1 C1 op1 slots).1 (plF R1 C1 op1 slots).2) wa wo) :: (ki, aI g 40 (fiF kinds 1 40)) :: (el, aI g 40 (fiF elders (-9) 40)) :: (nu, aI g 40 (nuF (fiF kinds 1 40) numbers (plF R1 C1 op1 slots).2)) :: (wa, aJ g 12 (seW (fiF kinds 1 40) (fiF elders (-9) 40) (nuF (fiF kinds 1 40) numbers (plF R1 C1 op1 slots).2) (plF R1 C1 op1 slots).1 (fiF waf 0 12) (plF R1 C1 op1 slots).2)) :: (wo, aJ g 12 (seO (fiF kinds 1 40) (fiF elders (-9) 40) (nuF (fiF kinds 1 40) numbers (plF R1 C1 op1 slots).2) (plF R1 C1 op1 slots).1 (fiF wof 0 12) (plF R1 C1 op1 slots).2)) :: (pg, oGrid (nI R1) (nI C1) sp.1 sp.2.1 sp.2.2) :: (ga, oGrid sg.1 sg.2.1 sg.2.2.1 sg.2.2.2.1 sg.2.2.2.2) :: (sh, aS g 3 shf) :: (mo, oModel tn fi asked (nI R) (nI C) (bI op) mki mel mto mio mwy (bI hwb) mme mhs mso msr mrs mce mcp) :: (mki, aI g 40 kinds) :: (mel, aI g 40 elders) :: (mto, aI g 25 tof) :: (mio, aZ g 40 iof) :: (mwy, aI g 4096 wyf) :: (mme, aZ g 36 mef) :: (mhs, aZ g 3 hsf) :: (mso, aI g 3 sof) :: (msr, aI g 3 srf) :: (mrs, aI g 12 rsf) :: (mce, aI g 480 cef) :: (mcp, aI g 40 cpf) :: pool) [(0, .ref b), (1, .ref o), (2, .ref mo), (3, .int (nI ii))] 199 [.int (bI (decide (¬ (xs ((ii + 3))) = 0))), .int (xs ((ii + 2))), .int (xs ((ii + 1))), .ref mo, .int (nI (plF R1 C1 op1 slots).2)] from X_if_eq K0 198 dL_law_191 (by decide) (fun h => X_iconst (v := 0) K0 dL_law_198 (by decide) (X_b0 h hj)) (fun h => X_iconst (v := 1) K0 dL_law_194 (by decide) (X_goto K0 199 dL_law_195 (by decide) (X_b1 h hj)))
    rw [← hop1]
    refine X_callV (As := [.int (xs ((ii + 1))), .int (xs ((ii + 2))), .int (bI op1)]) (rest := [.int (nI (plF R1 C1 op1 slots).2)]) K0 12 (m_ground g (o, oMain pl th pg ga sh asked fi) (pl, oPlan (nI R1) (nI C1) (bI op1) (nI (plF R1 C1 op1 slots).2) (coF C1 C1 R1) (coF C1 (C1 - 1) R1) (coF C1 C1 (R1 - 1)) sl) (sl, aI g 40 (plF R1 C1 op1 slots).1) (th, oThings pl ki el nu (nI (ctF (fiF kinds 1 40) (plF R1 C1 op1 slots).2)) (seA (fiF kinds 1 40) (plF R1 C1 op1 slots).1 (plF R1 C1 op1 slots).2) wa wo) (ki, aI g 40 (fiF kinds 1 40)) (el, aI g 40 (fiF elders (-9) 40)) (nu, aI g 40 (nuF (fiF kinds 1 40) numbers (plF R1 C1 op1 slots).2)) (wa, aJ g 12 (seW (fiF kinds 1 40) (fiF elders (-9) 40) (nuF (fiF kinds 1 40) numbers (plF R1 C1 op1 slots).2) (plF R1 C1 op1 slots).1 (fiF waf 0 12) (plF R1 C1 op1 slots).2)) (wo, aJ g 12 (seO (fiF kinds 1 40) (fiF elders (-9) 40) (nuF (fiF kinds 1 40) numbers (plF R1 C1 op1 slots).2) (plF R1 C1 op1 slots).1 (fiF wof 0 12) (plF R1 C1 op1 slots).2)) (pg, oGrid (nI R1) (nI C1) sp.1 sp.2.1 sp.2.2) (ga, oGrid sg.1 sg.2.1 sg.2.2.1 sg.2.2.2.1 sg.2.2.2.2) (sh, aS g 3 shf) mo mki mel mto mio mwy mme mhs mso msr mrs mce mcp tn fi asked R C op hwb kinds elders tof iof wyf mef hsf sof srf rsf cef cpf pool (xs ((ii + 1))) (xs ((ii + 2))) op1) mi_X5_ground rfl rfl rfl ml_RL_17 rfl (Nat.le_of_ble_eq_true rfl) (by decide) ⟨by omega, by omega⟩ rfl rfl dL_law_199 ?_
    intro v w' hr'; rcases hr' with ⟨hbad2, rfl, rfl⟩ | ⟨R2, C2, hR2, hC2, hr2, hc2, rfl, rfl⟩
    · exact absurd hbad2 (by rw [hr1, hc1, wi15y hR1 hC1]; decide)
    · obtain rfl : R1 = R2 := nI_e5 (hr1.symm.trans hr2) hR1.2 hR2.2
      obtain rfl : C1 = C2 := nI_e5 (hc1.symm.trans hc2) hC1.2 hC2.2
      show X φ k n ((o, oMain pl th pg ga sh asked fi) :: (pl, oPlan (nI R1) (nI C1) (bI op1) (nI (plF R1 C1 op1 slots).2) (coF C1 C1 R1) (coF C1 (C1 - 1) R1) (coF C1 C1 (R1 - 1)) sl) :: (sl, aI g 40 (plF R1 C1 op1 slots).1) :: (th, oThings pl ki el nu (nI (ctF (fiF kinds 1 40) (plF R1 C1 op1 slots).2)) (seA (fiF kinds 1 40) (plF R1 C1 op1 slots).1 (plF R1 C1 op1 slots).2) wa wo) :: (ki, aI g 40 (fiF kinds 1 40)) :: (el, aI g 40 (fiF elders (-9) 40)) :: (nu, aI g 40 (nuF (fiF kinds 1 40) numbers (plF R1 C1 op1 slots).2)) :: (wa, aJ g 12 (seW (fiF kinds 1 40) (fiF elders (-9) 40) (nuF (fiF kinds 1 40) numbers (plF R1 C1 op1 slots).2) (plF R1 C1 op1 slots).1 (fiF waf 0 12) (plF R1 C1 op1 slots).2)) :: (wo, aJ g 12 (seO (fiF kinds 1 40) (fiF elders (-9) 40) (nuF (fiF kinds 1 40) numbers (plF R1 C1 op1 slots).2) (plF R1 C1 op1 slots).1 (fiF wof 0 12) (plF R1 C1 op1 slots).2)) :: (pg, oGrid (nI R1) (nI C1) sp.1 sp.2.1 sp.2.2) :: (ga, oGrid sg.1 sg.2.1 sg.2.2.1 sg.2.2.2.1 sg.2.2.2.2) :: (sh, aS g 3 shf) :: (mo, oModel 0 fi asked (nI R1) (nI C1) (bI op1) mki mel mto mio mwy (bI false) mme mhs mso msr mrs mce mcp) :: (mki, aI g 40 (fiF kinds 1 40)) :: (mel, aI g 40 (fiF elders (-9) 40)) :: (mto, aI g 25 tof) :: (mio, aZ g 40 iof) :: (mwy, aI g 4096 wyf) :: (mme, aZ g 36 mef) :: (mhs, aZ g 3 hsf) :: (mso, aI g 3 sof) :: (msr, aI g 3 srf) :: (mrs, aI g 12 rsf) :: (mce, aI g 480 cef) :: (mcp, aI g 40 cpf) :: pool) [(0, .ref b), (1, .ref o), (2, .ref mo), (3, .int (nI ii))] 202 [.int (nI (thM R1 C1 op1)), .int (nI (plF R1 C1 op1 slots).2)]
      refine X_icmp_eq K0 1101 dL_law_202 (by decide) (fun _ => ?_) (fun h => absurd (congrArg nI (pl_spec hR1 hC1 op1 slots).1) h)
      exact X.widen (by omega) (by omega) (next _ ⟨pl, sl, th, ki, el, nu, wa, wo, pg, ga, sh, mki, mel, mto, mio, mwy, mme, mhs, mso, msr, mrs, mce, mcp, R1, C1, op1, (plF R1 C1 op1 slots).2, (plF R1 C1 op1 slots).1, (coF C1 C1 R1), (coF C1 (C1 - 1) R1), (coF C1 C1 (R1 - 1)), (ctF (fiF kinds 1 40) (plF R1 C1 op1 slots).2), (seA (fiF kinds 1 40) (plF R1 C1 op1 slots).1 (plF R1 C1 op1 slots).2), (fiF kinds 1 40), (fiF elders (-9) 40), (nuF (fiF kinds 1 40) numbers (plF R1 C1 op1 slots).2), (seW (fiF kinds 1 40) (fiF elders (-9) 40) (nuF (fiF kinds 1 40) numbers (plF R1 C1 op1 slots).2) (plF R1 C1 op1 slots).1 (fiF waf 0 12) (plF R1 C1 op1 slots).2), (seO (fiF kinds 1 40) (fiF elders (-9) 40) (nuF (fiF kinds 1 40) numbers (plF R1 C1 op1 slots).2) (plF R1 C1 op1 slots).1 (fiF wof 0 12) (plF R1 C1 op1 slots).2), sp, sg, shf, asked, fi, 0, false, tof, iof, wyf, mef, hsf, sof, srf, rsf, cef, cpf, pool, abs, ivmk rfl (RL2.laid hR1 hC1 op1 slots kinds elders numbers waf wof) (fun q => by cases q) hPO hMS⟩)

set_option maxRecDepth 20000 in
set_option maxHeartbeats 400000 in
theorem law_1 {φ : Fx} {g : Gx} {nm : String} {b Ln qB o mo ii k n : Nat} {xs : Nat → Int32} {w : va_W} (K0 : Cx φ g ⟨RL, nm, ""⟩ cL_law 4 9 328 600000 7302250) (hsc : Sc φ b Ln xs) (hB : Sb φ qB) (hii : ii + 8 ≤ Ln) (hLn : Ln ≤ 4096) (hk : k + 2 ≤ 600000) (hn : n + 40 ≤ 7302250) (hI : IV g o mo w) (next : ∀ w', IV g o mo w' → X φ (k + 2) (n + 40) w' [(0, .ref b), (1, .ref o), (2, .ref mo), (3, .int (nI ii))] 1101 []) : X φ k n w [(0, .ref b), (1, .ref o), (2, .ref mo), (3, .int (nI ii))] 207 [] := by
  obtain ⟨pl, sl, th, ki, el, nu, wa, wo, pg, ga, sh, mki, mel, mto, mio, mwy, mme, mhs, mso, msr, mrs, mce, mcp, R, C, op, T, slots, ap, rr, rd, m, al, kinds, elders, numbers, waf, wof, sp, sg, shf, asked, fi, tn, hwb, tof, iof, wyf, mef, hsf, sof, srf, rsf, cef, cpf, pool, abs, hIVw⟩ := hI
  obtain ⟨rfl, hRL, hWY, hPO, hMS⟩ := hIVw
  have hTe := hRL.2.2.1
  have hme := hRL.meq
  subst hTe
  subst hme
  have hR := hRL.1
  have hC := hRL.2.1
  have hKI := hRL.2.2.2.2.2.2.2.1
  have hDV := hRL.2.2.2.2.2.2.2.2
  have hT := th_M (op := op) hR hC
  have hm := hKI.2
  show X φ k n ((o, oMain pl th pg ga sh asked fi) :: (pl, oPlan (nI R) (nI C) (bI op) (nI (thM R C op)) ap rr rd sl) :: (sl, aI g 40 slots) :: (th, oThings pl ki el nu (nI (ctF kinds (thM R C op))) al wa wo) :: (ki, aI g 40 kinds) :: (el, aI g 40 elders) :: (nu, aI g 40 numbers) :: (wa, aJ g 12 waf) :: (wo, aJ g 12 wof) :: (pg, oGrid (nI R) (nI C) sp.1 sp.2.1 sp.2.2) :: (ga, oGrid sg.1 sg.2.1 sg.2.2.1 sg.2.2.2.1 sg.2.2.2.2) :: (sh, aS g 3 shf) :: (mo, oModel tn fi asked (nI R) (nI C) (bI op) mki mel mto mio mwy (bI hwb) mme mhs mso msr mrs mce mcp) :: (mki, aI g 40 kinds) :: (mel, aI g 40 elders) :: (mto, aI g 25 tof) :: (mio, aZ g 40 iof) :: (mwy, aI g 4096 wyf) :: (mme, aZ g 36 mef) :: (mhs, aZ g 3 hsf) :: (mso, aI g 3 sof) :: (msr, aI g 3 srf) :: (mrs, aI g 12 rsf) :: (mce, aI g 480 cef) :: (mcp, aI g 40 cpf) :: pool) [(0, .ref b), (1, .ref o), (2, .ref mo), (3, .int (nI ii))] 207 []
  refine X_aload_n K0 1 dL_law_207 rfl rfl ?_
  refine X_aload_n K0 0 dL_law_208 rfl rfl ?_
  refine X_iload_n K0 3 dL_law_209 rfl rfl ?_
  refine X_iconst (v := 1) K0 dL_law_210 (by decide) ?_
  refine X_iadd K0 dL_law_211 ?_
  refine X_v (z := (nI (ii + 1))) (nI_add ii 1) ?_
  refine X_sld K0 hsc (by omega) hLn dL_law_212 ?_
  refine X_aload_n K0 0 dL_law_213 rfl rfl ?_
  refine X_iload_n K0 3 dL_law_214 rfl rfl ?_
  refine X_iconst (v := 2) K0 dL_law_215 (by decide) ?_
  refine X_iadd K0 dL_law_216 ?_
  refine X_v (z := (nI (ii + 2))) (nI_add ii 2) ?_
  refine X_sld K0 hsc (by omega) hLn dL_law_217 ?_
  refine X_callV (As := [.int (xs ((ii + 1))), .int (xs ((ii + 2)))]) (rest := []) K0 0 (c_kind g o pl sl th ki el nu wa wo pg ga sh R C op (thM R C op) slots ap rr rd (ctF kinds (thM R C op)) al kinds elders numbers waf wof sp sg shf asked fi ((mo, oModel tn fi asked (nI R) (nI C) (bI op) mki mel mto mio mwy (bI hwb) mme mhs mso msr mrs mce mcp) :: (mki, aI g 40 kinds) :: (mel, aI g 40 elders) :: (mto, aI g 25 tof) :: (mio, aZ g 40 iof) :: (mwy, aI g 4096 wyf) :: (mme, aZ g 36 mef) :: (mhs, aZ g 3 hsf) :: (mso, aI g 3 sof) :: (msr, aI g 3 srf) :: (mrs, aI g 12 rsf) :: (mce, aI g 480 cef) :: (mcp, aI g 40 cpf) :: pool) hR hC hT hm hKI rfl (xs ((ii + 1))) (xs ((ii + 2)))) mi_X4_kind rfl rfl rfl ml_RL_18 rfl (Nat.le_of_ble_eq_true rfl) (by decide) ⟨by omega, by omega⟩ rfl rfl dL_law_218 ?_
  intro v w' hr'; rcases hr' with ⟨e1, hd1, rfl, rfl⟩ | ⟨hd1, j1, hj1, hx1, rfl, rfl⟩
  · show X φ k n ((o, oMain pl th pg ga sh asked fi) :: (pl, oPlan (nI R) (nI C) (bI op) (nI (thM R C op)) ap rr rd sl) :: (sl, aI g 40 slots) :: (th, oThings pl ki el nu (nI (ctF kinds (thM R C op))) al wa wo) :: (ki, aI g 40 kinds) :: (el, aI g 40 elders) :: (nu, aI g 40 numbers) :: (wa, aJ g 12 waf) :: (wo, aJ g 12 wof) :: (pg, oGrid (nI R) (nI C) sp.1 sp.2.1 sp.2.2) :: (ga, oGrid sg.1 sg.2.1 sg.2.2.1 sg.2.2.2.1 sg.2.2.2.2) :: (sh, aS g 3 shf) :: (mo, oModel tn fi asked (nI R) (nI C) (bI op) mki mel mto mio mwy (bI hwb) mme mhs mso msr mrs mce mcp) :: (mki, aI g 40 kinds) :: (mel, aI g 40 elders) :: (mto, aI g 25 tof) :: (mio, aZ g 40 iof) :: (mwy, aI g 4096 wyf) :: (mme, aZ g 36 mef) :: (mhs, aZ g 3 hsf) :: (mso, aI g 3 sof) :: (msr, aI g 3 srf) :: (mrs, aI g 12 rsf) :: (mce, aI g 480 cef) :: (mcp, aI g 40 cpf) :: pool) [(0, .ref b), (1, .ref o), (2, .ref mo), (3, .int (nI ii))] 221 [.int e1]
    refine X_aload_n K0 2 dL_law_221 rfl rfl ?_
    refine X_aload_n K0 0 dL_law_222 rfl rfl ?_
    refine X_iload_n K0 3 dL_law_223 rfl rfl ?_
    refine X_iconst (v := 1) K0 dL_law_224 (by decide) ?_
    refine X_iadd K0 dL_law_225 ?_
    refine X_v (z := (nI (ii + 1))) (nI_add ii 1) ?_
    refine X_sld K0 hsc (by omega) hLn dL_law_226 ?_
    refine X_aload_n K0 0 dL_law_227 rfl rfl ?_
    refine X_iload_n K0 3 dL_law_228 rfl rfl ?_
    refine X_iconst (v := 2) K0 dL_law_229 (by decide) ?_
    refine X_iadd K0 dL_law_230 ?_
    refine X_v (z := (nI (ii + 2))) (nI_add ii 2) ?_
    refine X_sld K0 hsc (by omega) hLn dL_law_231 ?_
    refine X_callV (As := [.int (xs ((ii + 1))), .int (xs ((ii + 2)))]) (rest := [.int e1]) K0 12 (m_kind g (o, oMain pl th pg ga sh asked fi) (pl, oPlan (nI R) (nI C) (bI op) (nI (thM R C op)) ap rr rd sl) (sl, aI g 40 slots) (th, oThings pl ki el nu (nI (ctF kinds (thM R C op))) al wa wo) (ki, aI g 40 kinds) (el, aI g 40 elders) (nu, aI g 40 numbers) (wa, aJ g 12 waf) (wo, aJ g 12 wof) (pg, oGrid (nI R) (nI C) sp.1 sp.2.1 sp.2.2) (ga, oGrid sg.1 sg.2.1 sg.2.2.1 sg.2.2.2.1 sg.2.2.2.2) (sh, aS g 3 shf) mo mki mel mto mio mwy mme mhs mso msr mrs mce mcp tn fi asked R C op hwb kinds elders tof iof wyf mef hsf sof srf rsf cef cpf pool hR hC hKI (xs ((ii + 1))) (xs ((ii + 2)))) mi_X5_kind rfl rfl rfl ml_RL_22 rfl (Nat.le_of_ble_eq_true rfl) (by decide) ⟨by omega, by omega⟩ rfl rfl dL_law_232 ?_
    intro v w' hr'; rcases hr' with ⟨e2, hd2, rfl, rfl⟩ | ⟨hd2, j2, hj2, hx2, rfl, rfl⟩
    · show X φ k n ((o, oMain pl th pg ga sh asked fi) :: (pl, oPlan (nI R) (nI C) (bI op) (nI (thM R C op)) ap rr rd sl) :: (sl, aI g 40 slots) :: (th, oThings pl ki el nu (nI (ctF kinds (thM R C op))) al wa wo) :: (ki, aI g 40 kinds) :: (el, aI g 40 elders) :: (nu, aI g 40 numbers) :: (wa, aJ g 12 waf) :: (wo, aJ g 12 wof) :: (pg, oGrid (nI R) (nI C) sp.1 sp.2.1 sp.2.2) :: (ga, oGrid sg.1 sg.2.1 sg.2.2.1 sg.2.2.2.1 sg.2.2.2.2) :: (sh, aS g 3 shf) :: (mo, oModel 0 fi asked (nI R) (nI C) (bI op) mki mel mto mio mwy (bI hwb) mme mhs mso msr mrs mce mcp) :: (mki, aI g 40 kinds) :: (mel, aI g 40 elders) :: (mto, aI g 25 tof) :: (mio, aZ g 40 iof) :: (mwy, aI g 4096 wyf) :: (mme, aZ g 36 mef) :: (mhs, aZ g 3 hsf) :: (mso, aI g 3 sof) :: (msr, aI g 3 srf) :: (mrs, aI g 12 rsf) :: (mce, aI g 480 cef) :: (mcp, aI g 40 cpf) :: pool) [(0, .ref b), (1, .ref o), (2, .ref mo), (3, .int (nI ii))] 235 [.int e2, .int e1]
      refine X_icmp_eq K0 1101 dL_law_235 (by decide) (fun _ => ?_) (fun h => absurd (Option.some.inj (hd1.symm.trans hd2)) h)
      exact X.widen (by omega) (by omega) (next _ ⟨pl, sl, th, ki, el, nu, wa, wo, pg, ga, sh, mki, mel, mto, mio, mwy, mme, mhs, mso, msr, mrs, mce, mcp, R, C, op, (thM R C op), slots, ap, rr, rd, (ctF kinds (thM R C op)), al, kinds, elders, numbers, waf, wof, sp, sg, shf, asked, fi, 0, hwb, tof, iof, wyf, mef, hsf, sof, srf, rsf, cef, cpf, pool, abs, ivmk rfl hRL hWY hPO hMS⟩)
    · exact absurd (hd1.symm.trans hd2) (fun q => by cases q)
  · show X φ k n ((o, oMain pl th pg ga sh asked fi) :: (pl, oPlan (nI R) (nI C) (bI op) (nI (thM R C op)) ap rr rd sl) :: (sl, aI g 40 slots) :: (th, oThings pl ki el nu (nI (ctF (upd kinds j1 (xs ((ii + 2)))) (thM R C op))) (seA (upd kinds j1 (xs ((ii + 2)))) slots (thM R C op)) wa wo) :: (ki, aI g 40 (upd kinds j1 (xs ((ii + 2))))) :: (el, aI g 40 (upd elders j1 (-9))) :: (nu, aI g 40 (nuF (upd kinds j1 (xs ((ii + 2)))) numbers (thM R C op))) :: (wa, aJ g 12 (seW (upd kinds j1 (xs ((ii + 2)))) (upd elders j1 (-9)) (nuF (upd kinds j1 (xs ((ii + 2)))) numbers (thM R C op)) slots (fiF waf 0 12) (thM R C op))) :: (wo, aJ g 12 (seO (upd kinds j1 (xs ((ii + 2)))) (upd elders j1 (-9)) (nuF (upd kinds j1 (xs ((ii + 2)))) numbers (thM R C op)) slots (fiF wof 0 12) (thM R C op))) :: (pg, oGrid (nI R) (nI C) sp.1 sp.2.1 sp.2.2) :: (ga, oGrid sg.1 sg.2.1 sg.2.2.1 sg.2.2.2.1 sg.2.2.2.2) :: (sh, aS g 3 shf) :: (mo, oModel tn fi asked (nI R) (nI C) (bI op) mki mel mto mio mwy (bI hwb) mme mhs mso msr mrs mce mcp) :: (mki, aI g 40 kinds) :: (mel, aI g 40 elders) :: (mto, aI g 25 tof) :: (mio, aZ g 40 iof) :: (mwy, aI g 4096 wyf) :: (mme, aZ g 36 mef) :: (mhs, aZ g 3 hsf) :: (mso, aI g 3 sof) :: (msr, aI g 3 srf) :: (mrs, aI g 12 rsf) :: (mce, aI g 480 cef) :: (mcp, aI g 40 cpf) :: pool) [(0, .ref b), (1, .ref o), (2, .ref mo), (3, .int (nI ii))] 221 [.int (kinds j1)]
    refine X_aload_n K0 2 dL_law_221 rfl rfl ?_
    refine X_aload_n K0 0 dL_law_222 rfl rfl ?_
    refine X_iload_n K0 3 dL_law_223 rfl rfl ?_
    refine X_iconst (v := 1) K0 dL_law_224 (by decide) ?_
    refine X_iadd K0 dL_law_225 ?_
    refine X_v (z := (nI (ii + 1))) (nI_add ii 1) ?_
    refine X_sld K0 hsc (by omega) hLn dL_law_226 ?_
    refine X_aload_n K0 0 dL_law_227 rfl rfl ?_
    refine X_iload_n K0 3 dL_law_228 rfl rfl ?_
    refine X_iconst (v := 2) K0 dL_law_229 (by decide) ?_
    refine X_iadd K0 dL_law_230 ?_
    refine X_v (z := (nI (ii + 2))) (nI_add ii 2) ?_
    refine X_sld K0 hsc (by omega) hLn dL_law_231 ?_
    refine X_callV (As := [.int (xs ((ii + 1))), .int (xs ((ii + 2)))]) (rest := [.int (kinds j1)]) K0 12 (m_kind g (o, oMain pl th pg ga sh asked fi) (pl, oPlan (nI R) (nI C) (bI op) (nI (thM R C op)) ap rr rd sl) (sl, aI g 40 slots) (th, oThings pl ki el nu (nI (ctF (upd kinds j1 (xs ((ii + 2)))) (thM R C op))) (seA (upd kinds j1 (xs ((ii + 2)))) slots (thM R C op)) wa wo) (ki, aI g 40 (upd kinds j1 (xs ((ii + 2))))) (el, aI g 40 (upd elders j1 (-9))) (nu, aI g 40 (nuF (upd kinds j1 (xs ((ii + 2)))) numbers (thM R C op))) (wa, aJ g 12 (seW (upd kinds j1 (xs ((ii + 2)))) (upd elders j1 (-9)) (nuF (upd kinds j1 (xs ((ii + 2)))) numbers (thM R C op)) slots (fiF waf 0 12) (thM R C op))) (wo, aJ g 12 (seO (upd kinds j1 (xs ((ii + 2)))) (upd elders j1 (-9)) (nuF (upd kinds j1 (xs ((ii + 2)))) numbers (thM R C op)) slots (fiF wof 0 12) (thM R C op))) (pg, oGrid (nI R) (nI C) sp.1 sp.2.1 sp.2.2) (ga, oGrid sg.1 sg.2.1 sg.2.2.1 sg.2.2.2.1 sg.2.2.2.2) (sh, aS g 3 shf) mo mki mel mto mio mwy mme mhs mso msr mrs mce mcp tn fi asked R C op hwb kinds elders tof iof wyf mef hsf sof srf rsf cef cpf pool hR hC hKI (xs ((ii + 1))) (xs ((ii + 2)))) mi_X5_kind rfl rfl rfl ml_RL_22 rfl (Nat.le_of_ble_eq_true rfl) (by decide) ⟨by omega, by omega⟩ rfl rfl dL_law_232 ?_
    intro v w' hr'; rcases hr' with ⟨e2, hd2, rfl, rfl⟩ | ⟨hd2, j2, hj2, hx2, rfl, rfl⟩
    · exact absurd (hd1.symm.trans hd2) (fun q => by cases q)
    · obtain rfl : j1 = j2 := nI_e40 (hx1.symm.trans hx2) (by omega) (by omega)
      have hKI2 : KI (thM R C op) (upd kinds j1 (xs ((ii + 2)))) (upd elders j1 (-9)) := hKI.step hT hj1 (by rw [← hx1]; exact hd1)
      show X φ k n ((o, oMain pl th pg ga sh asked fi) :: (pl, oPlan (nI R) (nI C) (bI op) (nI (thM R C op)) ap rr rd sl) :: (sl, aI g 40 slots) :: (th, oThings pl ki el nu (nI (ctF (upd kinds j1 (xs ((ii + 2)))) (thM R C op))) (seA (upd kinds j1 (xs ((ii + 2)))) slots (thM R C op)) wa wo) :: (ki, aI g 40 (upd kinds j1 (xs ((ii + 2))))) :: (el, aI g 40 (upd elders j1 (-9))) :: (nu, aI g 40 (nuF (upd kinds j1 (xs ((ii + 2)))) numbers (thM R C op))) :: (wa, aJ g 12 (seW (upd kinds j1 (xs ((ii + 2)))) (upd elders j1 (-9)) (nuF (upd kinds j1 (xs ((ii + 2)))) numbers (thM R C op)) slots (fiF waf 0 12) (thM R C op))) :: (wo, aJ g 12 (seO (upd kinds j1 (xs ((ii + 2)))) (upd elders j1 (-9)) (nuF (upd kinds j1 (xs ((ii + 2)))) numbers (thM R C op)) slots (fiF wof 0 12) (thM R C op))) :: (pg, oGrid (nI R) (nI C) sp.1 sp.2.1 sp.2.2) :: (ga, oGrid sg.1 sg.2.1 sg.2.2.1 sg.2.2.2.1 sg.2.2.2.2) :: (sh, aS g 3 shf) :: (mo, oModel 0 fi asked (nI R) (nI C) (bI op) mki mel mto mio mwy (bI false) mme mhs mso msr mrs mce mcp) :: (mki, aI g 40 (upd kinds j1 (xs ((ii + 2))))) :: (mel, aI g 40 (upd elders j1 (-9))) :: (mto, aI g 25 tof) :: (mio, aZ g 40 iof) :: (mwy, aI g 4096 wyf) :: (mme, aZ g 36 mef) :: (mhs, aZ g 3 hsf) :: (mso, aI g 3 sof) :: (msr, aI g 3 srf) :: (mrs, aI g 12 rsf) :: (mce, aI g 480 cef) :: (mcp, aI g 40 cpf) :: pool) [(0, .ref b), (1, .ref o), (2, .ref mo), (3, .int (nI ii))] 235 [.int (kinds j1), .int (kinds j1)]
      refine X_icmp_eq K0 1101 dL_law_235 (by decide) (fun _ => ?_) (fun h => absurd (rfl) h)
      exact X.widen (by omega) (by omega) (next _ ⟨pl, sl, th, ki, el, nu, wa, wo, pg, ga, sh, mki, mel, mto, mio, mwy, mme, mhs, mso, msr, mrs, mce, mcp, R, C, op, (thM R C op), slots, ap, rr, rd, (ctF (upd kinds j1 (xs ((ii + 2)))) (thM R C op)), (seA (upd kinds j1 (xs ((ii + 2)))) slots (thM R C op)), (upd kinds j1 (xs ((ii + 2)))), (upd elders j1 (-9)), (nuF (upd kinds j1 (xs ((ii + 2)))) numbers (thM R C op)), (seW (upd kinds j1 (xs ((ii + 2)))) (upd elders j1 (-9)) (nuF (upd kinds j1 (xs ((ii + 2)))) numbers (thM R C op)) slots (fiF waf 0 12) (thM R C op)), (seO (upd kinds j1 (xs ((ii + 2)))) (upd elders j1 (-9)) (nuF (upd kinds j1 (xs ((ii + 2)))) numbers (thM R C op)) slots (fiF wof 0 12) (thM R C op)), sp, sg, shf, asked, fi, 0, false, tof, iof, wyf, mef, hsf, sof, srf, rsf, cef, cpf, pool, abs, ivmk rfl ⟨hR, hC, rfl, hRL.2.2.2.1, hRL.2.2.2.2.1, hRL.2.2.2.2.2.1, hRL.2.2.2.2.2.2.1, hKI2, rfl, ⟨_, rfl⟩, rfl, ⟨_, rfl⟩, ⟨_, rfl⟩⟩ (fun q => by cases q) hPO hMS⟩)

set_option maxRecDepth 20000 in
set_option maxHeartbeats 400000 in
theorem law_2 {φ : Fx} {g : Gx} {nm : String} {b Ln qB o mo ii k n : Nat} {xs : Nat → Int32} {w : va_W} (K0 : Cx φ g ⟨RL, nm, ""⟩ cL_law 4 9 328 600000 7302250) (hsc : Sc φ b Ln xs) (hB : Sb φ qB) (hii : ii + 8 ≤ Ln) (hLn : Ln ≤ 4096) (hk : k + 2 ≤ 600000) (hn : n + 40 ≤ 7302250) (hI : IV g o mo w) (next : ∀ w', IV g o mo w' → X φ (k + 2) (n + 40) w' [(0, .ref b), (1, .ref o), (2, .ref mo), (3, .int (nI ii))] 1101 []) : X φ k n w [(0, .ref b), (1, .ref o), (2, .ref mo), (3, .int (nI ii))] 240 [] := by
  obtain ⟨pl, sl, th, ki, el, nu, wa, wo, pg, ga, sh, mki, mel, mto, mio, mwy, mme, mhs, mso, msr, mrs, mce, mcp, R, C, op, T, slots, ap, rr, rd, m, al, kinds, elders, numbers, waf, wof, sp, sg, shf, asked, fi, tn, hwb, tof, iof, wyf, mef, hsf, sof, srf, rsf, cef, cpf, pool, abs, hIVw⟩ := hI
  obtain ⟨rfl, hRL, hWY, hPO, hMS⟩ := hIVw
  have hTe := hRL.2.2.1
  have hme := hRL.meq
  subst hTe
  subst hme
  have hR := hRL.1
  have hC := hRL.2.1
  have hKI := hRL.2.2.2.2.2.2.2.1
  have hDV := hRL.2.2.2.2.2.2.2.2
  have hT := th_M (op := op) hR hC
  have hm := hKI.2
  show X φ k n ((o, oMain pl th pg ga sh asked fi) :: (pl, oPlan (nI R) (nI C) (bI op) (nI (thM R C op)) ap rr rd sl) :: (sl, aI g 40 slots) :: (th, oThings pl ki el nu (nI (ctF kinds (thM R C op))) al wa wo) :: (ki, aI g 40 kinds) :: (el, aI g 40 elders) :: (nu, aI g 40 numbers) :: (wa, aJ g 12 waf) :: (wo, aJ g 12 wof) :: (pg, oGrid (nI R) (nI C) sp.1 sp.2.1 sp.2.2) :: (ga, oGrid sg.1 sg.2.1 sg.2.2.1 sg.2.2.2.1 sg.2.2.2.2) :: (sh, aS g 3 shf) :: (mo, oModel tn fi asked (nI R) (nI C) (bI op) mki mel mto mio mwy (bI hwb) mme mhs mso msr mrs mce mcp) :: (mki, aI g 40 kinds) :: (mel, aI g 40 elders) :: (mto, aI g 25 tof) :: (mio, aZ g 40 iof) :: (mwy, aI g 4096 wyf) :: (mme, aZ g 36 mef) :: (mhs, aZ g 3 hsf) :: (mso, aI g 3 sof) :: (msr, aI g 3 srf) :: (mrs, aI g 12 rsf) :: (mce, aI g 480 cef) :: (mcp, aI g 40 cpf) :: pool) [(0, .ref b), (1, .ref o), (2, .ref mo), (3, .int (nI ii))] 240 []
  refine X_aload_n K0 1 dL_law_240 rfl rfl ?_
  refine X_aload_n K0 0 dL_law_241 rfl rfl ?_
  refine X_iload_n K0 3 dL_law_242 rfl rfl ?_
  refine X_iconst (v := 1) K0 dL_law_243 (by decide) ?_
  refine X_iadd K0 dL_law_244 ?_
  refine X_v (z := (nI (ii + 1))) (nI_add ii 1) ?_
  refine X_sld K0 hsc (by omega) hLn dL_law_245 ?_
  refine X_aload_n K0 0 dL_law_246 rfl rfl ?_
  refine X_iload_n K0 3 dL_law_247 rfl rfl ?_
  refine X_iconst (v := 2) K0 dL_law_248 (by decide) ?_
  refine X_iadd K0 dL_law_249 ?_
  refine X_v (z := (nI (ii + 2))) (nI_add ii 2) ?_
  refine X_sld K0 hsc (by omega) hLn dL_law_250 ?_
  refine X_aload_n K0 0 dL_law_251 rfl rfl ?_
  refine X_iload_n K0 3 dL_law_252 rfl rfl ?_
  refine X_iconst (v := 3) K0 dL_law_253 (by decide) ?_
  refine X_iadd K0 dL_law_254 ?_
  refine X_v (z := (nI (ii + 3))) (nI_add ii 3) ?_
  refine X_sld K0 hsc (by omega) hLn dL_law_255 ?_
  suffices hj : X φ k n ((o, oMain pl th pg ga sh asked fi) :: (pl, oPlan (nI R) (nI C) (bI op) (nI (thM R C op)) ap rr rd sl) :: (sl, aI g 40 slots) :: (th, oThings pl ki el nu (nI (ctF kinds (thM R C op))) al wa wo) :: (ki, aI g 40 kinds) :: (el, aI g 40 elders) :: (nu, aI g 40 numbers) :: (wa, aJ g 12 waf) :: (wo, aJ g 12 wof) :: (pg, oGrid (nI R) (nI C) sp.1 sp.2.1 sp.2.2) :: (ga, oGrid sg.1 sg.2.1 sg.2.2.1 sg.2.2.2.1 sg.2.2.2.2) :: (sh, aS g 3 shf) :: (mo, oModel tn fi asked (nI R) (nI C) (bI op) mki mel mto mio mwy (bI hwb) mme mhs mso msr mrs mce mcp) :: (mki, aI g 40 kinds) :: (mel, aI g 40 elders) :: (mto, aI g 25 tof) :: (mio, aZ g 40 iof) :: (mwy, aI g 4096 wyf) :: (mme, aZ g 36 mef) :: (mhs, aZ g 3 hsf) :: (mso, aI g 3 sof) :: (msr, aI g 3 srf) :: (mrs, aI g 12 rsf) :: (mce, aI g 480 cef) :: (mcp, aI g 40 cpf) :: pool) [(0, .ref b), (1, .ref o), (2, .ref mo), (3, .int (nI ii))] 264 [.int (bI (decide (¬ (xs ((ii + 3))) = 0))), .int (xs ((ii + 2))), .int (xs ((ii + 1))), .ref o] from X_if_eq K0 263 dL_law_256 (by decide) (fun h => X_iconst (v := 0) K0 dL_law_263 (by decide) (X_b0 h hj)) (fun h => X_iconst (v := 1) K0 dL_law_259 (by decide) (X_goto K0 264 dL_law_260 (by decide) (X_b1 h hj)))
  obtain ⟨ag, hag⟩ : ∃ z, z = (decide (¬ (xs ((ii + 3))) = 0)) := ⟨_, rfl⟩
  rw [← hag]
  refine X_callV (As := [.int (xs ((ii + 1))), .int (xs ((ii + 2))), .int (bI ag)]) (rest := []) K0 0 (c_twin g o pl sl th ki el nu wa wo pg ga sh R C op (thM R C op) slots ap rr rd (ctF kinds (thM R C op)) al kinds elders numbers waf wof sp sg shf asked fi ((mo, oModel tn fi asked (nI R) (nI C) (bI op) mki mel mto mio mwy (bI hwb) mme mhs mso msr mrs mce mcp) :: (mki, aI g 40 kinds) :: (mel, aI g 40 elders) :: (mto, aI g 25 tof) :: (mio, aZ g 40 iof) :: (mwy, aI g 4096 wyf) :: (mme, aZ g 36 mef) :: (mhs, aZ g 3 hsf) :: (mso, aI g 3 sof) :: (msr, aI g 3 srf) :: (mrs, aI g 12 rsf) :: (mce, aI g 480 cef) :: (mcp, aI g 40 cpf) :: pool) hR hC hT hm hKI rfl (xs ((ii + 1))) (xs ((ii + 2))) ag) mi_X4_twin rfl rfl rfl ml_RL_23 rfl (Nat.le_of_ble_eq_true rfl) (by decide) ⟨by omega, by omega⟩ rfl rfl dL_law_264 ?_
  intro v w' hr'; rcases hr' with ⟨e1, hd1, rfl, rfl⟩ | ⟨hd1, j1, l1, hj1, hl1, hx1, hy1, rfl, rfl⟩
  · show X φ k n ((o, oMain pl th pg ga sh asked fi) :: (pl, oPlan (nI R) (nI C) (bI op) (nI (thM R C op)) ap rr rd sl) :: (sl, aI g 40 slots) :: (th, oThings pl ki el nu (nI (ctF kinds (thM R C op))) al wa wo) :: (ki, aI g 40 kinds) :: (el, aI g 40 elders) :: (nu, aI g 40 numbers) :: (wa, aJ g 12 waf) :: (wo, aJ g 12 wof) :: (pg, oGrid (nI R) (nI C) sp.1 sp.2.1 sp.2.2) :: (ga, oGrid sg.1 sg.2.1 sg.2.2.1 sg.2.2.2.1 sg.2.2.2.2) :: (sh, aS g 3 shf) :: (mo, oModel tn fi asked (nI R) (nI C) (bI op) mki mel mto mio mwy (bI hwb) mme mhs mso msr mrs mce mcp) :: (mki, aI g 40 kinds) :: (mel, aI g 40 elders) :: (mto, aI g 25 tof) :: (mio, aZ g 40 iof) :: (mwy, aI g 4096 wyf) :: (mme, aZ g 36 mef) :: (mhs, aZ g 3 hsf) :: (mso, aI g 3 sof) :: (msr, aI g 3 srf) :: (mrs, aI g 12 rsf) :: (mce, aI g 480 cef) :: (mcp, aI g 40 cpf) :: pool) [(0, .ref b), (1, .ref o), (2, .ref mo), (3, .int (nI ii))] 267 [.int e1]
    refine X_aload_n K0 2 dL_law_267 rfl rfl ?_
    refine X_aload_n K0 0 dL_law_268 rfl rfl ?_
    refine X_iload_n K0 3 dL_law_269 rfl rfl ?_
    refine X_iconst (v := 1) K0 dL_law_270 (by decide) ?_
    refine X_iadd K0 dL_law_271 ?_
    refine X_v (z := (nI (ii + 1))) (nI_add ii 1) ?_
    refine X_sld K0 hsc (by omega) hLn dL_law_272 ?_
    refine X_aload_n K0 0 dL_law_273 rfl rfl ?_
    refine X_iload_n K0 3 dL_law_274 rfl rfl ?_
    refine X_iconst (v := 2) K0 dL_law_275 (by decide) ?_
    refine X_iadd K0 dL_law_276 ?_
    refine X_v (z := (nI (ii + 2))) (nI_add ii 2) ?_
    refine X_sld K0 hsc (by omega) hLn dL_law_277 ?_
    refine X_aload_n K0 0 dL_law_278 rfl rfl ?_
    refine X_iload_n K0 3 dL_law_279 rfl rfl ?_
    refine X_iconst (v := 3) K0 dL_law_280 (by decide) ?_
    refine X_iadd K0 dL_law_281 ?_
    refine X_v (z := (nI (ii + 3))) (nI_add ii 3) ?_
    refine X_sld K0 hsc (by omega) hLn dL_law_282 ?_
    suffices hj : X φ k n ((o, oMain pl th pg ga sh asked fi) :: (pl, oPlan (nI R) (nI C) (bI op) (nI (thM R C op)) ap rr rd sl) :: (sl, aI g 40 slots) :: (th, oThings pl ki el nu (nI (ctF kinds (thM R C op))) al wa wo) :: (ki, aI g 40 kinds) :: (el, aI g 40 elders) :: (nu, aI g 40 numbers) :: (wa, aJ g 12 waf) :: (wo, aJ g 12 wof) :: (pg, oGrid (nI R) (nI C) sp.1 sp.2.1 sp.2.2) :: (ga, oGrid sg.1 sg.2.1 sg.2.2.1 sg.2.2.2.1 sg.2.2.2.2) :: (sh, aS g 3 shf) :: (mo, oModel tn fi asked (nI R) (nI C) (bI op) mki mel mto mio mwy (bI hwb) mme mhs mso msr mrs mce mcp) :: (mki, aI g 40 kinds) :: (mel, aI g 40 elders) :: (mto, aI g 25 tof) :: (mio, aZ g 40 iof) :: (mwy, aI g 4096 wyf) :: (mme, aZ g 36 mef) :: (mhs, aZ g 3 hsf) :: (mso, aI g 3 sof) :: (msr, aI g 3 srf) :: (mrs, aI g 12 rsf) :: (mce, aI g 480 cef) :: (mcp, aI g 40 cpf) :: pool) [(0, .ref b), (1, .ref o), (2, .ref mo), (3, .int (nI ii))] 291 [.int (bI (decide (¬ (xs ((ii + 3))) = 0))), .int (xs ((ii + 2))), .int (xs ((ii + 1))), .ref mo, .int e1] from X_if_eq K0 290 dL_law_283 (by decide) (fun h => X_iconst (v := 0) K0 dL_law_290 (by decide) (X_b0 h hj)) (fun h => X_iconst (v := 1) K0 dL_law_286 (by decide) (X_goto K0 291 dL_law_287 (by decide) (X_b1 h hj)))
    rw [← hag]
    refine X_callV (As := [.int (xs ((ii + 1))), .int (xs ((ii + 2))), .int (bI ag)]) (rest := [.int e1]) K0 12 (m_twin g (o, oMain pl th pg ga sh asked fi) (pl, oPlan (nI R) (nI C) (bI op) (nI (thM R C op)) ap rr rd sl) (sl, aI g 40 slots) (th, oThings pl ki el nu (nI (ctF kinds (thM R C op))) al wa wo) (ki, aI g 40 kinds) (el, aI g 40 elders) (nu, aI g 40 numbers) (wa, aJ g 12 waf) (wo, aJ g 12 wof) (pg, oGrid (nI R) (nI C) sp.1 sp.2.1 sp.2.2) (ga, oGrid sg.1 sg.2.1 sg.2.2.1 sg.2.2.2.1 sg.2.2.2.2) (sh, aS g 3 shf) mo mki mel mto mio mwy mme mhs mso msr mrs mce mcp tn fi asked R C op hwb kinds elders tof iof wyf mef hsf sof srf rsf cef cpf pool hR hC (xs ((ii + 1))) (xs ((ii + 2))) ag) mi_X5_twin rfl rfl rfl ml_RL_26 rfl (Nat.le_of_ble_eq_true rfl) (by decide) ⟨by omega, by omega⟩ rfl rfl dL_law_291 ?_
    intro v w' hr'; rcases hr' with ⟨e2, hd2, rfl, rfl⟩ | ⟨hd2, j2, l2, hj2, hl2, hx2, hy2, rfl, rfl⟩
    · show X φ k n ((o, oMain pl th pg ga sh asked fi) :: (pl, oPlan (nI R) (nI C) (bI op) (nI (thM R C op)) ap rr rd sl) :: (sl, aI g 40 slots) :: (th, oThings pl ki el nu (nI (ctF kinds (thM R C op))) al wa wo) :: (ki, aI g 40 kinds) :: (el, aI g 40 elders) :: (nu, aI g 40 numbers) :: (wa, aJ g 12 waf) :: (wo, aJ g 12 wof) :: (pg, oGrid (nI R) (nI C) sp.1 sp.2.1 sp.2.2) :: (ga, oGrid sg.1 sg.2.1 sg.2.2.1 sg.2.2.2.1 sg.2.2.2.2) :: (sh, aS g 3 shf) :: (mo, oModel 0 fi asked (nI R) (nI C) (bI op) mki mel mto mio mwy (bI hwb) mme mhs mso msr mrs mce mcp) :: (mki, aI g 40 kinds) :: (mel, aI g 40 elders) :: (mto, aI g 25 tof) :: (mio, aZ g 40 iof) :: (mwy, aI g 4096 wyf) :: (mme, aZ g 36 mef) :: (mhs, aZ g 3 hsf) :: (mso, aI g 3 sof) :: (msr, aI g 3 srf) :: (mrs, aI g 12 rsf) :: (mce, aI g 480 cef) :: (mcp, aI g 40 cpf) :: pool) [(0, .ref b), (1, .ref o), (2, .ref mo), (3, .int (nI ii))] 294 [.int e2, .int e1]
      refine X_icmp_eq K0 1101 dL_law_294 (by decide) (fun _ => ?_) (fun h => absurd (Option.some.inj (hd1.symm.trans hd2)) h)
      exact X.widen (by omega) (by omega) (next _ ⟨pl, sl, th, ki, el, nu, wa, wo, pg, ga, sh, mki, mel, mto, mio, mwy, mme, mhs, mso, msr, mrs, mce, mcp, R, C, op, (thM R C op), slots, ap, rr, rd, (ctF kinds (thM R C op)), al, kinds, elders, numbers, waf, wof, sp, sg, shf, asked, fi, 0, hwb, tof, iof, wyf, mef, hsf, sof, srf, rsf, cef, cpf, pool, abs, ivmk rfl hRL hWY hPO hMS⟩)
    · exact absurd (hd1.symm.trans hd2) (fun q => by cases q)
  · show X φ k n ((o, oMain pl th pg ga sh asked fi) :: (pl, oPlan (nI R) (nI C) (bI op) (nI (thM R C op)) ap rr rd sl) :: (sl, aI g 40 slots) :: (th, oThings pl ki el nu (nI (ctF (upd kinds j1 (if ag = true then 4 else 3)) (thM R C op))) (seA (upd kinds j1 (if ag = true then 4 else 3)) slots (thM R C op)) wa wo) :: (ki, aI g 40 (upd kinds j1 (if ag = true then 4 else 3))) :: (el, aI g 40 (upd elders j1 (nI l1))) :: (nu, aI g 40 (nuF (upd kinds j1 (if ag = true then 4 else 3)) numbers (thM R C op))) :: (wa, aJ g 12 (seW (upd kinds j1 (if ag = true then 4 else 3)) (upd elders j1 (nI l1)) (nuF (upd kinds j1 (if ag = true then 4 else 3)) numbers (thM R C op)) slots (fiF waf 0 12) (thM R C op))) :: (wo, aJ g 12 (seO (upd kinds j1 (if ag = true then 4 else 3)) (upd elders j1 (nI l1)) (nuF (upd kinds j1 (if ag = true then 4 else 3)) numbers (thM R C op)) slots (fiF wof 0 12) (thM R C op))) :: (pg, oGrid (nI R) (nI C) sp.1 sp.2.1 sp.2.2) :: (ga, oGrid sg.1 sg.2.1 sg.2.2.1 sg.2.2.2.1 sg.2.2.2.2) :: (sh, aS g 3 shf) :: (mo, oModel tn fi asked (nI R) (nI C) (bI op) mki mel mto mio mwy (bI hwb) mme mhs mso msr mrs mce mcp) :: (mki, aI g 40 kinds) :: (mel, aI g 40 elders) :: (mto, aI g 25 tof) :: (mio, aZ g 40 iof) :: (mwy, aI g 4096 wyf) :: (mme, aZ g 36 mef) :: (mhs, aZ g 3 hsf) :: (mso, aI g 3 sof) :: (msr, aI g 3 srf) :: (mrs, aI g 12 rsf) :: (mce, aI g 480 cef) :: (mcp, aI g 40 cpf) :: pool) [(0, .ref b), (1, .ref o), (2, .ref mo), (3, .int (nI ii))] 267 [.int (kinds j1)]
    refine X_aload_n K0 2 dL_law_267 rfl rfl ?_
    refine X_aload_n K0 0 dL_law_268 rfl rfl ?_
    refine X_iload_n K0 3 dL_law_269 rfl rfl ?_
    refine X_iconst (v := 1) K0 dL_law_270 (by decide) ?_
    refine X_iadd K0 dL_law_271 ?_
    refine X_v (z := (nI (ii + 1))) (nI_add ii 1) ?_
    refine X_sld K0 hsc (by omega) hLn dL_law_272 ?_
    refine X_aload_n K0 0 dL_law_273 rfl rfl ?_
    refine X_iload_n K0 3 dL_law_274 rfl rfl ?_
    refine X_iconst (v := 2) K0 dL_law_275 (by decide) ?_
    refine X_iadd K0 dL_law_276 ?_
    refine X_v (z := (nI (ii + 2))) (nI_add ii 2) ?_
    refine X_sld K0 hsc (by omega) hLn dL_law_277 ?_
    refine X_aload_n K0 0 dL_law_278 rfl rfl ?_
    refine X_iload_n K0 3 dL_law_279 rfl rfl ?_
    refine X_iconst (v := 3) K0 dL_law_280 (by decide) ?_
    refine X_iadd K0 dL_law_281 ?_
    refine X_v (z := (nI (ii + 3))) (nI_add ii 3) ?_
    refine X_sld K0 hsc (by omega) hLn dL_law_282 ?_
    suffices hj : X φ k n ((o, oMain pl th pg ga sh asked fi) :: (pl, oPlan (nI R) (nI C) (bI op) (nI (thM R C op)) ap rr rd sl) :: (sl, aI g 40 slots) :: (th, oThings pl ki el nu (nI (ctF (upd kinds j1 (if ag = true then 4 else 3)) (thM R C op))) (seA (upd kinds j1 (if ag = true then 4 else 3)) slots (thM R C op)) wa wo) :: (ki, aI g 40 (upd kinds j1 (if ag = true then 4 else 3))) :: (el, aI g 40 (upd elders j1 (nI l1))) :: (nu, aI g 40 (nuF (upd kinds j1 (if ag = true then 4 else 3)) numbers (thM R C op))) :: (wa, aJ g 12 (seW (upd kinds j1 (if ag = true then 4 else 3)) (upd elders j1 (nI l1)) (nuF (upd kinds j1 (if ag = true then 4 else 3)) numbers (thM R C op)) slots (fiF waf 0 12) (thM R C op))) :: (wo, aJ g 12 (seO (upd kinds j1 (if ag = true then 4 else 3)) (upd elders j1 (nI l1)) (nuF (upd kinds j1 (if ag = true then 4 else 3)) numbers (thM R C op)) slots (fiF wof 0 12) (thM R C op))) :: (pg, oGrid (nI R) (nI C) sp.1 sp.2.1 sp.2.2) :: (ga, oGrid sg.1 sg.2.1 sg.2.2.1 sg.2.2.2.1 sg.2.2.2.2) :: (sh, aS g 3 shf) :: (mo, oModel tn fi asked (nI R) (nI C) (bI op) mki mel mto mio mwy (bI hwb) mme mhs mso msr mrs mce mcp) :: (mki, aI g 40 kinds) :: (mel, aI g 40 elders) :: (mto, aI g 25 tof) :: (mio, aZ g 40 iof) :: (mwy, aI g 4096 wyf) :: (mme, aZ g 36 mef) :: (mhs, aZ g 3 hsf) :: (mso, aI g 3 sof) :: (msr, aI g 3 srf) :: (mrs, aI g 12 rsf) :: (mce, aI g 480 cef) :: (mcp, aI g 40 cpf) :: pool) [(0, .ref b), (1, .ref o), (2, .ref mo), (3, .int (nI ii))] 291 [.int (bI (decide (¬ (xs ((ii + 3))) = 0))), .int (xs ((ii + 2))), .int (xs ((ii + 1))), .ref mo, .int (kinds j1)] from X_if_eq K0 290 dL_law_283 (by decide) (fun h => X_iconst (v := 0) K0 dL_law_290 (by decide) (X_b0 h hj)) (fun h => X_iconst (v := 1) K0 dL_law_286 (by decide) (X_goto K0 291 dL_law_287 (by decide) (X_b1 h hj)))
    rw [← hag]
    refine X_callV (As := [.int (xs ((ii + 1))), .int (xs ((ii + 2))), .int (bI ag)]) (rest := [.int (kinds j1)]) K0 12 (m_twin g (o, oMain pl th pg ga sh asked fi) (pl, oPlan (nI R) (nI C) (bI op) (nI (thM R C op)) ap rr rd sl) (sl, aI g 40 slots) (th, oThings pl ki el nu (nI (ctF (upd kinds j1 (if ag = true then 4 else 3)) (thM R C op))) (seA (upd kinds j1 (if ag = true then 4 else 3)) slots (thM R C op)) wa wo) (ki, aI g 40 (upd kinds j1 (if ag = true then 4 else 3))) (el, aI g 40 (upd elders j1 (nI l1))) (nu, aI g 40 (nuF (upd kinds j1 (if ag = true then 4 else 3)) numbers (thM R C op))) (wa, aJ g 12 (seW (upd kinds j1 (if ag = true then 4 else 3)) (upd elders j1 (nI l1)) (nuF (upd kinds j1 (if ag = true then 4 else 3)) numbers (thM R C op)) slots (fiF waf 0 12) (thM R C op))) (wo, aJ g 12 (seO (upd kinds j1 (if ag = true then 4 else 3)) (upd elders j1 (nI l1)) (nuF (upd kinds j1 (if ag = true then 4 else 3)) numbers (thM R C op)) slots (fiF wof 0 12) (thM R C op))) (pg, oGrid (nI R) (nI C) sp.1 sp.2.1 sp.2.2) (ga, oGrid sg.1 sg.2.1 sg.2.2.1 sg.2.2.2.1 sg.2.2.2.2) (sh, aS g 3 shf) mo mki mel mto mio mwy mme mhs mso msr mrs mce mcp tn fi asked R C op hwb kinds elders tof iof wyf mef hsf sof srf rsf cef cpf pool hR hC (xs ((ii + 1))) (xs ((ii + 2))) ag) mi_X5_twin rfl rfl rfl ml_RL_26 rfl (Nat.le_of_ble_eq_true rfl) (by decide) ⟨by omega, by omega⟩ rfl rfl dL_law_291 ?_
    intro v w' hr'; rcases hr' with ⟨e2, hd2, rfl, rfl⟩ | ⟨hd2, j2, l2, hj2, hl2, hx2, hy2, rfl, rfl⟩
    · exact absurd (hd1.symm.trans hd2) (fun q => by cases q)
    · obtain rfl : j1 = j2 := nI_e40 (hx1.symm.trans hx2) (by omega) (by omega)
      obtain rfl : l1 = l2 := nI_e40 (hy1.symm.trans hy2) (by omega) (by omega)
      have hKI2 : KI (thM R C op) (upd kinds j1 (if ag = true then 4 else 3)) (upd elders j1 (nI l1)) := tw_KI hKI hT hj1 hl1 (by rw [← hx1, ← hy1]; exact hd1)
      show X φ k n ((o, oMain pl th pg ga sh asked fi) :: (pl, oPlan (nI R) (nI C) (bI op) (nI (thM R C op)) ap rr rd sl) :: (sl, aI g 40 slots) :: (th, oThings pl ki el nu (nI (ctF (upd kinds j1 (if ag = true then 4 else 3)) (thM R C op))) (seA (upd kinds j1 (if ag = true then 4 else 3)) slots (thM R C op)) wa wo) :: (ki, aI g 40 (upd kinds j1 (if ag = true then 4 else 3))) :: (el, aI g 40 (upd elders j1 (nI l1))) :: (nu, aI g 40 (nuF (upd kinds j1 (if ag = true then 4 else 3)) numbers (thM R C op))) :: (wa, aJ g 12 (seW (upd kinds j1 (if ag = true then 4 else 3)) (upd elders j1 (nI l1)) (nuF (upd kinds j1 (if ag = true then 4 else 3)) numbers (thM R C op)) slots (fiF waf 0 12) (thM R C op))) :: (wo, aJ g 12 (seO (upd kinds j1 (if ag = true then 4 else 3)) (upd elders j1 (nI l1)) (nuF (upd kinds j1 (if ag = true then 4 else 3)) numbers (thM R C op)) slots (fiF wof 0 12) (thM R C op))) :: (pg, oGrid (nI R) (nI C) sp.1 sp.2.1 sp.2.2) :: (ga, oGrid sg.1 sg.2.1 sg.2.2.1 sg.2.2.2.1 sg.2.2.2.2) :: (sh, aS g 3 shf) :: (mo, oModel 0 fi asked (nI R) (nI C) (bI op) mki mel mto mio mwy (bI false) mme mhs mso msr mrs mce mcp) :: (mki, aI g 40 (upd kinds j1 (if ag = true then 4 else 3))) :: (mel, aI g 40 (upd elders j1 (nI l1))) :: (mto, aI g 25 tof) :: (mio, aZ g 40 iof) :: (mwy, aI g 4096 wyf) :: (mme, aZ g 36 mef) :: (mhs, aZ g 3 hsf) :: (mso, aI g 3 sof) :: (msr, aI g 3 srf) :: (mrs, aI g 12 rsf) :: (mce, aI g 480 cef) :: (mcp, aI g 40 cpf) :: pool) [(0, .ref b), (1, .ref o), (2, .ref mo), (3, .int (nI ii))] 294 [.int (kinds j1), .int (kinds j1)]
      refine X_icmp_eq K0 1101 dL_law_294 (by decide) (fun _ => ?_) (fun h => absurd (rfl) h)
      exact X.widen (by omega) (by omega) (next _ ⟨pl, sl, th, ki, el, nu, wa, wo, pg, ga, sh, mki, mel, mto, mio, mwy, mme, mhs, mso, msr, mrs, mce, mcp, R, C, op, (thM R C op), slots, ap, rr, rd, (ctF (upd kinds j1 (if ag = true then 4 else 3)) (thM R C op)), (seA (upd kinds j1 (if ag = true then 4 else 3)) slots (thM R C op)), (upd kinds j1 (if ag = true then 4 else 3)), (upd elders j1 (nI l1)), (nuF (upd kinds j1 (if ag = true then 4 else 3)) numbers (thM R C op)), (seW (upd kinds j1 (if ag = true then 4 else 3)) (upd elders j1 (nI l1)) (nuF (upd kinds j1 (if ag = true then 4 else 3)) numbers (thM R C op)) slots (fiF waf 0 12) (thM R C op)), (seO (upd kinds j1 (if ag = true then 4 else 3)) (upd elders j1 (nI l1)) (nuF (upd kinds j1 (if ag = true then 4 else 3)) numbers (thM R C op)) slots (fiF wof 0 12) (thM R C op)), sp, sg, shf, asked, fi, 0, false, tof, iof, wyf, mef, hsf, sof, srf, rsf, cef, cpf, pool, abs, ivmk rfl ⟨hR, hC, rfl, hRL.2.2.2.1, hRL.2.2.2.2.1, hRL.2.2.2.2.2.1, hRL.2.2.2.2.2.2.1, hKI2, rfl, ⟨_, rfl⟩, rfl, ⟨_, rfl⟩, ⟨_, rfl⟩⟩ (fun q => by cases q) hPO hMS⟩)

set_option maxRecDepth 20000 in
set_option maxHeartbeats 400000 in
theorem law_5 {φ : Fx} {g : Gx} {nm : String} {b Ln qB o mo ii k n : Nat} {xs : Nat → Int32} {w : va_W} (K0 : Cx φ g ⟨RL, nm, ""⟩ cL_law 4 9 328 600000 7302250) (hsc : Sc φ b Ln xs) (hB : Sb φ qB) (hii : ii + 8 ≤ Ln) (hLn : Ln ≤ 4096) (hk : k + 2 ≤ 600000) (hn : n + 40 ≤ 7302250) (hI : IV g o mo w) (next : ∀ w', IV g o mo w' → X φ (k + 2) (n + 40) w' [(0, .ref b), (1, .ref o), (2, .ref mo), (3, .int (nI ii))] 1101 []) : X φ k n w [(0, .ref b), (1, .ref o), (2, .ref mo), (3, .int (nI ii))] 355 [] := by
  obtain ⟨pl, sl, th, ki, el, nu, wa, wo, pg, ga, sh, mki, mel, mto, mio, mwy, mme, mhs, mso, msr, mrs, mce, mcp, R, C, op, T, slots, ap, rr, rd, m, al, kinds, elders, numbers, waf, wof, sp, sg, shf, asked, fi, tn, hwb, tof, iof, wyf, mef, hsf, sof, srf, rsf, cef, cpf, pool, abs, hIVw⟩ := hI
  obtain ⟨rfl, hRL, hWY, hPO, hMS⟩ := hIVw
  have hTe := hRL.2.2.1
  have hme := hRL.meq
  subst hTe
  subst hme
  have hR := hRL.1
  have hC := hRL.2.1
  have hKI := hRL.2.2.2.2.2.2.2.1
  have hDV := hRL.2.2.2.2.2.2.2.2
  have hT := th_M (op := op) hR hC
  have hm := hKI.2
  show X φ k n ((o, oMain pl th pg ga sh asked fi) :: (pl, oPlan (nI R) (nI C) (bI op) (nI (thM R C op)) ap rr rd sl) :: (sl, aI g 40 slots) :: (th, oThings pl ki el nu (nI (ctF kinds (thM R C op))) al wa wo) :: (ki, aI g 40 kinds) :: (el, aI g 40 elders) :: (nu, aI g 40 numbers) :: (wa, aJ g 12 waf) :: (wo, aJ g 12 wof) :: (pg, oGrid (nI R) (nI C) sp.1 sp.2.1 sp.2.2) :: (ga, oGrid sg.1 sg.2.1 sg.2.2.1 sg.2.2.2.1 sg.2.2.2.2) :: (sh, aS g 3 shf) :: (mo, oModel tn fi asked (nI R) (nI C) (bI op) mki mel mto mio mwy (bI hwb) mme mhs mso msr mrs mce mcp) :: (mki, aI g 40 kinds) :: (mel, aI g 40 elders) :: (mto, aI g 25 tof) :: (mio, aZ g 40 iof) :: (mwy, aI g 4096 wyf) :: (mme, aZ g 36 mef) :: (mhs, aZ g 3 hsf) :: (mso, aI g 3 sof) :: (msr, aI g 3 srf) :: (mrs, aI g 12 rsf) :: (mce, aI g 480 cef) :: (mcp, aI g 40 cpf) :: pool) [(0, .ref b), (1, .ref o), (2, .ref mo), (3, .int (nI ii))] 355 []
  refine X_aload_n K0 1 dL_law_355 rfl rfl ?_
  refine X_aload_n K0 0 dL_law_356 rfl rfl ?_
  refine X_iload_n K0 3 dL_law_357 rfl rfl ?_
  refine X_iconst (v := 1) K0 dL_law_358 (by decide) ?_
  refine X_iadd K0 dL_law_359 ?_
  refine X_v (z := (nI (ii + 1))) (nI_add ii 1) ?_
  refine X_sld K0 hsc (by omega) hLn dL_law_360 ?_
  refine X_aload_n K0 0 dL_law_361 rfl rfl ?_
  refine X_iload_n K0 3 dL_law_362 rfl rfl ?_
  refine X_iconst (v := 2) K0 dL_law_363 (by decide) ?_
  refine X_iadd K0 dL_law_364 ?_
  refine X_v (z := (nI (ii + 2))) (nI_add ii 2) ?_
  refine X_sld K0 hsc (by omega) hLn dL_law_365 ?_
  refine X_callVB (As := [.int (xs ((ii + 1))), .int (xs ((ii + 2)))]) (rest := []) K0 hB 0 (c_opens g o pl sl th ki el nu wa wo pg ga sh R C op (thM R C op) slots ap rr rd (ctF kinds (thM R C op)) al kinds elders numbers waf wof sp sg shf asked fi ((mo, oModel tn fi asked (nI R) (nI C) (bI op) mki mel mto mio mwy (bI hwb) mme mhs mso msr mrs mce mcp) :: (mki, aI g 40 kinds) :: (mel, aI g 40 elders) :: (mto, aI g 25 tof) :: (mio, aZ g 40 iof) :: (mwy, aI g 4096 wyf) :: (mme, aZ g 36 mef) :: (mhs, aZ g 3 hsf) :: (mso, aI g 3 sof) :: (msr, aI g 3 srf) :: (mrs, aI g 12 rsf) :: (mce, aI g 480 cef) :: (mcp, aI g 40 cpf) :: pool) hR hC hT hm hKI qB (xs ((ii + 1))) (xs ((ii + 2)))) mi_X4_opens rfl rfl rfl ml_RL_36 rfl (Nat.le_of_ble_eq_true rfl) (by decide) ⟨by omega, by omega⟩ rfl rfl dL_law_366 ?_
  intro v w' hr'; rcases hr' with ⟨hd1, rfl, rfl⟩ | ⟨j1, hj1, hx1, hs1, rfl, rfl⟩
  · show X φ k n ((o, oMain pl th pg ga sh asked fi) :: (pl, oPlan (nI R) (nI C) (bI op) (nI (thM R C op)) ap rr rd sl) :: (sl, aI g 40 slots) :: (th, oThings pl ki el nu (nI (ctF kinds (thM R C op))) al wa wo) :: (ki, aI g 40 kinds) :: (el, aI g 40 elders) :: (nu, aI g 40 numbers) :: (wa, aJ g 12 waf) :: (wo, aJ g 12 wof) :: (pg, oGrid (nI R) (nI C) sp.1 sp.2.1 sp.2.2) :: (ga, oGrid sg.1 sg.2.1 sg.2.2.1 sg.2.2.2.1 sg.2.2.2.2) :: (sh, aS g 3 shf) :: (mo, oModel tn fi asked (nI R) (nI C) (bI op) mki mel mto mio mwy (bI hwb) mme mhs mso msr mrs mce mcp) :: (mki, aI g 40 kinds) :: (mel, aI g 40 elders) :: (mto, aI g 25 tof) :: (mio, aZ g 40 iof) :: (mwy, aI g 4096 wyf) :: (mme, aZ g 36 mef) :: (mhs, aZ g 3 hsf) :: (mso, aI g 3 sof) :: (msr, aI g 3 srf) :: (mrs, aI g 12 rsf) :: (mce, aI g 480 cef) :: (mcp, aI g 40 cpf) :: pool) [(0, .ref b), (1, .ref o), (2, .ref mo), (3, .int (nI ii))] 369 [.int (-1)]
    refine X_aload_n K0 2 dL_law_369 rfl rfl ?_
    refine X_aload_n K0 0 dL_law_370 rfl rfl ?_
    refine X_iload_n K0 3 dL_law_371 rfl rfl ?_
    refine X_iconst (v := 1) K0 dL_law_372 (by decide) ?_
    refine X_iadd K0 dL_law_373 ?_
    refine X_v (z := (nI (ii + 1))) (nI_add ii 1) ?_
    refine X_sld K0 hsc (by omega) hLn dL_law_374 ?_
    refine X_aload_n K0 0 dL_law_375 rfl rfl ?_
    refine X_iload_n K0 3 dL_law_376 rfl rfl ?_
    refine X_iconst (v := 2) K0 dL_law_377 (by decide) ?_
    refine X_iadd K0 dL_law_378 ?_
    refine X_v (z := (nI (ii + 2))) (nI_add ii 2) ?_
    refine X_sld K0 hsc (by omega) hLn dL_law_379 ?_
    refine X_callV (As := [.int (xs ((ii + 1))), .int (xs ((ii + 2)))]) (rest := [.int (-1)]) K0 12 (m_opens g (o, oMain pl th pg ga sh asked fi) (pl, oPlan (nI R) (nI C) (bI op) (nI (thM R C op)) ap rr rd sl) (sl, aI g 40 slots) (th, oThings pl ki el nu (nI (ctF kinds (thM R C op))) al wa wo) (ki, aI g 40 kinds) (el, aI g 40 elders) (nu, aI g 40 numbers) (wa, aJ g 12 waf) (wo, aJ g 12 wof) (pg, oGrid (nI R) (nI C) sp.1 sp.2.1 sp.2.2) (ga, oGrid sg.1 sg.2.1 sg.2.2.1 sg.2.2.2.1 sg.2.2.2.2) (sh, aS g 3 shf) mo mki mel mto mio mwy mme mhs mso msr mrs mce mcp tn fi asked R C op hwb kinds elders tof iof wyf mef hsf sof srf rsf cef cpf pool hR hC hKI (xs ((ii + 1))) (xs ((ii + 2)))) mi_X5_opens rfl rfl rfl ml_RL_39 rfl (Nat.le_of_ble_eq_true rfl) (by decide) ⟨by omega, by omega⟩ rfl rfl dL_law_380 ?_
    intro v w' hr'; rcases hr' with ⟨hd2, rfl, rfl⟩ | ⟨j2, hj2, hx2, hs2, rfl, rfl⟩
    · show X φ k n ((o, oMain pl th pg ga sh asked fi) :: (pl, oPlan (nI R) (nI C) (bI op) (nI (thM R C op)) ap rr rd sl) :: (sl, aI g 40 slots) :: (th, oThings pl ki el nu (nI (ctF kinds (thM R C op))) al wa wo) :: (ki, aI g 40 kinds) :: (el, aI g 40 elders) :: (nu, aI g 40 numbers) :: (wa, aJ g 12 waf) :: (wo, aJ g 12 wof) :: (pg, oGrid (nI R) (nI C) sp.1 sp.2.1 sp.2.2) :: (ga, oGrid sg.1 sg.2.1 sg.2.2.1 sg.2.2.2.1 sg.2.2.2.2) :: (sh, aS g 3 shf) :: (mo, oModel 0 fi asked (nI R) (nI C) (bI op) mki mel mto mio mwy (bI hwb) mme mhs mso msr mrs mce mcp) :: (mki, aI g 40 kinds) :: (mel, aI g 40 elders) :: (mto, aI g 25 tof) :: (mio, aZ g 40 iof) :: (mwy, aI g 4096 wyf) :: (mme, aZ g 36 mef) :: (mhs, aZ g 3 hsf) :: (mso, aI g 3 sof) :: (msr, aI g 3 srf) :: (mrs, aI g 12 rsf) :: (mce, aI g 480 cef) :: (mcp, aI g 40 cpf) :: pool) [(0, .ref b), (1, .ref o), (2, .ref mo), (3, .int (nI ii))] 383 [.int (-1), .int (-1)]
      refine X_icmp_eq K0 1101 dL_law_383 (by decide) (fun _ => ?_) (fun h => absurd (rfl) h)
      exact X.widen (by omega) (by omega) (next _ ⟨pl, sl, th, ki, el, nu, wa, wo, pg, ga, sh, mki, mel, mto, mio, mwy, mme, mhs, mso, msr, mrs, mce, mcp, R, C, op, (thM R C op), slots, ap, rr, rd, (ctF kinds (thM R C op)), al, kinds, elders, numbers, waf, wof, sp, sg, shf, asked, fi, 0, hwb, tof, iof, wyf, mef, hsf, sof, srf, rsf, cef, cpf, pool, abs, ivmk rfl hRL hWY hPO hMS⟩)
    · exact absurd hd1 (by rw [hx2, wi_nI hj2 (by omega), hs2]; decide)
  · show X φ k n ((o, oMain pl th pg ga sh (asked + trM (kinds j1)) fi) :: (pl, oPlan (nI R) (nI C) (bI op) (nI (thM R C op)) ap rr rd sl) :: (sl, aI g 40 slots) :: (th, oThings pl ki el nu (nI (ctF kinds (thM R C op))) al wa wo) :: (ki, aI g 40 kinds) :: (el, aI g 40 elders) :: (nu, aI g 40 numbers) :: (wa, aJ g 12 waf) :: (wo, aJ g 12 wof) :: (pg, oGrid (nI R) (nI C) sp.1 sp.2.1 sp.2.2) :: (ga, oGrid sg.1 sg.2.1 sg.2.2.1 sg.2.2.2.1 sg.2.2.2.2) :: (sh, aS g 3 shf) :: (mo, oModel tn fi asked (nI R) (nI C) (bI op) mki mel mto mio mwy (bI hwb) mme mhs mso msr mrs mce mcp) :: (mki, aI g 40 kinds) :: (mel, aI g 40 elders) :: (mto, aI g 25 tof) :: (mio, aZ g 40 iof) :: (mwy, aI g 4096 wyf) :: (mme, aZ g 36 mef) :: (mhs, aZ g 3 hsf) :: (mso, aI g 3 sof) :: (msr, aI g 3 srf) :: (mrs, aI g 12 rsf) :: (mce, aI g 480 cef) :: (mcp, aI g 40 cpf) :: pool) [(0, .ref b), (1, .ref o), (2, .ref mo), (3, .int (nI ii))] 369 [.int ((lush (opF al waf wof (xs ((ii + 2))) (ctF kinds (thM R C op))) (slots j1) &&& 1).toInt32)]
    refine X_aload_n K0 2 dL_law_369 rfl rfl ?_
    refine X_aload_n K0 0 dL_law_370 rfl rfl ?_
    refine X_iload_n K0 3 dL_law_371 rfl rfl ?_
    refine X_iconst (v := 1) K0 dL_law_372 (by decide) ?_
    refine X_iadd K0 dL_law_373 ?_
    refine X_v (z := (nI (ii + 1))) (nI_add ii 1) ?_
    refine X_sld K0 hsc (by omega) hLn dL_law_374 ?_
    refine X_aload_n K0 0 dL_law_375 rfl rfl ?_
    refine X_iload_n K0 3 dL_law_376 rfl rfl ?_
    refine X_iconst (v := 2) K0 dL_law_377 (by decide) ?_
    refine X_iadd K0 dL_law_378 ?_
    refine X_v (z := (nI (ii + 2))) (nI_add ii 2) ?_
    refine X_sld K0 hsc (by omega) hLn dL_law_379 ?_
    refine X_callV (As := [.int (xs ((ii + 1))), .int (xs ((ii + 2)))]) (rest := [.int ((lush (opF al waf wof (xs ((ii + 2))) (ctF kinds (thM R C op))) (slots j1) &&& 1).toInt32)]) K0 12 (m_opens g (o, oMain pl th pg ga sh (asked + trM (kinds j1)) fi) (pl, oPlan (nI R) (nI C) (bI op) (nI (thM R C op)) ap rr rd sl) (sl, aI g 40 slots) (th, oThings pl ki el nu (nI (ctF kinds (thM R C op))) al wa wo) (ki, aI g 40 kinds) (el, aI g 40 elders) (nu, aI g 40 numbers) (wa, aJ g 12 waf) (wo, aJ g 12 wof) (pg, oGrid (nI R) (nI C) sp.1 sp.2.1 sp.2.2) (ga, oGrid sg.1 sg.2.1 sg.2.2.1 sg.2.2.2.1 sg.2.2.2.2) (sh, aS g 3 shf) mo mki mel mto mio mwy mme mhs mso msr mrs mce mcp tn fi asked R C op hwb kinds elders tof iof wyf mef hsf sof srf rsf cef cpf pool hR hC hKI (xs ((ii + 1))) (xs ((ii + 2)))) mi_X5_opens rfl rfl rfl ml_RL_39 rfl (Nat.le_of_ble_eq_true rfl) (by decide) ⟨by omega, by omega⟩ rfl rfl dL_law_380 ?_
    intro v w' hr'; rcases hr' with ⟨hd2, rfl, rfl⟩ | ⟨j2, hj2, hx2, hs2, rfl, rfl⟩
    · exact absurd hd2 (by rw [hx1, wi_nI hj1 (by omega), hs1]; decide)
    · obtain rfl : j1 = j2 := nI_e40 (hx1.symm.trans hx2) (by omega) (by omega)
      have hp4 := pow_m hm
      obtain ⟨s1, hs3, hs4⟩ := wi_of hs1 (by omega)
      show X φ k n ((o, oMain pl th pg ga sh (asked + trM (kinds j1)) fi) :: (pl, oPlan (nI R) (nI C) (bI op) (nI (thM R C op)) ap rr rd sl) :: (sl, aI g 40 slots) :: (th, oThings pl ki el nu (nI (ctF kinds (thM R C op))) al wa wo) :: (ki, aI g 40 kinds) :: (el, aI g 40 elders) :: (nu, aI g 40 numbers) :: (wa, aJ g 12 waf) :: (wo, aJ g 12 wof) :: (pg, oGrid (nI R) (nI C) sp.1 sp.2.1 sp.2.2) :: (ga, oGrid sg.1 sg.2.1 sg.2.2.1 sg.2.2.2.1 sg.2.2.2.2) :: (sh, aS g 3 shf) :: (mo, oModel 0 fi (asked + trM (kinds j1)) (nI R) (nI C) (bI op) mki mel mto mio mwy (bI hwb) mme mhs mso msr mrs mce mcp) :: (mki, aI g 40 kinds) :: (mel, aI g 40 elders) :: (mto, aI g 25 tof) :: (mio, aZ g 40 iof) :: (mwy, aI g 4096 wyf) :: (mme, aZ g 36 mef) :: (mhs, aZ g 3 hsf) :: (mso, aI g 3 sof) :: (msr, aI g 3 srf) :: (mrs, aI g 12 rsf) :: (mce, aI g 480 cef) :: (mcp, aI g 40 cpf) :: pool) [(0, .ref b), (1, .ref o), (2, .ref mo), (3, .int (nI ii))] 383 [.int (bI (obM kinds elders j1 (xs ((ii + 2))))), .int ((lush (opF al waf wof (xs ((ii + 2))) (ctF kinds (thM R C op))) (slots j1) &&& 1).toInt32)]
      refine X_icmp_eq K0 1101 dL_law_383 (by decide) (fun _ => ?_) (fun h => absurd (by rw [hs4]; exact hRL.opens hs3 hj1) h)
      exact X.widen (by omega) (by omega) (next _ ⟨pl, sl, th, ki, el, nu, wa, wo, pg, ga, sh, mki, mel, mto, mio, mwy, mme, mhs, mso, msr, mrs, mce, mcp, R, C, op, (thM R C op), slots, ap, rr, rd, (ctF kinds (thM R C op)), al, kinds, elders, numbers, waf, wof, sp, sg, shf, (asked + trM (kinds j1)), fi, 0, hwb, tof, iof, wyf, mef, hsf, sof, srf, rsf, cef, cpf, pool, abs, ivmk rfl hRL hWY hPO hMS⟩)
