/-- what holds between two calls -/
def IVw (g : Gx) (o mo : Nat) (w : va_W) (pl sl th ki el nu wa wo pg ga sh mki mel mto mio mwy mme mhs mso msr mrs mce mcp : Nat) (R C : Nat) (op : Bool) (T : Nat) (slots : Nat → Int32) (ap rr rd : Int32) (m : Nat) (al : Int64) (kinds elders numbers : Nat → Int32) (waf wof : Nat → Int64) (sp : Sp3) (sg : Sp5) (shf : Nat → Option Nat) (asked : Int64) (fi tn : Int32) (hwb : Bool) (tof iof wyf mef hsf sof srf rsf cef cpf : Nat → Int32) (pool : va_W) (abs : Nat → SH) : Prop := ((o, oMain pl th pg ga sh asked fi) :: (pl, oPlan (nI R) (nI C) (bI op) (nI T) ap rr rd sl) :: (sl, aI g 40 slots) :: (th, oThings pl ki el nu (nI m) al wa wo) :: (ki, aI g 40 kinds) :: (el, aI g 40 elders) :: (nu, aI g 40 numbers) :: (wa, aJ g 12 waf) :: (wo, aJ g 12 wof) :: (pg, oGrid (nI R) (nI C) sp.1 sp.2.1 sp.2.2) :: (ga, oGrid sg.1 sg.2.1 sg.2.2.1 sg.2.2.2.1 sg.2.2.2.2) :: (sh, aS g 3 shf) :: (mo, oModel tn fi asked (nI R) (nI C) (bI op) mki mel mto mio mwy (bI hwb) mme mhs mso msr mrs mce mcp) :: (mki, aI g 40 kinds) :: (mel, aI g 40 elders) :: (mto, aI g 25 tof) :: (mio, aZ g 40 iof) :: (mwy, aI g 4096 wyf) :: (mme, aZ g 36 mef) :: (mhs, aZ g 3 hsf) :: (mso, aI g 3 sof) :: (msr, aI g 3 srf) :: (mrs, aI g 12 rsf) :: (mce, aI g 480 cef) :: (mcp, aI g 40 cpf) :: pool) = w ∧ RL2 R C op kinds elders T slots ap rr rd numbers m al waf wof ∧ WY R C op kinds elders hwb wyf ∧ PO g pool shf abs ∧ MSh abs hsf sof srf rsf cef
theorem ivmk {g : Gx} {o mo : Nat} {w : va_W} {pl sl th ki el nu wa wo pg ga sh mki mel mto mio mwy mme mhs mso msr mrs mce mcp : Nat} {R C : Nat} {op : Bool} {T : Nat} {slots : Nat → Int32} {ap rr rd : Int32} {m : Nat} {al : Int64} {kinds elders numbers : Nat → Int32} {waf wof : Nat → Int64} {sp : Sp3} {sg : Sp5} {shf : Nat → Option Nat} {asked : Int64} {fi tn : Int32} {hwb : Bool} {tof iof wyf mef hsf sof srf rsf cef cpf : Nat → Int32} {pool : va_W} {abs : Nat → SH} (h1 : ((o, oMain pl th pg ga sh asked fi) :: (pl, oPlan (nI R) (nI C) (bI op) (nI T) ap rr rd sl) :: (sl, aI g 40 slots) :: (th, oThings pl ki el nu (nI m) al wa wo) :: (ki, aI g 40 kinds) :: (el, aI g 40 elders) :: (nu, aI g 40 numbers) :: (wa, aJ g 12 waf) :: (wo, aJ g 12 wof) :: (pg, oGrid (nI R) (nI C) sp.1 sp.2.1 sp.2.2) :: (ga, oGrid sg.1 sg.2.1 sg.2.2.1 sg.2.2.2.1 sg.2.2.2.2) :: (sh, aS g 3 shf) :: (mo, oModel tn fi asked (nI R) (nI C) (bI op) mki mel mto mio mwy (bI hwb) mme mhs mso msr mrs mce mcp) :: (mki, aI g 40 kinds) :: (mel, aI g 40 elders) :: (mto, aI g 25 tof) :: (mio, aZ g 40 iof) :: (mwy, aI g 4096 wyf) :: (mme, aZ g 36 mef) :: (mhs, aZ g 3 hsf) :: (mso, aI g 3 sof) :: (msr, aI g 3 srf) :: (mrs, aI g 12 rsf) :: (mce, aI g 480 cef) :: (mcp, aI g 40 cpf) :: pool) = w) (h2 : RL2 R C op kinds elders T slots ap rr rd numbers m al waf wof) (h3 : WY R C op kinds elders hwb wyf) (h4 : PO g pool shf abs) (h5 : MSh abs hsf sof srf rsf cef) : IVw g o mo w pl sl th ki el nu wa wo pg ga sh mki mel mto mio mwy mme mhs mso msr mrs mce mcp R C op T slots ap rr rd m al kinds elders numbers waf wof sp sg shf asked fi tn hwb tof iof wyf mef hsf sof srf rsf cef cpf pool abs := ⟨h1, h2, h3, h4, h5⟩
def IV (g : Gx) (o mo : Nat) (w : va_W) : Prop := ∃ (pl sl th ki el nu wa wo pg ga sh mki mel mto mio mwy mme mhs mso msr mrs mce mcp : Nat) (R C : Nat) (op : Bool) (T : Nat) (slots : Nat → Int32) (ap rr rd : Int32) (m : Nat) (al : Int64) (kinds elders numbers : Nat → Int32) (waf wof : Nat → Int64) (sp : Sp3) (sg : Sp5) (shf : Nat → Option Nat) (asked : Int64) (fi tn : Int32) (hwb : Bool) (tof iof wyf mef hsf sof srf rsf cef cpf : Nat → Int32) (pool : va_W) (abs : Nat → SH), IVw g o mo w pl sl th ki el nu wa wo pg ga sh mki mel mto mio mwy mme mhs mso msr mrs mce mcp R C op T slots ap rr rd m al kinds elders numbers waf wof sp sg shf asked fi tn hwb tof iof wyf mef hsf sof srf rsf cef cpf pool abs

set_option maxRecDepth 20000 in
set_option maxHeartbeats 400000 in
theorem law_3 {φ : Fx} {g : Gx} {nm : String} {b Ln qB o mo ii k n : Nat} {xs : Nat → Int32} {w : va_W} (K0 : Cx φ g ⟨RL, nm, ""⟩ cL_law 4 9 328 600000 7302250) (hsc : Sc φ b Ln xs) (hB : Sb φ qB) (hii : ii + 8 ≤ Ln) (hLn : Ln ≤ 4096) (hk : k + 2 ≤ 600000) (hn : n + 40 ≤ 7302250) (hI : IV g o mo w) (next : ∀ w', IV g o mo w' → X φ (k + 2) (n + 40) w' [(0, .ref b), (1, .ref o), (2, .ref mo), (3, .int (nI ii))] 1101 []) : X φ k n w [(0, .ref b), (1, .ref o), (2, .ref mo), (3, .int (nI ii))] 299 [] := by
  obtain ⟨pl, sl, th, ki, el, nu, wa, wo, pg, ga, sh, mki, mel, mto, mio, mwy, mme, mhs, mso, msr, mrs, mce, mcp, R, C, op, T, slots, ap, rr, rd, m, al, kinds, elders, numbers, waf, wof, sp, sg, shf, asked, fi, tn, hwb, tof, iof, wyf, mef, hsf, sof, srf, rsf, cef, cpf, pool, abs, hIVw⟩ := hI
  obtain ⟨rfl, hRL, hWY, hPO, hMS⟩ := hIVw
  have hTe := hRL.2.2.1
  have hme := hRL.meq
  subst hTe
  subst hme
  have hR := hRL.1
  have hC := hRL.2.1
  have hKI := hRL.2.2.2.2.2.2.2.1
  have hDV := hRL.2.2.2.2.2.2.2.2
  have hT := th_M (op := op) hR hC
  have hm := hKI.2
  show X φ k n ((o, oMain pl th pg ga sh asked fi) :: (pl, oPlan (nI R) (nI C) (bI op) (nI (thM R C op)) ap rr rd sl) :: (sl, aI g 40 slots) :: (th, oThings pl ki el nu (nI (ctF kinds (thM R C op))) al wa wo) :: (ki, aI g 40 kinds) :: (el, aI g 40 elders) :: (nu, aI g 40 numbers) :: (wa, aJ g 12 waf) :: (wo, aJ g 12 wof) :: (pg, oGrid (nI R) (nI C) sp.1 sp.2.1 sp.2.2) :: (ga, oGrid sg.1 sg.2.1 sg.2.2.1 sg.2.2.2.1 sg.2.2.2.2) :: (sh, aS g 3 shf) :: (mo, oModel tn fi asked (nI R) (nI C) (bI op) mki mel mto mio mwy (bI hwb) mme mhs mso msr mrs mce mcp) :: (mki, aI g 40 kinds) :: (mel, aI g 40 elders) :: (mto, aI g 25 tof) :: (mio, aZ g 40 iof) :: (mwy, aI g 4096 wyf) :: (mme, aZ g 36 mef) :: (mhs, aZ g 3 hsf) :: (mso, aI g 3 sof) :: (msr, aI g 3 srf) :: (mrs, aI g 12 rsf) :: (mce, aI g 480 cef) :: (mcp, aI g 40 cpf) :: pool) [(0, .ref b), (1, .ref o), (2, .ref mo), (3, .int (nI ii))] 299 []
  refine X_aload_n K0 1 dL_law_299 rfl rfl ?_
  refine X_aload_n K0 0 dL_law_300 rfl rfl ?_
  refine X_iload_n K0 3 dL_law_301 rfl rfl ?_
  refine X_iconst (v := 1) K0 dL_law_302 (by decide) ?_
  refine X_iadd K0 dL_law_303 ?_
  refine X_v (z := (nI (ii + 1))) (nI_add ii 1) ?_
  refine X_sld K0 hsc (by omega) hLn dL_law_304 ?_
  refine X_aload_n K0 0 dL_law_305 rfl rfl ?_
  refine X_iload_n K0 3 dL_law_306 rfl rfl ?_
  refine X_iconst (v := 2) K0 dL_law_307 (by decide) ?_
  refine X_iadd K0 dL_law_308 ?_
  refine X_v (z := (nI (ii + 2))) (nI_add ii 2) ?_
  refine X_sld K0 hsc (by omega) hLn dL_law_309 ?_
  refine X_callV (As := [.int (xs ((ii + 1))), .int (xs ((ii + 2)))]) (rest := []) K0 0 (c_about g o pl sl th ki el nu wa wo pg ga sh R C op (thM R C op) slots ap rr rd (ctF kinds (thM R C op)) al kinds elders numbers waf wof sp sg shf asked fi ((mo, oModel tn fi asked (nI R) (nI C) (bI op) mki mel mto mio mwy (bI hwb) mme mhs mso msr mrs mce mcp) :: (mki, aI g 40 kinds) :: (mel, aI g 40 elders) :: (mto, aI g 25 tof) :: (mio, aZ g 40 iof) :: (mwy, aI g 4096 wyf) :: (mme, aZ g 36 mef) :: (mhs, aZ g 3 hsf) :: (mso, aI g 3 sof) :: (msr, aI g 3 srf) :: (mrs, aI g 12 rsf) :: (mce, aI g 480 cef) :: (mcp, aI g 40 cpf) :: pool) hR hC hT hm (xs ((ii + 1))) (xs ((ii + 2)))) mi_X4_about rfl rfl rfl ml_RL_27 rfl (Nat.le_of_ble_eq_true rfl) (by decide) ⟨by omega, by omega⟩ rfl rfl dL_law_310 ?_
  intro v w' hr'; obtain ⟨rfl, rfl⟩ := hr'
  show X φ k n ((o, oMain pl th pg ga sh asked fi) :: (pl, oPlan (nI R) (nI C) (bI op) (nI (thM R C op)) ap rr rd sl) :: (sl, aI g 40 slots) :: (th, oThings pl ki el nu (nI (ctF kinds (thM R C op))) al wa wo) :: (ki, aI g 40 kinds) :: (el, aI g 40 elders) :: (nu, aI g 40 numbers) :: (wa, aJ g 12 waf) :: (wo, aJ g 12 wof) :: (pg, oGrid (nI R) (nI C) sp.1 sp.2.1 sp.2.2) :: (ga, oGrid sg.1 sg.2.1 sg.2.2.1 sg.2.2.2.1 sg.2.2.2.2) :: (sh, aS g 3 shf) :: (mo, oModel tn fi asked (nI R) (nI C) (bI op) mki mel mto mio mwy (bI hwb) mme mhs mso msr mrs mce mcp) :: (mki, aI g 40 kinds) :: (mel, aI g 40 elders) :: (mto, aI g 25 tof) :: (mio, aZ g 40 iof) :: (mwy, aI g 4096 wyf) :: (mme, aZ g 36 mef) :: (mhs, aZ g 3 hsf) :: (mso, aI g 3 sof) :: (msr, aI g 3 srf) :: (mrs, aI g 12 rsf) :: (mce, aI g 480 cef) :: (mcp, aI g 40 cpf) :: pool) [(0, .ref b), (1, .ref o), (2, .ref mo), (3, .int (nI ii))] 313 [.int (abV (thM R C op) kinds elders numbers slots op (nI C) (xs ((ii + 1))) (xs ((ii + 2))))]
  refine X_aload_n K0 2 dL_law_313 rfl rfl ?_
  refine X_aload_n K0 0 dL_law_314 rfl rfl ?_
  refine X_iload_n K0 3 dL_law_315 rfl rfl ?_
  refine X_iconst (v := 1) K0 dL_law_316 (by decide) ?_
  refine X_iadd K0 dL_law_317 ?_
  refine X_v (z := (nI (ii + 1))) (nI_add ii 1) ?_
  refine X_sld K0 hsc (by omega) hLn dL_law_318 ?_
  refine X_aload_n K0 0 dL_law_319 rfl rfl ?_
  refine X_iload_n K0 3 dL_law_320 rfl rfl ?_
  refine X_iconst (v := 2) K0 dL_law_321 (by decide) ?_
  refine X_iadd K0 dL_law_322 ?_
  refine X_v (z := (nI (ii + 2))) (nI_add ii 2) ?_
  refine X_sld K0 hsc (by omega) hLn dL_law_323 ?_
  refine X_callV (As := [.int (xs ((ii + 1))), .int (xs ((ii + 2)))]) (rest := [.int (abV (thM R C op) kinds elders numbers slots op (nI C) (xs ((ii + 1))) (xs ((ii + 2))))]) K0 12 (m_about g (o, oMain pl th pg ga sh asked fi) (pl, oPlan (nI R) (nI C) (bI op) (nI (thM R C op)) ap rr rd sl) (sl, aI g 40 slots) (th, oThings pl ki el nu (nI (ctF kinds (thM R C op))) al wa wo) (ki, aI g 40 kinds) (el, aI g 40 elders) (nu, aI g 40 numbers) (wa, aJ g 12 waf) (wo, aJ g 12 wof) (pg, oGrid (nI R) (nI C) sp.1 sp.2.1 sp.2.2) (ga, oGrid sg.1 sg.2.1 sg.2.2.1 sg.2.2.2.1 sg.2.2.2.2) (sh, aS g 3 shf) mo mki mel mto mio mwy mme mhs mso msr mrs mce mcp tn fi asked R C op hwb kinds elders tof iof wyf mef hsf sof srf rsf cef cpf pool hR hC (xs ((ii + 1))) (xs ((ii + 2)))) mi_X5_about rfl rfl rfl ml_RL_30 rfl (Nat.le_of_ble_eq_true rfl) (by decide) ⟨by omega, by omega⟩ rfl rfl dL_law_324 ?_
  intro v w' hr'; obtain ⟨rfl, rfl⟩ := hr'
  show X φ k n ((o, oMain pl th pg ga sh asked fi) :: (pl, oPlan (nI R) (nI C) (bI op) (nI (thM R C op)) ap rr rd sl) :: (sl, aI g 40 slots) :: (th, oThings pl ki el nu (nI (ctF kinds (thM R C op))) al wa wo) :: (ki, aI g 40 kinds) :: (el, aI g 40 elders) :: (nu, aI g 40 numbers) :: (wa, aJ g 12 waf) :: (wo, aJ g 12 wof) :: (pg, oGrid (nI R) (nI C) sp.1 sp.2.1 sp.2.2) :: (ga, oGrid sg.1 sg.2.1 sg.2.2.1 sg.2.2.2.1 sg.2.2.2.2) :: (sh, aS g 3 shf) :: (mo, oModel 0 fi asked (nI R) (nI C) (bI op) mki mel mto mio mwy (bI hwb) mme mhs mso msr mrs mce mcp) :: (mki, aI g 40 kinds) :: (mel, aI g 40 elders) :: (mto, aI g 25 tof) :: (mio, aZ g 40 iof) :: (mwy, aI g 4096 wyf) :: (mme, aZ g 36 mef) :: (mhs, aZ g 3 hsf) :: (mso, aI g 3 sof) :: (msr, aI g 3 srf) :: (mrs, aI g 12 rsf) :: (mce, aI g 480 cef) :: (mcp, aI g 40 cpf) :: pool) [(0, .ref b), (1, .ref o), (2, .ref mo), (3, .int (nI ii))] 327 [.int (abM R C op kinds elders (xs ((ii + 1))) (xs ((ii + 2)))), .int (abV (thM R C op) kinds elders numbers slots op (nI C) (xs ((ii + 1))) (xs ((ii + 2))))]
  refine X_icmp_eq K0 1101 dL_law_327 (by decide) (fun _ => ?_) (fun h => absurd (hRL.about _ _) h)
  exact X.widen (by omega) (by omega) (next _ ⟨pl, sl, th, ki, el, nu, wa, wo, pg, ga, sh, mki, mel, mto, mio, mwy, mme, mhs, mso, msr, mrs, mce, mcp, R, C, op, (thM R C op), slots, ap, rr, rd, (ctF kinds (thM R C op)), al, kinds, elders, numbers, waf, wof, sp, sg, shf, asked, fi, 0, hwb, tof, iof, wyf, mef, hsf, sof, srf, rsf, cef, cpf, pool, abs, ivmk rfl hRL hWY hPO hMS⟩)

set_option maxRecDepth 20000 in
set_option maxHeartbeats 400000 in
theorem law_4 {φ : Fx} {g : Gx} {nm : String} {b Ln qB o mo ii k n : Nat} {xs : Nat → Int32} {w : va_W} (K0 : Cx φ g ⟨RL, nm, ""⟩ cL_law 4 9 328 600000 7302250) (hsc : Sc φ b Ln xs) (hB : Sb φ qB) (hii : ii + 8 ≤ Ln) (hLn : Ln ≤ 4096) (hk : k + 2 ≤ 600000) (hn : n + 40 ≤ 7302250) (hI : IV g o mo w) (next : ∀ w', IV g o mo w' → X φ (k + 2) (n + 40) w' [(0, .ref b), (1, .ref o), (2, .ref mo), (3, .int (nI ii))] 1101 []) : X φ k n w [(0, .ref b), (1, .ref o), (2, .ref mo), (3, .int (nI ii))] 332 [] := by
  obtain ⟨pl, sl, th, ki, el, nu, wa, wo, pg, ga, sh, mki, mel, mto, mio, mwy, mme, mhs, mso, msr, mrs, mce, mcp, R, C, op, T, slots, ap, rr, rd, m, al, kinds, elders, numbers, waf, wof, sp, sg, shf, asked, fi, tn, hwb, tof, iof, wyf, mef, hsf, sof, srf, rsf, cef, cpf, pool, abs, hIVw⟩ := hI
  obtain ⟨rfl, hRL, hWY, hPO, hMS⟩ := hIVw
  have hTe := hRL.2.2.1
  have hme := hRL.meq
  subst hTe
  subst hme
  have hR := hRL.1
  have hC := hRL.2.1
  have hKI := hRL.2.2.2.2.2.2.2.1
  have hDV := hRL.2.2.2.2.2.2.2.2
  have hT := th_M (op := op) hR hC
  have hm := hKI.2
  show X φ k n ((o, oMain pl th pg ga sh asked fi) :: (pl, oPlan (nI R) (nI C) (bI op) (nI (thM R C op)) ap rr rd sl) :: (sl, aI g 40 slots) :: (th, oThings pl ki el nu (nI (ctF kinds (thM R C op))) al wa wo) :: (ki, aI g 40 kinds) :: (el, aI g 40 elders) :: (nu, aI g 40 numbers) :: (wa, aJ g 12 waf) :: (wo, aJ g 12 wof) :: (pg, oGrid (nI R) (nI C) sp.1 sp.2.1 sp.2.2) :: (ga, oGrid sg.1 sg.2.1 sg.2.2.1 sg.2.2.2.1 sg.2.2.2.2) :: (sh, aS g 3 shf) :: (mo, oModel tn fi asked (nI R) (nI C) (bI op) mki mel mto mio mwy (bI hwb) mme mhs mso msr mrs mce mcp) :: (mki, aI g 40 kinds) :: (mel, aI g 40 elders) :: (mto, aI g 25 tof) :: (mio, aZ g 40 iof) :: (mwy, aI g 4096 wyf) :: (mme, aZ g 36 mef) :: (mhs, aZ g 3 hsf) :: (mso, aI g 3 sof) :: (msr, aI g 3 srf) :: (mrs, aI g 12 rsf) :: (mce, aI g 480 cef) :: (mcp, aI g 40 cpf) :: pool) [(0, .ref b), (1, .ref o), (2, .ref mo), (3, .int (nI ii))] 332 []
  refine X_aload_n K0 1 dL_law_332 rfl rfl ?_
  refine X_aload_n K0 0 dL_law_333 rfl rfl ?_
  refine X_iload_n K0 3 dL_law_334 rfl rfl ?_
  refine X_iconst (v := 1) K0 dL_law_335 (by decide) ?_
  refine X_iadd K0 dL_law_336 ?_
  refine X_v (z := (nI (ii + 1))) (nI_add ii 1) ?_
  refine X_sld K0 hsc (by omega) hLn dL_law_337 ?_
  refine X_callV (As := [.int (xs ((ii + 1)))]) (rest := []) K0 0 (c_told g o pl sl th ki el nu wa wo pg ga sh R C op (thM R C op) slots ap rr rd (ctF kinds (thM R C op)) al kinds elders numbers waf wof sp sg shf asked fi ((mo, oModel tn fi asked (nI R) (nI C) (bI op) mki mel mto mio mwy (bI hwb) mme mhs mso msr mrs mce mcp) :: (mki, aI g 40 kinds) :: (mel, aI g 40 elders) :: (mto, aI g 25 tof) :: (mio, aZ g 40 iof) :: (mwy, aI g 4096 wyf) :: (mme, aZ g 36 mef) :: (mhs, aZ g 3 hsf) :: (mso, aI g 3 sof) :: (msr, aI g 3 srf) :: (mrs, aI g 12 rsf) :: (mce, aI g 480 cef) :: (mcp, aI g 40 cpf) :: pool) hR hC hT hm (xs ((ii + 1)))) mi_X4_told rfl rfl rfl ml_RL_31 rfl (Nat.le_of_ble_eq_true rfl) (by decide) ⟨by omega, by omega⟩ rfl rfl dL_law_338 ?_
  intro v w' hr'; obtain ⟨rfl, rfl⟩ := hr'
  show X φ k n ((o, oMain pl th pg ga sh asked fi) :: (pl, oPlan (nI R) (nI C) (bI op) (nI (thM R C op)) ap rr rd sl) :: (sl, aI g 40 slots) :: (th, oThings pl ki el nu (nI (ctF kinds (thM R C op))) al wa wo) :: (ki, aI g 40 kinds) :: (el, aI g 40 elders) :: (nu, aI g 40 numbers) :: (wa, aJ g 12 waf) :: (wo, aJ g 12 wof) :: (pg, oGrid (nI R) (nI C) sp.1 sp.2.1 sp.2.2) :: (ga, oGrid sg.1 sg.2.1 sg.2.2.1 sg.2.2.2.1 sg.2.2.2.2) :: (sh, aS g 3 shf) :: (mo, oModel tn fi asked (nI R) (nI C) (bI op) mki mel mto mio mwy (bI hwb) mme mhs mso msr mrs mce mcp) :: (mki, aI g 40 kinds) :: (mel, aI g 40 elders) :: (mto, aI g 25 tof) :: (mio, aZ g 40 iof) :: (mwy, aI g 4096 wyf) :: (mme, aZ g 36 mef) :: (mhs, aZ g 3 hsf) :: (mso, aI g 3 sof) :: (msr, aI g 3 srf) :: (mrs, aI g 12 rsf) :: (mce, aI g 480 cef) :: (mcp, aI g 40 cpf) :: pool) [(0, .ref b), (1, .ref o), (2, .ref mo), (3, .int (nI ii))] 341 [.int (toV R C op (thM R C op) (ctF kinds (thM R C op)) elders (xs ((ii + 1))))]
  refine X_aload_n K0 2 dL_law_341 rfl rfl ?_
  refine X_aload_n K0 0 dL_law_342 rfl rfl ?_
  refine X_iload_n K0 3 dL_law_343 rfl rfl ?_
  refine X_iconst (v := 1) K0 dL_law_344 (by decide) ?_
  refine X_iadd K0 dL_law_345 ?_
  refine X_v (z := (nI (ii + 1))) (nI_add ii 1) ?_
  refine X_sld K0 hsc (by omega) hLn dL_law_346 ?_
  refine X_callV (As := [.int (xs ((ii + 1)))]) (rest := [.int (toV R C op (thM R C op) (ctF kinds (thM R C op)) elders (xs ((ii + 1))))]) K0 12 (m_told g (o, oMain pl th pg ga sh asked fi) (pl, oPlan (nI R) (nI C) (bI op) (nI (thM R C op)) ap rr rd sl) (sl, aI g 40 slots) (th, oThings pl ki el nu (nI (ctF kinds (thM R C op))) al wa wo) (ki, aI g 40 kinds) (el, aI g 40 elders) (nu, aI g 40 numbers) (wa, aJ g 12 waf) (wo, aJ g 12 wof) (pg, oGrid (nI R) (nI C) sp.1 sp.2.1 sp.2.2) (ga, oGrid sg.1 sg.2.1 sg.2.2.1 sg.2.2.2.1 sg.2.2.2.2) (sh, aS g 3 shf) mo mki mel mto mio mwy mme mhs mso msr mrs mce mcp tn fi asked R C op hwb kinds elders tof iof wyf mef hsf sof srf rsf cef cpf pool hR hC (xs ((ii + 1)))) mi_X5_told rfl rfl rfl ml_RL_35 rfl (Nat.le_of_ble_eq_true rfl) (by decide) ⟨by omega, by omega⟩ rfl rfl dL_law_347 ?_
  intro v w' hr'; obtain ⟨rfl, rfl⟩ := hr'
  show X φ k n ((o, oMain pl th pg ga sh asked fi) :: (pl, oPlan (nI R) (nI C) (bI op) (nI (thM R C op)) ap rr rd sl) :: (sl, aI g 40 slots) :: (th, oThings pl ki el nu (nI (ctF kinds (thM R C op))) al wa wo) :: (ki, aI g 40 kinds) :: (el, aI g 40 elders) :: (nu, aI g 40 numbers) :: (wa, aJ g 12 waf) :: (wo, aJ g 12 wof) :: (pg, oGrid (nI R) (nI C) sp.1 sp.2.1 sp.2.2) :: (ga, oGrid sg.1 sg.2.1 sg.2.2.1 sg.2.2.2.1 sg.2.2.2.2) :: (sh, aS g 3 shf) :: (mo, oModel 0 fi asked (nI R) (nI C) (bI op) mki mel mto mio mwy (bI hwb) mme mhs mso msr mrs mce mcp) :: (mki, aI g 40 kinds) :: (mel, aI g 40 elders) :: (mto, aI g 25 tof) :: (mio, aZ g 40 iof) :: (mwy, aI g 4096 wyf) :: (mme, aZ g 36 mef) :: (mhs, aZ g 3 hsf) :: (mso, aI g 3 sof) :: (msr, aI g 3 srf) :: (mrs, aI g 12 rsf) :: (mce, aI g 480 cef) :: (mcp, aI g 40 cpf) :: pool) [(0, .ref b), (1, .ref o), (2, .ref mo), (3, .int (nI ii))] 350 [.int (toM R C op kinds (xs ((ii + 1)))), .int (toV R C op (thM R C op) (ctF kinds (thM R C op)) elders (xs ((ii + 1))))]
  refine X_icmp_eq K0 1101 dL_law_350 (by decide) (fun _ => ?_) (fun h => absurd (hRL.told _) h)
  exact X.widen (by omega) (by omega) (next _ ⟨pl, sl, th, ki, el, nu, wa, wo, pg, ga, sh, mki, mel, mto, mio, mwy, mme, mhs, mso, msr, mrs, mce, mcp, R, C, op, (thM R C op), slots, ap, rr, rd, (ctF kinds (thM R C op)), al, kinds, elders, numbers, waf, wof, sp, sg, shf, asked, fi, 0, hwb, tof, iof, wyf, mef, hsf, sof, srf, rsf, cef, cpf, pool, abs, ivmk rfl hRL hWY hPO hMS⟩)

set_option maxRecDepth 20000 in
set_option maxHeartbeats 400000 in
theorem law_6 {φ : Fx} {g : Gx} {nm : String} {b Ln qB o mo ii k n : Nat} {xs : Nat → Int32} {w : va_W} (K0 : Cx φ g ⟨RL, nm, ""⟩ cL_law 4 9 328 600000 7302250) (hsc : Sc φ b Ln xs) (hB : Sb φ qB) (hii : ii + 8 ≤ Ln) (hLn : Ln ≤ 4096) (hk : k + 2 ≤ 600000) (hn : n + 40 ≤ 7302250) (hI : IV g o mo w) (next : ∀ w', IV g o mo w' → X φ (k + 2) (n + 40) w' [(0, .ref b), (1, .ref o), (2, .ref mo), (3, .int (nI ii))] 1101 []) : X φ k n w [(0, .ref b), (1, .ref o), (2, .ref mo), (3, .int (nI ii))] 388 [] := by
  obtain ⟨pl, sl, th, ki, el, nu, wa, wo, pg, ga, sh, mki, mel, mto, mio, mwy, mme, mhs, mso, msr, mrs, mce, mcp, R, C, op, T, slots, ap, rr, rd, m, al, kinds, elders, numbers, waf, wof, sp, sg, shf, asked, fi, tn, hwb, tof, iof, wyf, mef, hsf, sof, srf, rsf, cef, cpf, pool, abs, hIVw⟩ := hI
  obtain ⟨rfl, hRL, hWY, hPO, hMS⟩ := hIVw
  have hTe := hRL.2.2.1
  have hme := hRL.meq
  subst hTe
  subst hme
  have hR := hRL.1
  have hC := hRL.2.1
  have hKI := hRL.2.2.2.2.2.2.2.1
  have hDV := hRL.2.2.2.2.2.2.2.2
  have hT := th_M (op := op) hR hC
  have hm := hKI.2
  show X φ k n ((o, oMain pl th pg ga sh asked fi) :: (pl, oPlan (nI R) (nI C) (bI op) (nI (thM R C op)) ap rr rd sl) :: (sl, aI g 40 slots) :: (th, oThings pl ki el nu (nI (ctF kinds (thM R C op))) al wa wo) :: (ki, aI g 40 kinds) :: (el, aI g 40 elders) :: (nu, aI g 40 numbers) :: (wa, aJ g 12 waf) :: (wo, aJ g 12 wof) :: (pg, oGrid (nI R) (nI C) sp.1 sp.2.1 sp.2.2) :: (ga, oGrid sg.1 sg.2.1 sg.2.2.1 sg.2.2.2.1 sg.2.2.2.2) :: (sh, aS g 3 shf) :: (mo, oModel tn fi asked (nI R) (nI C) (bI op) mki mel mto mio mwy (bI hwb) mme mhs mso msr mrs mce mcp) :: (mki, aI g 40 kinds) :: (mel, aI g 40 elders) :: (mto, aI g 25 tof) :: (mio, aZ g 40 iof) :: (mwy, aI g 4096 wyf) :: (mme, aZ g 36 mef) :: (mhs, aZ g 3 hsf) :: (mso, aI g 3 sof) :: (msr, aI g 3 srf) :: (mrs, aI g 12 rsf) :: (mce, aI g 480 cef) :: (mcp, aI g 40 cpf) :: pool) [(0, .ref b), (1, .ref o), (2, .ref mo), (3, .int (nI ii))] 388 []
  refine X_aload_n K0 1 dL_law_388 rfl rfl ?_
  refine X_aload_n K0 0 dL_law_389 rfl rfl ?_
  refine X_iload_n K0 3 dL_law_390 rfl rfl ?_
  refine X_iconst (v := 1) K0 dL_law_391 (by decide) ?_
  refine X_iadd K0 dL_law_392 ?_
  refine X_v (z := (nI (ii + 1))) (nI_add ii 1) ?_
  refine X_sld K0 hsc (by omega) hLn dL_law_393 ?_
  refine X_aload_n K0 0 dL_law_394 rfl rfl ?_
  refine X_iload_n K0 3 dL_law_395 rfl rfl ?_
  refine X_iconst (v := 2) K0 dL_law_396 (by decide) ?_
  refine X_iadd K0 dL_law_397 ?_
  refine X_v (z := (nI (ii + 2))) (nI_add ii 2) ?_
  refine X_sld K0 hsc (by omega) hLn dL_law_398 ?_
  refine X_callV (As := [.int (xs ((ii + 1))), .int (xs ((ii + 2)))]) (rest := []) K0 0 (c_through g o pl sl th ki el nu wa wo pg ga sh R C op (thM R C op) slots ap rr rd (ctF kinds (thM R C op)) al kinds elders numbers waf wof sp sg shf asked fi ((mo, oModel tn fi asked (nI R) (nI C) (bI op) mki mel mto mio mwy (bI hwb) mme mhs mso msr mrs mce mcp) :: (mki, aI g 40 kinds) :: (mel, aI g 40 elders) :: (mto, aI g 25 tof) :: (mio, aZ g 40 iof) :: (mwy, aI g 4096 wyf) :: (mme, aZ g 36 mef) :: (mhs, aZ g 3 hsf) :: (mso, aI g 3 sof) :: (msr, aI g 3 srf) :: (mrs, aI g 12 rsf) :: (mce, aI g 480 cef) :: (mcp, aI g 40 cpf) :: pool) hR hC hT hm (xs ((ii + 1))) (xs ((ii + 2)))) mi_X4_through rfl rfl rfl ml_RL_40 rfl (Nat.le_of_ble_eq_true rfl) (by decide) ⟨by omega, by omega⟩ rfl rfl dL_law_399 ?_
  intro v w' hr'; obtain ⟨rfl, sp1, rfl⟩ := hr'
  show X φ k n ((o, oMain pl th pg ga sh asked fi) :: (pl, oPlan (nI R) (nI C) (bI op) (nI (thM R C op)) ap rr rd sl) :: (sl, aI g 40 slots) :: (th, oThings pl ki el nu (nI (ctF kinds (thM R C op))) al wa wo) :: (ki, aI g 40 kinds) :: (el, aI g 40 elders) :: (nu, aI g 40 numbers) :: (wa, aJ g 12 waf) :: (wo, aJ g 12 wof) :: (pg, oGrid (nI R) (nI C) sp1.1 sp1.2.1 sp1.2.2) :: (ga, oGrid sg.1 sg.2.1 sg.2.2.1 sg.2.2.2.1 sg.2.2.2.2) :: (sh, aS g 3 shf) :: (mo, oModel tn fi asked (nI R) (nI C) (bI op) mki mel mto mio mwy (bI hwb) mme mhs mso msr mrs mce mcp) :: (mki, aI g 40 kinds) :: (mel, aI g 40 elders) :: (mto, aI g 25 tof) :: (mio, aZ g 40 iof) :: (mwy, aI g 4096 wyf) :: (mme, aZ g 36 mef) :: (mhs, aZ g 3 hsf) :: (mso, aI g 3 sof) :: (msr, aI g 3 srf) :: (mrs, aI g 12 rsf) :: (mce, aI g 480 cef) :: (mcp, aI g 40 cpf) :: pool) [(0, .ref b), (1, .ref o), (2, .ref mo), (3, .int (nI ii))] 402 [.int (thV R C op ap rr rd al waf wof (ctF kinds (thM R C op)) (xs ((ii + 1))) (xs ((ii + 2))))]
  refine X_aload_n K0 2 dL_law_402 rfl rfl ?_
  refine X_aload_n K0 0 dL_law_403 rfl rfl ?_
  refine X_iload_n K0 3 dL_law_404 rfl rfl ?_
  refine X_iconst (v := 1) K0 dL_law_405 (by decide) ?_
  refine X_iadd K0 dL_law_406 ?_
  refine X_v (z := (nI (ii + 1))) (nI_add ii 1) ?_
  refine X_sld K0 hsc (by omega) hLn dL_law_407 ?_
  refine X_aload_n K0 0 dL_law_408 rfl rfl ?_
  refine X_iload_n K0 3 dL_law_409 rfl rfl ?_
  refine X_iconst (v := 2) K0 dL_law_410 (by decide) ?_
  refine X_iadd K0 dL_law_411 ?_
  refine X_v (z := (nI (ii + 2))) (nI_add ii 2) ?_
  refine X_sld K0 hsc (by omega) hLn dL_law_412 ?_
  refine X_callV (As := [.int (xs ((ii + 1))), .int (xs ((ii + 2)))]) (rest := [.int (thV R C op ap rr rd al waf wof (ctF kinds (thM R C op)) (xs ((ii + 1))) (xs ((ii + 2))))]) K0 12 (m_through g (o, oMain pl th pg ga sh asked fi) (pl, oPlan (nI R) (nI C) (bI op) (nI (thM R C op)) ap rr rd sl) (sl, aI g 40 slots) (th, oThings pl ki el nu (nI (ctF kinds (thM R C op))) al wa wo) (ki, aI g 40 kinds) (el, aI g 40 elders) (nu, aI g 40 numbers) (wa, aJ g 12 waf) (wo, aJ g 12 wof) (pg, oGrid (nI R) (nI C) sp1.1 sp1.2.1 sp1.2.2) (ga, oGrid sg.1 sg.2.1 sg.2.2.1 sg.2.2.2.1 sg.2.2.2.2) (sh, aS g 3 shf) mo mki mel mto mio mwy mme mhs mso msr mrs mce mcp tn fi asked R C op hwb kinds elders tof iof wyf mef hsf sof srf rsf cef cpf pool hR hC hKI hWY (xs ((ii + 1))) (xs ((ii + 2)))) mi_X5_through rfl rfl rfl ml_RL_43 rfl (Nat.le_of_ble_eq_true rfl) (by decide) ⟨by omega, by omega⟩ rfl rfl dL_law_413 ?_
  intro v w' hr'; obtain ⟨rfl, tq, iq, wq, mq, hq, hWY2, rfl⟩ := hr'
  show X φ k n ((o, oMain pl th pg ga sh asked fi) :: (pl, oPlan (nI R) (nI C) (bI op) (nI (thM R C op)) ap rr rd sl) :: (sl, aI g 40 slots) :: (th, oThings pl ki el nu (nI (ctF kinds (thM R C op))) al wa wo) :: (ki, aI g 40 kinds) :: (el, aI g 40 elders) :: (nu, aI g 40 numbers) :: (wa, aJ g 12 waf) :: (wo, aJ g 12 wof) :: (pg, oGrid (nI R) (nI C) sp1.1 sp1.2.1 sp1.2.2) :: (ga, oGrid sg.1 sg.2.1 sg.2.2.1 sg.2.2.2.1 sg.2.2.2.2) :: (sh, aS g 3 shf) :: (mo, oModel 0 fi asked (nI R) (nI C) (bI op) mki mel mto mio mwy (bI hq) mme mhs mso msr mrs mce mcp) :: (mki, aI g 40 kinds) :: (mel, aI g 40 elders) :: (mto, aI g 25 tq) :: (mio, aZ g 40 iq) :: (mwy, aI g 4096 wq) :: (mme, aZ g 36 mq) :: (mhs, aZ g 3 hsf) :: (mso, aI g 3 sof) :: (msr, aI g 3 srf) :: (mrs, aI g 12 rsf) :: (mce, aI g 480 cef) :: (mcp, aI g 40 cpf) :: pool) [(0, .ref b), (1, .ref o), (2, .ref mo), (3, .int (nI ii))] 416 [.int (thVM R C op kinds elders (xs ((ii + 1))) (xs ((ii + 2)))), .int (thV R C op ap rr rd al waf wof (ctF kinds (thM R C op)) (xs ((ii + 1))) (xs ((ii + 2))))]
  refine X_icmp_eq K0 1101 dL_law_416 (by decide) (fun _ => ?_) (fun h => absurd (hRL.through _ _) h)
  exact X.widen (by omega) (by omega) (next _ ⟨pl, sl, th, ki, el, nu, wa, wo, pg, ga, sh, mki, mel, mto, mio, mwy, mme, mhs, mso, msr, mrs, mce, mcp, R, C, op, (thM R C op), slots, ap, rr, rd, (ctF kinds (thM R C op)), al, kinds, elders, numbers, waf, wof, sp1, sg, shf, asked, fi, 0, hq, tq, iq, wq, mq, hsf, sof, srf, rsf, cef, cpf, pool, abs, ivmk rfl hRL hWY2 hPO hMS⟩)

set_option maxRecDepth 20000 in
set_option maxHeartbeats 400000 in
theorem law_8 {φ : Fx} {g : Gx} {nm : String} {b Ln qB o mo ii k n : Nat} {xs : Nat → Int32} {w : va_W} (K0 : Cx φ g ⟨RL, nm, ""⟩ cL_law 4 9 328 600000 7302250) (hsc : Sc φ b Ln xs) (hB : Sb φ qB) (hii : ii + 8 ≤ Ln) (hLn : Ln ≤ 4096) (hk : k + 2 ≤ 600000) (hn : n + 40 ≤ 7302250) (hI : IV g o mo w) (next : ∀ w', IV g o mo w' → X φ (k + 2) (n + 40) w' [(0, .ref b), (1, .ref o), (2, .ref mo), (3, .int (nI ii))] 1101 []) : X φ k n w [(0, .ref b), (1, .ref o), (2, .ref mo), (3, .int (nI ii))] 454 [] := by
  obtain ⟨pl, sl, th, ki, el, nu, wa, wo, pg, ga, sh, mki, mel, mto, mio, mwy, mme, mhs, mso, msr, mrs, mce, mcp, R, C, op, T, slots, ap, rr, rd, m, al, kinds, elders, numbers, waf, wof, sp, sg, shf, asked, fi, tn, hwb, tof, iof, wyf, mef, hsf, sof, srf, rsf, cef, cpf, pool, abs, hIVw⟩ := hI
  obtain ⟨rfl, hRL, hWY, hPO, hMS⟩ := hIVw
  have hTe := hRL.2.2.1
  have hme := hRL.meq
  subst hTe
  subst hme
  have hR := hRL.1
  have hC := hRL.2.1
  have hKI := hRL.2.2.2.2.2.2.2.1
  have hDV := hRL.2.2.2.2.2.2.2.2
  have hT := th_M (op := op) hR hC
  have hm := hKI.2
  show X φ k n ((o, oMain pl th pg ga sh asked fi) :: (pl, oPlan (nI R) (nI C) (bI op) (nI (thM R C op)) ap rr rd sl) :: (sl, aI g 40 slots) :: (th, oThings pl ki el nu (nI (ctF kinds (thM R C op))) al wa wo) :: (ki, aI g 40 kinds) :: (el, aI g 40 elders) :: (nu, aI g 40 numbers) :: (wa, aJ g 12 waf) :: (wo, aJ g 12 wof) :: (pg, oGrid (nI R) (nI C) sp.1 sp.2.1 sp.2.2) :: (ga, oGrid sg.1 sg.2.1 sg.2.2.1 sg.2.2.2.1 sg.2.2.2.2) :: (sh, aS g 3 shf) :: (mo, oModel tn fi asked (nI R) (nI C) (bI op) mki mel mto mio mwy (bI hwb) mme mhs mso msr mrs mce mcp) :: (mki, aI g 40 kinds) :: (mel, aI g 40 elders) :: (mto, aI g 25 tof) :: (mio, aZ g 40 iof) :: (mwy, aI g 4096 wyf) :: (mme, aZ g 36 mef) :: (mhs, aZ g 3 hsf) :: (mso, aI g 3 sof) :: (msr, aI g 3 srf) :: (mrs, aI g 12 rsf) :: (mce, aI g 480 cef) :: (mcp, aI g 40 cpf) :: pool) [(0, .ref b), (1, .ref o), (2, .ref mo), (3, .int (nI ii))] 454 []
  refine X_aload_n K0 1 dL_law_454 rfl rfl ?_
  refine X_aload_n K0 0 dL_law_455 rfl rfl ?_
  refine X_iload_n K0 3 dL_law_456 rfl rfl ?_
  refine X_iconst (v := 1) K0 dL_law_457 (by decide) ?_
  refine X_iadd K0 dL_law_458 ?_
  refine X_v (z := (nI (ii + 1))) (nI_add ii 1) ?_
  refine X_sld K0 hsc (by omega) hLn dL_law_459 ?_
  refine X_aload_n K0 0 dL_law_460 rfl rfl ?_
  refine X_iload_n K0 3 dL_law_461 rfl rfl ?_
  refine X_iconst (v := 2) K0 dL_law_462 (by decide) ?_
  refine X_iadd K0 dL_law_463 ?_
  refine X_v (z := (nI (ii + 2))) (nI_add ii 2) ?_
  refine X_sld K0 hsc (by omega) hLn dL_law_464 ?_
  refine X_callV (As := [.int (xs ((ii + 1))), .int (xs ((ii + 2)))]) (rest := []) K0 0 (c_heap g o pl sl th ki el nu wa wo pg ga sh R C op (thM R C op) slots ap rr rd (ctF kinds (thM R C op)) al kinds elders numbers waf wof sp sg shf asked fi ((mo, oModel tn fi asked (nI R) (nI C) (bI op) mki mel mto mio mwy (bI hwb) mme mhs mso msr mrs mce mcp) :: (mki, aI g 40 kinds) :: (mel, aI g 40 elders) :: (mto, aI g 25 tof) :: (mio, aZ g 40 iof) :: (mwy, aI g 4096 wyf) :: (mme, aZ g 36 mef) :: (mhs, aZ g 3 hsf) :: (mso, aI g 3 sof) :: (msr, aI g 3 srf) :: (mrs, aI g 12 rsf) :: (mce, aI g 480 cef) :: (mcp, aI g 40 cpf) :: pool) hR hC hT hm (xs ((ii + 1))) (xs ((ii + 2)))) mi_X4_heap rfl rfl rfl ml_RL_48 rfl (Nat.le_of_ble_eq_true rfl) (by decide) ⟨by omega, by omega⟩ rfl rfl dL_law_465 ?_
  intro v w' hr'; obtain ⟨rfl, sp1, rfl⟩ := hr'
  show X φ k n ((o, oMain pl th pg ga sh asked fi) :: (pl, oPlan (nI R) (nI C) (bI op) (nI (thM R C op)) ap rr rd sl) :: (sl, aI g 40 slots) :: (th, oThings pl ki el nu (nI (ctF kinds (thM R C op))) al wa wo) :: (ki, aI g 40 kinds) :: (el, aI g 40 elders) :: (nu, aI g 40 numbers) :: (wa, aJ g 12 waf) :: (wo, aJ g 12 wof) :: (pg, oGrid (nI R) (nI C) sp1.1 sp1.2.1 sp1.2.2) :: (ga, oGrid sg.1 sg.2.1 sg.2.2.1 sg.2.2.2.1 sg.2.2.2.2) :: (sh, aS g 3 shf) :: (mo, oModel tn fi asked (nI R) (nI C) (bI op) mki mel mto mio mwy (bI hwb) mme mhs mso msr mrs mce mcp) :: (mki, aI g 40 kinds) :: (mel, aI g 40 elders) :: (mto, aI g 25 tof) :: (mio, aZ g 40 iof) :: (mwy, aI g 4096 wyf) :: (mme, aZ g 36 mef) :: (mhs, aZ g 3 hsf) :: (mso, aI g 3 sof) :: (msr, aI g 3 srf) :: (mrs, aI g 12 rsf) :: (mce, aI g 480 cef) :: (mcp, aI g 40 cpf) :: pool) [(0, .ref b), (1, .ref o), (2, .ref mo), (3, .int (nI ii))] 468 [.int (hpV R C op ap rr rd al waf wof (ctF kinds (thM R C op)) (xs ((ii + 1))) (xs ((ii + 2))))]
  refine X_aload_n K0 2 dL_law_468 rfl rfl ?_
  refine X_aload_n K0 0 dL_law_469 rfl rfl ?_
  refine X_iload_n K0 3 dL_law_470 rfl rfl ?_
  refine X_iconst (v := 1) K0 dL_law_471 (by decide) ?_
  refine X_iadd K0 dL_law_472 ?_
  refine X_v (z := (nI (ii + 1))) (nI_add ii 1) ?_
  refine X_sld K0 hsc (by omega) hLn dL_law_473 ?_
  refine X_aload_n K0 0 dL_law_474 rfl rfl ?_
  refine X_iload_n K0 3 dL_law_475 rfl rfl ?_
  refine X_iconst (v := 2) K0 dL_law_476 (by decide) ?_
  refine X_iadd K0 dL_law_477 ?_
  refine X_v (z := (nI (ii + 2))) (nI_add ii 2) ?_
  refine X_sld K0 hsc (by omega) hLn dL_law_478 ?_
  refine X_callV (As := [.int (xs ((ii + 1))), .int (xs ((ii + 2)))]) (rest := [.int (hpV R C op ap rr rd al waf wof (ctF kinds (thM R C op)) (xs ((ii + 1))) (xs ((ii + 2))))]) K0 12 (m_heap g (o, oMain pl th pg ga sh asked fi) (pl, oPlan (nI R) (nI C) (bI op) (nI (thM R C op)) ap rr rd sl) (sl, aI g 40 slots) (th, oThings pl ki el nu (nI (ctF kinds (thM R C op))) al wa wo) (ki, aI g 40 kinds) (el, aI g 40 elders) (nu, aI g 40 numbers) (wa, aJ g 12 waf) (wo, aJ g 12 wof) (pg, oGrid (nI R) (nI C) sp1.1 sp1.2.1 sp1.2.2) (ga, oGrid sg.1 sg.2.1 sg.2.2.1 sg.2.2.2.1 sg.2.2.2.2) (sh, aS g 3 shf) mo mki mel mto mio mwy mme mhs mso msr mrs mce mcp tn fi asked R C op hwb kinds elders tof iof wyf mef hsf sof srf rsf cef cpf pool hR hC hKI hWY (xs ((ii + 1))) (xs ((ii + 2)))) mi_X5_heap rfl rfl rfl ml_RL_51 rfl (Nat.le_of_ble_eq_true rfl) (by decide) ⟨by omega, by omega⟩ rfl rfl dL_law_479 ?_
  intro v w' hr'; obtain ⟨rfl, tq, iq, wq, mq, hq, hWY2, rfl⟩ := hr'
  show X φ k n ((o, oMain pl th pg ga sh asked fi) :: (pl, oPlan (nI R) (nI C) (bI op) (nI (thM R C op)) ap rr rd sl) :: (sl, aI g 40 slots) :: (th, oThings pl ki el nu (nI (ctF kinds (thM R C op))) al wa wo) :: (ki, aI g 40 kinds) :: (el, aI g 40 elders) :: (nu, aI g 40 numbers) :: (wa, aJ g 12 waf) :: (wo, aJ g 12 wof) :: (pg, oGrid (nI R) (nI C) sp1.1 sp1.2.1 sp1.2.2) :: (ga, oGrid sg.1 sg.2.1 sg.2.2.1 sg.2.2.2.1 sg.2.2.2.2) :: (sh, aS g 3 shf) :: (mo, oModel 0 fi asked (nI R) (nI C) (bI op) mki mel mto mio mwy (bI hq) mme mhs mso msr mrs mce mcp) :: (mki, aI g 40 kinds) :: (mel, aI g 40 elders) :: (mto, aI g 25 tq) :: (mio, aZ g 40 iq) :: (mwy, aI g 4096 wq) :: (mme, aZ g 36 mq) :: (mhs, aZ g 3 hsf) :: (mso, aI g 3 sof) :: (msr, aI g 3 srf) :: (mrs, aI g 12 rsf) :: (mce, aI g 480 cef) :: (mcp, aI g 40 cpf) :: pool) [(0, .ref b), (1, .ref o), (2, .ref mo), (3, .int (nI ii))] 482 [.int (hpVM R C op kinds elders (xs ((ii + 1))) (xs ((ii + 2)))), .int (hpV R C op ap rr rd al waf wof (ctF kinds (thM R C op)) (xs ((ii + 1))) (xs ((ii + 2))))]
  refine X_icmp_eq K0 1101 dL_law_482 (by decide) (fun _ => ?_) (fun h => absurd (hRL.heap _ _) h)
  exact X.widen (by omega) (by omega) (next _ ⟨pl, sl, th, ki, el, nu, wa, wo, pg, ga, sh, mki, mel, mto, mio, mwy, mme, mhs, mso, msr, mrs, mce, mcp, R, C, op, (thM R C op), slots, ap, rr, rd, (ctF kinds (thM R C op)), al, kinds, elders, numbers, waf, wof, sp1, sg, shf, asked, fi, 0, hq, tq, iq, wq, mq, hsf, sof, srf, rsf, cef, cpf, pool, abs, ivmk rfl hRL hWY2 hPO hMS⟩)

set_option maxRecDepth 20000 in
set_option maxHeartbeats 400000 in
theorem law_9 {φ : Fx} {g : Gx} {nm : String} {b Ln qB o mo ii k n : Nat} {xs : Nat → Int32} {w : va_W} (K0 : Cx φ g ⟨RL, nm, ""⟩ cL_law 4 9 328 600000 7302250) (hsc : Sc φ b Ln xs) (hB : Sb φ qB) (hii : ii + 8 ≤ Ln) (hLn : Ln ≤ 4096) (hk : k + 2 ≤ 600000) (hn : n + 40 ≤ 7302250) (hI : IV g o mo w) (next : ∀ w', IV g o mo w' → X φ (k + 2) (n + 40) w' [(0, .ref b), (1, .ref o), (2, .ref mo), (3, .int (nI ii))] 1101 []) : X φ k n w [(0, .ref b), (1, .ref o), (2, .ref mo), (3, .int (nI ii))] 487 [] := by
  obtain ⟨pl, sl, th, ki, el, nu, wa, wo, pg, ga, sh, mki, mel, mto, mio, mwy, mme, mhs, mso, msr, mrs, mce, mcp, R, C, op, T, slots, ap, rr, rd, m, al, kinds, elders, numbers, waf, wof, sp, sg, shf, asked, fi, tn, hwb, tof, iof, wyf, mef, hsf, sof, srf, rsf, cef, cpf, pool, abs, hIVw⟩ := hI
  obtain ⟨rfl, hRL, hWY, hPO, hMS⟩ := hIVw
  have hTe := hRL.2.2.1
  have hme := hRL.meq
  subst hTe
  subst hme
  have hR := hRL.1
  have hC := hRL.2.1
  have hKI := hRL.2.2.2.2.2.2.2.1
  have hDV := hRL.2.2.2.2.2.2.2.2
  have hT := th_M (op := op) hR hC
  have hm := hKI.2
  show X φ k n ((o, oMain pl th pg ga sh asked fi) :: (pl, oPlan (nI R) (nI C) (bI op) (nI (thM R C op)) ap rr rd sl) :: (sl, aI g 40 slots) :: (th, oThings pl ki el nu (nI (ctF kinds (thM R C op))) al wa wo) :: (ki, aI g 40 kinds) :: (el, aI g 40 elders) :: (nu, aI g 40 numbers) :: (wa, aJ g 12 waf) :: (wo, aJ g 12 wof) :: (pg, oGrid (nI R) (nI C) sp.1 sp.2.1 sp.2.2) :: (ga, oGrid sg.1 sg.2.1 sg.2.2.1 sg.2.2.2.1 sg.2.2.2.2) :: (sh, aS g 3 shf) :: (mo, oModel tn fi asked (nI R) (nI C) (bI op) mki mel mto mio mwy (bI hwb) mme mhs mso msr mrs mce mcp) :: (mki, aI g 40 kinds) :: (mel, aI g 40 elders) :: (mto, aI g 25 tof) :: (mio, aZ g 40 iof) :: (mwy, aI g 4096 wyf) :: (mme, aZ g 36 mef) :: (mhs, aZ g 3 hsf) :: (mso, aI g 3 sof) :: (msr, aI g 3 srf) :: (mrs, aI g 12 rsf) :: (mce, aI g 480 cef) :: (mcp, aI g 40 cpf) :: pool) [(0, .ref b), (1, .ref o), (2, .ref mo), (3, .int (nI ii))] 487 []
  refine X_aload_n K0 1 dL_law_487 rfl rfl ?_
  refine X_aload_n K0 0 dL_law_488 rfl rfl ?_
  refine X_iload_n K0 3 dL_law_489 rfl rfl ?_
  refine X_iconst (v := 1) K0 dL_law_490 (by decide) ?_
  refine X_iadd K0 dL_law_491 ?_
  refine X_v (z := (nI (ii + 1))) (nI_add ii 1) ?_
  refine X_sld K0 hsc (by omega) hLn dL_law_492 ?_
  refine X_aload_n K0 0 dL_law_493 rfl rfl ?_
  refine X_iload_n K0 3 dL_law_494 rfl rfl ?_
  refine X_iconst (v := 2) K0 dL_law_495 (by decide) ?_
  refine X_iadd K0 dL_law_496 ?_
  refine X_v (z := (nI (ii + 2))) (nI_add ii 2) ?_
  refine X_sld K0 hsc (by omega) hLn dL_law_497 ?_
  refine X_callV (As := [.int (xs ((ii + 1))), .int (xs ((ii + 2)))]) (rest := []) K0 0 (c_heaps g o pl sl th ki el nu wa wo pg ga sh R C op (thM R C op) slots ap rr rd (ctF kinds (thM R C op)) al kinds elders numbers waf wof sp sg shf asked fi ((mo, oModel tn fi asked (nI R) (nI C) (bI op) mki mel mto mio mwy (bI hwb) mme mhs mso msr mrs mce mcp) :: (mki, aI g 40 kinds) :: (mel, aI g 40 elders) :: (mto, aI g 25 tof) :: (mio, aZ g 40 iof) :: (mwy, aI g 4096 wyf) :: (mme, aZ g 36 mef) :: (mhs, aZ g 3 hsf) :: (mso, aI g 3 sof) :: (msr, aI g 3 srf) :: (mrs, aI g 12 rsf) :: (mce, aI g 480 cef) :: (mcp, aI g 40 cpf) :: pool) hR hC hT hm (xs ((ii + 1))) (xs ((ii + 2)))) mi_X4_heaps rfl rfl rfl ml_RL_52 rfl (Nat.le_of_ble_eq_true rfl) (by decide) ⟨by omega, by omega⟩ rfl rfl dL_law_498 ?_
  intro v w' hr'; obtain ⟨rfl, sp1, rfl⟩ := hr'
  show X φ k n ((o, oMain pl th pg ga sh asked fi) :: (pl, oPlan (nI R) (nI C) (bI op) (nI (thM R C op)) ap rr rd sl) :: (sl, aI g 40 slots) :: (th, oThings pl ki el nu (nI (ctF kinds (thM R C op))) al wa wo) :: (ki, aI g 40 kinds) :: (el, aI g 40 elders) :: (nu, aI g 40 numbers) :: (wa, aJ g 12 waf) :: (wo, aJ g 12 wof) :: (pg, oGrid (nI R) (nI C) sp1.1 sp1.2.1 sp1.2.2) :: (ga, oGrid sg.1 sg.2.1 sg.2.2.1 sg.2.2.2.1 sg.2.2.2.2) :: (sh, aS g 3 shf) :: (mo, oModel tn fi asked (nI R) (nI C) (bI op) mki mel mto mio mwy (bI hwb) mme mhs mso msr mrs mce mcp) :: (mki, aI g 40 kinds) :: (mel, aI g 40 elders) :: (mto, aI g 25 tof) :: (mio, aZ g 40 iof) :: (mwy, aI g 4096 wyf) :: (mme, aZ g 36 mef) :: (mhs, aZ g 3 hsf) :: (mso, aI g 3 sof) :: (msr, aI g 3 srf) :: (mrs, aI g 12 rsf) :: (mce, aI g 480 cef) :: (mcp, aI g 40 cpf) :: pool) [(0, .ref b), (1, .ref o), (2, .ref mo), (3, .int (nI ii))] 501 [.int (hsV C op ap rr rd al waf wof (ctF kinds (thM R C op)) (xs ((ii + 1))) (xs ((ii + 2))))]
  refine X_aload_n K0 2 dL_law_501 rfl rfl ?_
  refine X_aload_n K0 0 dL_law_502 rfl rfl ?_
  refine X_iload_n K0 3 dL_law_503 rfl rfl ?_
  refine X_iconst (v := 1) K0 dL_law_504 (by decide) ?_
  refine X_iadd K0 dL_law_505 ?_
  refine X_v (z := (nI (ii + 1))) (nI_add ii 1) ?_
  refine X_sld K0 hsc (by omega) hLn dL_law_506 ?_
  refine X_aload_n K0 0 dL_law_507 rfl rfl ?_
  refine X_iload_n K0 3 dL_law_508 rfl rfl ?_
  refine X_iconst (v := 2) K0 dL_law_509 (by decide) ?_
  refine X_iadd K0 dL_law_510 ?_
  refine X_v (z := (nI (ii + 2))) (nI_add ii 2) ?_
  refine X_sld K0 hsc (by omega) hLn dL_law_511 ?_
  refine X_callV (As := [.int (xs ((ii + 1))), .int (xs ((ii + 2)))]) (rest := [.int (hsV C op ap rr rd al waf wof (ctF kinds (thM R C op)) (xs ((ii + 1))) (xs ((ii + 2))))]) K0 12 (m_heaps g (o, oMain pl th pg ga sh asked fi) (pl, oPlan (nI R) (nI C) (bI op) (nI (thM R C op)) ap rr rd sl) (sl, aI g 40 slots) (th, oThings pl ki el nu (nI (ctF kinds (thM R C op))) al wa wo) (ki, aI g 40 kinds) (el, aI g 40 elders) (nu, aI g 40 numbers) (wa, aJ g 12 waf) (wo, aJ g 12 wof) (pg, oGrid (nI R) (nI C) sp1.1 sp1.2.1 sp1.2.2) (ga, oGrid sg.1 sg.2.1 sg.2.2.1 sg.2.2.2.1 sg.2.2.2.2) (sh, aS g 3 shf) mo mki mel mto mio mwy mme mhs mso msr mrs mce mcp tn fi asked R C op hwb kinds elders tof iof wyf mef hsf sof srf rsf cef cpf pool hR hC hKI hWY (xs ((ii + 1))) (xs ((ii + 2)))) mi_X5_heaps rfl rfl rfl ml_RL_55 rfl (Nat.le_of_ble_eq_true rfl) (by decide) ⟨by omega, by omega⟩ rfl rfl dL_law_512 ?_
  intro v w' hr'; obtain ⟨rfl, tq, iq, wq, mq, hq, hWY2, rfl⟩ := hr'
  show X φ k n ((o, oMain pl th pg ga sh asked fi) :: (pl, oPlan (nI R) (nI C) (bI op) (nI (thM R C op)) ap rr rd sl) :: (sl, aI g 40 slots) :: (th, oThings pl ki el nu (nI (ctF kinds (thM R C op))) al wa wo) :: (ki, aI g 40 kinds) :: (el, aI g 40 elders) :: (nu, aI g 40 numbers) :: (wa, aJ g 12 waf) :: (wo, aJ g 12 wof) :: (pg, oGrid (nI R) (nI C) sp1.1 sp1.2.1 sp1.2.2) :: (ga, oGrid sg.1 sg.2.1 sg.2.2.1 sg.2.2.2.1 sg.2.2.2.2) :: (sh, aS g 3 shf) :: (mo, oModel 0 fi asked (nI R) (nI C) (bI op) mki mel mto mio mwy (bI hq) mme mhs mso msr mrs mce mcp) :: (mki, aI g 40 kinds) :: (mel, aI g 40 elders) :: (mto, aI g 25 tq) :: (mio, aZ g 40 iq) :: (mwy, aI g 4096 wq) :: (mme, aZ g 36 mq) :: (mhs, aZ g 3 hsf) :: (mso, aI g 3 sof) :: (msr, aI g 3 srf) :: (mrs, aI g 12 rsf) :: (mce, aI g 480 cef) :: (mcp, aI g 40 cpf) :: pool) [(0, .ref b), (1, .ref o), (2, .ref mo), (3, .int (nI ii))] 515 [.int (hsVM R C op kinds elders (xs ((ii + 1))) (xs ((ii + 2)))), .int (hsV C op ap rr rd al waf wof (ctF kinds (thM R C op)) (xs ((ii + 1))) (xs ((ii + 2))))]
  refine X_icmp_eq K0 1101 dL_law_515 (by decide) (fun _ => ?_) (fun h => absurd (hRL.heaps _ _) h)
  exact X.widen (by omega) (by omega) (next _ ⟨pl, sl, th, ki, el, nu, wa, wo, pg, ga, sh, mki, mel, mto, mio, mwy, mme, mhs, mso, msr, mrs, mce, mcp, R, C, op, (thM R C op), slots, ap, rr, rd, (ctF kinds (thM R C op)), al, kinds, elders, numbers, waf, wof, sp1, sg, shf, asked, fi, 0, hq, tq, iq, wq, mq, hsf, sof, srf, rsf, cef, cpf, pool, abs, ivmk rfl hRL hWY2 hPO hMS⟩)

set_option maxRecDepth 20000 in
set_option maxHeartbeats 400000 in
theorem law_10 {φ : Fx} {g : Gx} {nm : String} {b Ln qB o mo ii k n : Nat} {xs : Nat → Int32} {w : va_W} (K0 : Cx φ g ⟨RL, nm, ""⟩ cL_law 4 9 328 600000 7302250) (hsc : Sc φ b Ln xs) (hB : Sb φ qB) (hii : ii + 8 ≤ Ln) (hLn : Ln ≤ 4096) (hk : k + 2 ≤ 600000) (hn : n + 40 ≤ 7302250) (hI : IV g o mo w) (next : ∀ w', IV g o mo w' → X φ (k + 2) (n + 40) w' [(0, .ref b), (1, .ref o), (2, .ref mo), (3, .int (nI ii))] 1101 []) : X φ k n w [(0, .ref b), (1, .ref o), (2, .ref mo), (3, .int (nI ii))] 520 [] := by
  obtain ⟨pl, sl, th, ki, el, nu, wa, wo, pg, ga, sh, mki, mel, mto, mio, mwy, mme, mhs, mso, msr, mrs, mce, mcp, R, C, op, T, slots, ap, rr, rd, m, al, kinds, elders, numbers, waf, wof, sp, sg, shf, asked, fi, tn, hwb, tof, iof, wyf, mef, hsf, sof, srf, rsf, cef, cpf, pool, abs, hIVw⟩ := hI
  obtain ⟨rfl, hRL, hWY, hPO, hMS⟩ := hIVw
  have hTe := hRL.2.2.1
  have hme := hRL.meq
  subst hTe
  subst hme
  have hR := hRL.1
  have hC := hRL.2.1
  have hKI := hRL.2.2.2.2.2.2.2.1
  have hDV := hRL.2.2.2.2.2.2.2.2
  have hT := th_M (op := op) hR hC
  have hm := hKI.2
  show X φ k n ((o, oMain pl th pg ga sh asked fi) :: (pl, oPlan (nI R) (nI C) (bI op) (nI (thM R C op)) ap rr rd sl) :: (sl, aI g 40 slots) :: (th, oThings pl ki el nu (nI (ctF kinds (thM R C op))) al wa wo) :: (ki, aI g 40 kinds) :: (el, aI g 40 elders) :: (nu, aI g 40 numbers) :: (wa, aJ g 12 waf) :: (wo, aJ g 12 wof) :: (pg, oGrid (nI R) (nI C) sp.1 sp.2.1 sp.2.2) :: (ga, oGrid sg.1 sg.2.1 sg.2.2.1 sg.2.2.2.1 sg.2.2.2.2) :: (sh, aS g 3 shf) :: (mo, oModel tn fi asked (nI R) (nI C) (bI op) mki mel mto mio mwy (bI hwb) mme mhs mso msr mrs mce mcp) :: (mki, aI g 40 kinds) :: (mel, aI g 40 elders) :: (mto, aI g 25 tof) :: (mio, aZ g 40 iof) :: (mwy, aI g 4096 wyf) :: (mme, aZ g 36 mef) :: (mhs, aZ g 3 hsf) :: (mso, aI g 3 sof) :: (msr, aI g 3 srf) :: (mrs, aI g 12 rsf) :: (mce, aI g 480 cef) :: (mcp, aI g 40 cpf) :: pool) [(0, .ref b), (1, .ref o), (2, .ref mo), (3, .int (nI ii))] 520 []
  refine X_aload_n K0 1 dL_law_520 rfl rfl ?_
  refine X_aload_n K0 0 dL_law_521 rfl rfl ?_
  refine X_iload_n K0 3 dL_law_522 rfl rfl ?_
  refine X_iconst (v := 1) K0 dL_law_523 (by decide) ?_
  refine X_iadd K0 dL_law_524 ?_
  refine X_v (z := (nI (ii + 1))) (nI_add ii 1) ?_
  refine X_sld K0 hsc (by omega) hLn dL_law_525 ?_
  refine X_aload_n K0 0 dL_law_526 rfl rfl ?_
  refine X_iload_n K0 3 dL_law_527 rfl rfl ?_
  refine X_iconst (v := 2) K0 dL_law_528 (by decide) ?_
  refine X_iadd K0 dL_law_529 ?_
  refine X_v (z := (nI (ii + 2))) (nI_add ii 2) ?_
  refine X_sld K0 hsc (by omega) hLn dL_law_530 ?_
  refine X_callV (As := [.int (xs ((ii + 1))), .int (xs ((ii + 2)))]) (rest := []) K0 0 (c_count g o pl sl th ki el nu wa wo pg ga sh R C op (thM R C op) slots ap rr rd (ctF kinds (thM R C op)) al kinds elders numbers waf wof sp sg shf asked fi ((mo, oModel tn fi asked (nI R) (nI C) (bI op) mki mel mto mio mwy (bI hwb) mme mhs mso msr mrs mce mcp) :: (mki, aI g 40 kinds) :: (mel, aI g 40 elders) :: (mto, aI g 25 tof) :: (mio, aZ g 40 iof) :: (mwy, aI g 4096 wyf) :: (mme, aZ g 36 mef) :: (mhs, aZ g 3 hsf) :: (mso, aI g 3 sof) :: (msr, aI g 3 srf) :: (mrs, aI g 12 rsf) :: (mce, aI g 480 cef) :: (mcp, aI g 40 cpf) :: pool) hR hC hT hm (xs ((ii + 1))) (xs ((ii + 2)))) mi_X4_count rfl rfl rfl ml_RL_56 rfl (Nat.le_of_ble_eq_true rfl) (by decide) ⟨by omega, by omega⟩ rfl rfl dL_law_531 ?_
  intro v w' hr'; obtain ⟨rfl, sp1, rfl⟩ := hr'
  show X φ k n ((o, oMain pl th pg ga sh asked fi) :: (pl, oPlan (nI R) (nI C) (bI op) (nI (thM R C op)) ap rr rd sl) :: (sl, aI g 40 slots) :: (th, oThings pl ki el nu (nI (ctF kinds (thM R C op))) al wa wo) :: (ki, aI g 40 kinds) :: (el, aI g 40 elders) :: (nu, aI g 40 numbers) :: (wa, aJ g 12 waf) :: (wo, aJ g 12 wof) :: (pg, oGrid (nI R) (nI C) sp1.1 sp1.2.1 sp1.2.2) :: (ga, oGrid sg.1 sg.2.1 sg.2.2.1 sg.2.2.2.1 sg.2.2.2.2) :: (sh, aS g 3 shf) :: (mo, oModel tn fi asked (nI R) (nI C) (bI op) mki mel mto mio mwy (bI hwb) mme mhs mso msr mrs mce mcp) :: (mki, aI g 40 kinds) :: (mel, aI g 40 elders) :: (mto, aI g 25 tof) :: (mio, aZ g 40 iof) :: (mwy, aI g 4096 wyf) :: (mme, aZ g 36 mef) :: (mhs, aZ g 3 hsf) :: (mso, aI g 3 sof) :: (msr, aI g 3 srf) :: (mrs, aI g 12 rsf) :: (mce, aI g 480 cef) :: (mcp, aI g 40 cpf) :: pool) [(0, .ref b), (1, .ref o), (2, .ref mo), (3, .int (nI ii))] 534 [.int (coV R C op ap rr rd al waf wof (ctF kinds (thM R C op)) (xs ((ii + 1))) (xs ((ii + 2))))]
  refine X_aload_n K0 2 dL_law_534 rfl rfl ?_
  refine X_aload_n K0 0 dL_law_535 rfl rfl ?_
  refine X_iload_n K0 3 dL_law_536 rfl rfl ?_
  refine X_iconst (v := 1) K0 dL_law_537 (by decide) ?_
  refine X_iadd K0 dL_law_538 ?_
  refine X_v (z := (nI (ii + 1))) (nI_add ii 1) ?_
  refine X_sld K0 hsc (by omega) hLn dL_law_539 ?_
  refine X_aload_n K0 0 dL_law_540 rfl rfl ?_
  refine X_iload_n K0 3 dL_law_541 rfl rfl ?_
  refine X_iconst (v := 2) K0 dL_law_542 (by decide) ?_
  refine X_iadd K0 dL_law_543 ?_
  refine X_v (z := (nI (ii + 2))) (nI_add ii 2) ?_
  refine X_sld K0 hsc (by omega) hLn dL_law_544 ?_
  refine X_callV (As := [.int (xs ((ii + 1))), .int (xs ((ii + 2)))]) (rest := [.int (coV R C op ap rr rd al waf wof (ctF kinds (thM R C op)) (xs ((ii + 1))) (xs ((ii + 2))))]) K0 12 (m_count g (o, oMain pl th pg ga sh asked fi) (pl, oPlan (nI R) (nI C) (bI op) (nI (thM R C op)) ap rr rd sl) (sl, aI g 40 slots) (th, oThings pl ki el nu (nI (ctF kinds (thM R C op))) al wa wo) (ki, aI g 40 kinds) (el, aI g 40 elders) (nu, aI g 40 numbers) (wa, aJ g 12 waf) (wo, aJ g 12 wof) (pg, oGrid (nI R) (nI C) sp1.1 sp1.2.1 sp1.2.2) (ga, oGrid sg.1 sg.2.1 sg.2.2.1 sg.2.2.2.1 sg.2.2.2.2) (sh, aS g 3 shf) mo mki mel mto mio mwy mme mhs mso msr mrs mce mcp tn fi asked R C op hwb kinds elders tof iof wyf mef hsf sof srf rsf cef cpf pool hR hC hKI hWY (xs ((ii + 1))) (xs ((ii + 2)))) mi_X5_count rfl rfl rfl ml_RL_59 rfl (Nat.le_of_ble_eq_true rfl) (by decide) ⟨by omega, by omega⟩ rfl rfl dL_law_545 ?_
  intro v w' hr'; obtain ⟨rfl, tq, iq, wq, mq, hq, hWY2, rfl⟩ := hr'
  show X φ k n ((o, oMain pl th pg ga sh asked fi) :: (pl, oPlan (nI R) (nI C) (bI op) (nI (thM R C op)) ap rr rd sl) :: (sl, aI g 40 slots) :: (th, oThings pl ki el nu (nI (ctF kinds (thM R C op))) al wa wo) :: (ki, aI g 40 kinds) :: (el, aI g 40 elders) :: (nu, aI g 40 numbers) :: (wa, aJ g 12 waf) :: (wo, aJ g 12 wof) :: (pg, oGrid (nI R) (nI C) sp1.1 sp1.2.1 sp1.2.2) :: (ga, oGrid sg.1 sg.2.1 sg.2.2.1 sg.2.2.2.1 sg.2.2.2.2) :: (sh, aS g 3 shf) :: (mo, oModel 0 fi asked (nI R) (nI C) (bI op) mki mel mto mio mwy (bI hq) mme mhs mso msr mrs mce mcp) :: (mki, aI g 40 kinds) :: (mel, aI g 40 elders) :: (mto, aI g 25 tq) :: (mio, aZ g 40 iq) :: (mwy, aI g 4096 wq) :: (mme, aZ g 36 mq) :: (mhs, aZ g 3 hsf) :: (mso, aI g 3 sof) :: (msr, aI g 3 srf) :: (mrs, aI g 12 rsf) :: (mce, aI g 480 cef) :: (mcp, aI g 40 cpf) :: pool) [(0, .ref b), (1, .ref o), (2, .ref mo), (3, .int (nI ii))] 548 [.int (coVM R C op kinds elders (xs ((ii + 1))) (xs ((ii + 2)))), .int (coV R C op ap rr rd al waf wof (ctF kinds (thM R C op)) (xs ((ii + 1))) (xs ((ii + 2))))]
  refine X_icmp_eq K0 1101 dL_law_548 (by decide) (fun _ => ?_) (fun h => absurd (hRL.count _ _) h)
  exact X.widen (by omega) (by omega) (next _ ⟨pl, sl, th, ki, el, nu, wa, wo, pg, ga, sh, mki, mel, mto, mio, mwy, mme, mhs, mso, msr, mrs, mce, mcp, R, C, op, (thM R C op), slots, ap, rr, rd, (ctF kinds (thM R C op)), al, kinds, elders, numbers, waf, wof, sp1, sg, shf, asked, fi, 0, hq, tq, iq, wq, mq, hsf, sof, srf, rsf, cef, cpf, pool, abs, ivmk rfl hRL hWY2 hPO hMS⟩)

set_option maxRecDepth 20000 in
set_option maxHeartbeats 400000 in
theorem law_12 {φ : Fx} {g : Gx} {nm : String} {b Ln qB o mo ii k n : Nat} {xs : Nat → Int32} {w : va_W} (K0 : Cx φ g ⟨RL, nm, ""⟩ cL_law 4 9 328 600000 7302250) (hsc : Sc φ b Ln xs) (hB : Sb φ qB) (hii : ii + 8 ≤ Ln) (hLn : Ln ≤ 4096) (hk : k + 2 ≤ 600000) (hn : n + 40 ≤ 7302250) (hI : IV g o mo w) (next : ∀ w', IV g o mo w' → X φ (k + 2) (n + 40) w' [(0, .ref b), (1, .ref o), (2, .ref mo), (3, .int (nI ii))] 1101 []) : X φ k n w [(0, .ref b), (1, .ref o), (2, .ref mo), (3, .int (nI ii))] 586 [] := by
  obtain ⟨pl, sl, th, ki, el, nu, wa, wo, pg, ga, sh, mki, mel, mto, mio, mwy, mme, mhs, mso, msr, mrs, mce, mcp, R, C, op, T, slots, ap, rr, rd, m, al, kinds, elders, numbers, waf, wof, sp, sg, shf, asked, fi, tn, hwb, tof, iof, wyf, mef, hsf, sof, srf, rsf, cef, cpf, pool, abs, hIVw⟩ := hI
  obtain ⟨rfl, hRL, hWY, hPO, hMS⟩ := hIVw
  have hTe := hRL.2.2.1
  have hme := hRL.meq
  subst hTe
  subst hme
  have hR := hRL.1
  have hC := hRL.2.1
  have hKI := hRL.2.2.2.2.2.2.2.1
  have hDV := hRL.2.2.2.2.2.2.2.2
  have hT := th_M (op := op) hR hC
  have hm := hKI.2
  show X φ k n ((o, oMain pl th pg ga sh asked fi) :: (pl, oPlan (nI R) (nI C) (bI op) (nI (thM R C op)) ap rr rd sl) :: (sl, aI g 40 slots) :: (th, oThings pl ki el nu (nI (ctF kinds (thM R C op))) al wa wo) :: (ki, aI g 40 kinds) :: (el, aI g 40 elders) :: (nu, aI g 40 numbers) :: (wa, aJ g 12 waf) :: (wo, aJ g 12 wof) :: (pg, oGrid (nI R) (nI C) sp.1 sp.2.1 sp.2.2) :: (ga, oGrid sg.1 sg.2.1 sg.2.2.1 sg.2.2.2.1 sg.2.2.2.2) :: (sh, aS g 3 shf) :: (mo, oModel tn fi asked (nI R) (nI C) (bI op) mki mel mto mio mwy (bI hwb) mme mhs mso msr mrs mce mcp) :: (mki, aI g 40 kinds) :: (mel, aI g 40 elders) :: (mto, aI g 25 tof) :: (mio, aZ g 40 iof) :: (mwy, aI g 4096 wyf) :: (mme, aZ g 36 mef) :: (mhs, aZ g 3 hsf) :: (mso, aI g 3 sof) :: (msr, aI g 3 srf) :: (mrs, aI g 12 rsf) :: (mce, aI g 480 cef) :: (mcp, aI g 40 cpf) :: pool) [(0, .ref b), (1, .ref o), (2, .ref mo), (3, .int (nI ii))] 586 []
  refine X_aload_n K0 1 dL_law_586 rfl rfl ?_
  refine X_aload_n K0 0 dL_law_587 rfl rfl ?_
  refine X_iload_n K0 3 dL_law_588 rfl rfl ?_
  refine X_iconst (v := 1) K0 dL_law_589 (by decide) ?_
  refine X_iadd K0 dL_law_590 ?_
  refine X_v (z := (nI (ii + 1))) (nI_add ii 1) ?_
  refine X_sld K0 hsc (by omega) hLn dL_law_591 ?_
  refine X_aload_n K0 0 dL_law_592 rfl rfl ?_
  refine X_iload_n K0 3 dL_law_593 rfl rfl ?_
  refine X_iconst (v := 2) K0 dL_law_594 (by decide) ?_
  refine X_iadd K0 dL_law_595 ?_
  refine X_v (z := (nI (ii + 2))) (nI_add ii 2) ?_
  refine X_sld K0 hsc (by omega) hLn dL_law_596 ?_
  refine X_aload_n K0 0 dL_law_597 rfl rfl ?_
  refine X_iload_n K0 3 dL_law_598 rfl rfl ?_
  refine X_iconst (v := 3) K0 dL_law_599 (by decide) ?_
  refine X_iadd K0 dL_law_600 ?_
  refine X_v (z := (nI (ii + 3))) (nI_add ii 3) ?_
  refine X_sld K0 hsc (by omega) hLn dL_law_601 ?_
  refine X_callV (As := [.int (xs ((ii + 1))), .int (xs ((ii + 2))), .int (xs ((ii + 3)))]) (rest := []) K0 0 (c_joined g o pl sl th ki el nu wa wo pg ga sh R C op (thM R C op) slots ap rr rd (ctF kinds (thM R C op)) al kinds elders numbers waf wof sp sg shf asked fi ((mo, oModel tn fi asked (nI R) (nI C) (bI op) mki mel mto mio mwy (bI hwb) mme mhs mso msr mrs mce mcp) :: (mki, aI g 40 kinds) :: (mel, aI g 40 elders) :: (mto, aI g 25 tof) :: (mio, aZ g 40 iof) :: (mwy, aI g 4096 wyf) :: (mme, aZ g 36 mef) :: (mhs, aZ g 3 hsf) :: (mso, aI g 3 sof) :: (msr, aI g 3 srf) :: (mrs, aI g 12 rsf) :: (mce, aI g 480 cef) :: (mcp, aI g 40 cpf) :: pool) hR hC hT hm (xs ((ii + 1))) (xs ((ii + 2))) (xs ((ii + 3)))) mi_X4_joined rfl rfl rfl ml_RL_64 rfl (Nat.le_of_ble_eq_true rfl) (by decide) ⟨by omega, by omega⟩ rfl rfl dL_law_602 ?_
  intro v w' hr'; obtain ⟨rfl, sp1, rfl⟩ := hr'
  show X φ k n ((o, oMain pl th pg ga sh asked fi) :: (pl, oPlan (nI R) (nI C) (bI op) (nI (thM R C op)) ap rr rd sl) :: (sl, aI g 40 slots) :: (th, oThings pl ki el nu (nI (ctF kinds (thM R C op))) al wa wo) :: (ki, aI g 40 kinds) :: (el, aI g 40 elders) :: (nu, aI g 40 numbers) :: (wa, aJ g 12 waf) :: (wo, aJ g 12 wof) :: (pg, oGrid (nI R) (nI C) sp1.1 sp1.2.1 sp1.2.2) :: (ga, oGrid sg.1 sg.2.1 sg.2.2.1 sg.2.2.2.1 sg.2.2.2.2) :: (sh, aS g 3 shf) :: (mo, oModel tn fi asked (nI R) (nI C) (bI op) mki mel mto mio mwy (bI hwb) mme mhs mso msr mrs mce mcp) :: (mki, aI g 40 kinds) :: (mel, aI g 40 elders) :: (mto, aI g 25 tof) :: (mio, aZ g 40 iof) :: (mwy, aI g 4096 wyf) :: (mme, aZ g 36 mef) :: (mhs, aZ g 3 hsf) :: (mso, aI g 3 sof) :: (msr, aI g 3 srf) :: (mrs, aI g 12 rsf) :: (mce, aI g 480 cef) :: (mcp, aI g 40 cpf) :: pool) [(0, .ref b), (1, .ref o), (2, .ref mo), (3, .int (nI ii))] 605 [.int (joV R C op ap rr rd al waf wof (ctF kinds (thM R C op)) (xs ((ii + 1))) (xs ((ii + 2))) (xs ((ii + 3))))]
  refine X_aload_n K0 2 dL_law_605 rfl rfl ?_
  refine X_aload_n K0 0 dL_law_606 rfl rfl ?_
  refine X_iload_n K0 3 dL_law_607 rfl rfl ?_
  refine X_iconst (v := 1) K0 dL_law_608 (by decide) ?_
  refine X_iadd K0 dL_law_609 ?_
  refine X_v (z := (nI (ii + 1))) (nI_add ii 1) ?_
  refine X_sld K0 hsc (by omega) hLn dL_law_610 ?_
  refine X_aload_n K0 0 dL_law_611 rfl rfl ?_
  refine X_iload_n K0 3 dL_law_612 rfl rfl ?_
  refine X_iconst (v := 2) K0 dL_law_613 (by decide) ?_
  refine X_iadd K0 dL_law_614 ?_
  refine X_v (z := (nI (ii + 2))) (nI_add ii 2) ?_
  refine X_sld K0 hsc (by omega) hLn dL_law_615 ?_
  refine X_aload_n K0 0 dL_law_616 rfl rfl ?_
  refine X_iload_n K0 3 dL_law_617 rfl rfl ?_
  refine X_iconst (v := 3) K0 dL_law_618 (by decide) ?_
  refine X_iadd K0 dL_law_619 ?_
  refine X_v (z := (nI (ii + 3))) (nI_add ii 3) ?_
  refine X_sld K0 hsc (by omega) hLn dL_law_620 ?_
  refine X_callV (As := [.int (xs ((ii + 1))), .int (xs ((ii + 2))), .int (xs ((ii + 3)))]) (rest := [.int (joV R C op ap rr rd al waf wof (ctF kinds (thM R C op)) (xs ((ii + 1))) (xs ((ii + 2))) (xs ((ii + 3))))]) K0 12 (m_joined g (o, oMain pl th pg ga sh asked fi) (pl, oPlan (nI R) (nI C) (bI op) (nI (thM R C op)) ap rr rd sl) (sl, aI g 40 slots) (th, oThings pl ki el nu (nI (ctF kinds (thM R C op))) al wa wo) (ki, aI g 40 kinds) (el, aI g 40 elders) (nu, aI g 40 numbers) (wa, aJ g 12 waf) (wo, aJ g 12 wof) (pg, oGrid (nI R) (nI C) sp1.1 sp1.2.1 sp1.2.2) (ga, oGrid sg.1 sg.2.1 sg.2.2.1 sg.2.2.2.1 sg.2.2.2.2) (sh, aS g 3 shf) mo mki mel mto mio mwy mme mhs mso msr mrs mce mcp tn fi asked R C op hwb kinds elders tof iof wyf mef hsf sof srf rsf cef cpf pool hR hC hKI hWY (xs ((ii + 1))) (xs ((ii + 2))) (xs ((ii + 3)))) mi_X5_joined rfl rfl rfl ml_RL_68 rfl (Nat.le_of_ble_eq_true rfl) (by decide) ⟨by omega, by omega⟩ rfl rfl dL_law_621 ?_
  intro v w' hr'; obtain ⟨rfl, tq, iq, wq, mq, hq, hWY2, rfl⟩ := hr'
  show X φ k n ((o, oMain pl th pg ga sh asked fi) :: (pl, oPlan (nI R) (nI C) (bI op) (nI (thM R C op)) ap rr rd sl) :: (sl, aI g 40 slots) :: (th, oThings pl ki el nu (nI (ctF kinds (thM R C op))) al wa wo) :: (ki, aI g 40 kinds) :: (el, aI g 40 elders) :: (nu, aI g 40 numbers) :: (wa, aJ g 12 waf) :: (wo, aJ g 12 wof) :: (pg, oGrid (nI R) (nI C) sp1.1 sp1.2.1 sp1.2.2) :: (ga, oGrid sg.1 sg.2.1 sg.2.2.1 sg.2.2.2.1 sg.2.2.2.2) :: (sh, aS g 3 shf) :: (mo, oModel 0 fi asked (nI R) (nI C) (bI op) mki mel mto mio mwy (bI hq) mme mhs mso msr mrs mce mcp) :: (mki, aI g 40 kinds) :: (mel, aI g 40 elders) :: (mto, aI g 25 tq) :: (mio, aZ g 40 iq) :: (mwy, aI g 4096 wq) :: (mme, aZ g 36 mq) :: (mhs, aZ g 3 hsf) :: (mso, aI g 3 sof) :: (msr, aI g 3 srf) :: (mrs, aI g 12 rsf) :: (mce, aI g 480 cef) :: (mcp, aI g 40 cpf) :: pool) [(0, .ref b), (1, .ref o), (2, .ref mo), (3, .int (nI ii))] 624 [.int (joVM R C op kinds elders (xs ((ii + 1))) (xs ((ii + 2))) (xs ((ii + 3)))), .int (joV R C op ap rr rd al waf wof (ctF kinds (thM R C op)) (xs ((ii + 1))) (xs ((ii + 2))) (xs ((ii + 3))))]
  refine X_icmp_eq K0 1101 dL_law_624 (by decide) (fun _ => ?_) (fun h => absurd (hRL.joined _ _ _) h)
  exact X.widen (by omega) (by omega) (next _ ⟨pl, sl, th, ki, el, nu, wa, wo, pg, ga, sh, mki, mel, mto, mio, mwy, mme, mhs, mso, msr, mrs, mce, mcp, R, C, op, (thM R C op), slots, ap, rr, rd, (ctF kinds (thM R C op)), al, kinds, elders, numbers, waf, wof, sp1, sg, shf, asked, fi, 0, hq, tq, iq, wq, mq, hsf, sof, srf, rsf, cef, cpf, pool, abs, ivmk rfl hRL hWY2 hPO hMS⟩)

set_option maxRecDepth 20000 in
set_option maxHeartbeats 400000 in
theorem law_13 {φ : Fx} {g : Gx} {nm : String} {b Ln qB o mo ii k n : Nat} {xs : Nat → Int32} {w : va_W} (K0 : Cx φ g ⟨RL, nm, ""⟩ cL_law 4 9 328 600000 7302250) (hsc : Sc φ b Ln xs) (hB : Sb φ qB) (hii : ii + 8 ≤ Ln) (hLn : Ln ≤ 4096) (hk : k + 2 ≤ 600000) (hn : n + 40 ≤ 7302250) (hI : IV g o mo w) (next : ∀ w', IV g o mo w' → X φ (k + 2) (n + 40) w' [(0, .ref b), (1, .ref o), (2, .ref mo), (3, .int (nI ii))] 1101 []) : X φ k n w [(0, .ref b), (1, .ref o), (2, .ref mo), (3, .int (nI ii))] 629 [] := by
  obtain ⟨pl, sl, th, ki, el, nu, wa, wo, pg, ga, sh, mki, mel, mto, mio, mwy, mme, mhs, mso, msr, mrs, mce, mcp, R, C, op, T, slots, ap, rr, rd, m, al, kinds, elders, numbers, waf, wof, sp, sg, shf, asked, fi, tn, hwb, tof, iof, wyf, mef, hsf, sof, srf, rsf, cef, cpf, pool, abs, hIVw⟩ := hI
  obtain ⟨rfl, hRL, hWY, hPO, hMS⟩ := hIVw
  have hTe := hRL.2.2.1
  have hme := hRL.meq
  subst hTe
  subst hme
  have hR := hRL.1
  have hC := hRL.2.1
  have hKI := hRL.2.2.2.2.2.2.2.1
  have hDV := hRL.2.2.2.2.2.2.2.2
  have hT := th_M (op := op) hR hC
  have hm := hKI.2
  show X φ k n ((o, oMain pl th pg ga sh asked fi) :: (pl, oPlan (nI R) (nI C) (bI op) (nI (thM R C op)) ap rr rd sl) :: (sl, aI g 40 slots) :: (th, oThings pl ki el nu (nI (ctF kinds (thM R C op))) al wa wo) :: (ki, aI g 40 kinds) :: (el, aI g 40 elders) :: (nu, aI g 40 numbers) :: (wa, aJ g 12 waf) :: (wo, aJ g 12 wof) :: (pg, oGrid (nI R) (nI C) sp.1 sp.2.1 sp.2.2) :: (ga, oGrid sg.1 sg.2.1 sg.2.2.1 sg.2.2.2.1 sg.2.2.2.2) :: (sh, aS g 3 shf) :: (mo, oModel tn fi asked (nI R) (nI C) (bI op) mki mel mto mio mwy (bI hwb) mme mhs mso msr mrs mce mcp) :: (mki, aI g 40 kinds) :: (mel, aI g 40 elders) :: (mto, aI g 25 tof) :: (mio, aZ g 40 iof) :: (mwy, aI g 4096 wyf) :: (mme, aZ g 36 mef) :: (mhs, aZ g 3 hsf) :: (mso, aI g 3 sof) :: (msr, aI g 3 srf) :: (mrs, aI g 12 rsf) :: (mce, aI g 480 cef) :: (mcp, aI g 40 cpf) :: pool) [(0, .ref b), (1, .ref o), (2, .ref mo), (3, .int (nI ii))] 629 []
  refine X_aload_n K0 1 dL_law_629 rfl rfl ?_
  refine X_aload_n K0 0 dL_law_630 rfl rfl ?_
  refine X_iload_n K0 3 dL_law_631 rfl rfl ?_
  refine X_iconst (v := 1) K0 dL_law_632 (by decide) ?_
  refine X_iadd K0 dL_law_633 ?_
  refine X_v (z := (nI (ii + 1))) (nI_add ii 1) ?_
  refine X_sld K0 hsc (by omega) hLn dL_law_634 ?_
  refine X_aload_n K0 0 dL_law_635 rfl rfl ?_
  refine X_iload_n K0 3 dL_law_636 rfl rfl ?_
  refine X_iconst (v := 2) K0 dL_law_637 (by decide) ?_
  refine X_iadd K0 dL_law_638 ?_
  refine X_v (z := (nI (ii + 2))) (nI_add ii 2) ?_
  refine X_sld K0 hsc (by omega) hLn dL_law_639 ?_
  refine X_aload_n K0 0 dL_law_640 rfl rfl ?_
  refine X_iload_n K0 3 dL_law_641 rfl rfl ?_
  refine X_iconst (v := 3) K0 dL_law_642 (by decide) ?_
  refine X_iadd K0 dL_law_643 ?_
  refine X_v (z := (nI (ii + 3))) (nI_add ii 3) ?_
  refine X_sld K0 hsc (by omega) hLn dL_law_644 ?_
  refine X_callV (As := [.int (xs ((ii + 1))), .int (xs ((ii + 2))), .int (xs ((ii + 3)))]) (rest := []) K0 0 (c_sized g o pl sl th ki el nu wa wo pg ga sh R C op (thM R C op) slots ap rr rd (ctF kinds (thM R C op)) al kinds elders numbers waf wof sp sg shf asked fi ((mo, oModel tn fi asked (nI R) (nI C) (bI op) mki mel mto mio mwy (bI hwb) mme mhs mso msr mrs mce mcp) :: (mki, aI g 40 kinds) :: (mel, aI g 40 elders) :: (mto, aI g 25 tof) :: (mio, aZ g 40 iof) :: (mwy, aI g 4096 wyf) :: (mme, aZ g 36 mef) :: (mhs, aZ g 3 hsf) :: (mso, aI g 3 sof) :: (msr, aI g 3 srf) :: (mrs, aI g 12 rsf) :: (mce, aI g 480 cef) :: (mcp, aI g 40 cpf) :: pool) hR hC hT hm (xs ((ii + 1))) (xs ((ii + 2))) (xs ((ii + 3)))) mi_X4_sized rfl rfl rfl ml_RL_69 rfl (Nat.le_of_ble_eq_true rfl) (by decide) ⟨by omega, by omega⟩ rfl rfl dL_law_645 ?_
  intro v w' hr'; obtain ⟨rfl, sp1, rfl⟩ := hr'
  show X φ k n ((o, oMain pl th pg ga sh asked fi) :: (pl, oPlan (nI R) (nI C) (bI op) (nI (thM R C op)) ap rr rd sl) :: (sl, aI g 40 slots) :: (th, oThings pl ki el nu (nI (ctF kinds (thM R C op))) al wa wo) :: (ki, aI g 40 kinds) :: (el, aI g 40 elders) :: (nu, aI g 40 numbers) :: (wa, aJ g 12 waf) :: (wo, aJ g 12 wof) :: (pg, oGrid (nI R) (nI C) sp1.1 sp1.2.1 sp1.2.2) :: (ga, oGrid sg.1 sg.2.1 sg.2.2.1 sg.2.2.2.1 sg.2.2.2.2) :: (sh, aS g 3 shf) :: (mo, oModel tn fi asked (nI R) (nI C) (bI op) mki mel mto mio mwy (bI hwb) mme mhs mso msr mrs mce mcp) :: (mki, aI g 40 kinds) :: (mel, aI g 40 elders) :: (mto, aI g 25 tof) :: (mio, aZ g 40 iof) :: (mwy, aI g 4096 wyf) :: (mme, aZ g 36 mef) :: (mhs, aZ g 3 hsf) :: (mso, aI g 3 sof) :: (msr, aI g 3 srf) :: (mrs, aI g 12 rsf) :: (mce, aI g 480 cef) :: (mcp, aI g 40 cpf) :: pool) [(0, .ref b), (1, .ref o), (2, .ref mo), (3, .int (nI ii))] 648 [.int (szV R C op ap rr rd al waf wof (ctF kinds (thM R C op)) (xs ((ii + 1))) (xs ((ii + 2))) (xs ((ii + 3))))]
  refine X_aload_n K0 2 dL_law_648 rfl rfl ?_
  refine X_aload_n K0 0 dL_law_649 rfl rfl ?_
  refine X_iload_n K0 3 dL_law_650 rfl rfl ?_
  refine X_iconst (v := 1) K0 dL_law_651 (by decide) ?_
  refine X_iadd K0 dL_law_652 ?_
  refine X_v (z := (nI (ii + 1))) (nI_add ii 1) ?_
  refine X_sld K0 hsc (by omega) hLn dL_law_653 ?_
  refine X_aload_n K0 0 dL_law_654 rfl rfl ?_
  refine X_iload_n K0 3 dL_law_655 rfl rfl ?_
  refine X_iconst (v := 2) K0 dL_law_656 (by decide) ?_
  refine X_iadd K0 dL_law_657 ?_
  refine X_v (z := (nI (ii + 2))) (nI_add ii 2) ?_
  refine X_sld K0 hsc (by omega) hLn dL_law_658 ?_
  refine X_aload_n K0 0 dL_law_659 rfl rfl ?_
  refine X_iload_n K0 3 dL_law_660 rfl rfl ?_
  refine X_iconst (v := 3) K0 dL_law_661 (by decide) ?_
  refine X_iadd K0 dL_law_662 ?_
  refine X_v (z := (nI (ii + 3))) (nI_add ii 3) ?_
  refine X_sld K0 hsc (by omega) hLn dL_law_663 ?_
  refine X_callV (As := [.int (xs ((ii + 1))), .int (xs ((ii + 2))), .int (xs ((ii + 3)))]) (rest := [.int (szV R C op ap rr rd al waf wof (ctF kinds (thM R C op)) (xs ((ii + 1))) (xs ((ii + 2))) (xs ((ii + 3))))]) K0 12 (m_sized g (o, oMain pl th pg ga sh asked fi) (pl, oPlan (nI R) (nI C) (bI op) (nI (thM R C op)) ap rr rd sl) (sl, aI g 40 slots) (th, oThings pl ki el nu (nI (ctF kinds (thM R C op))) al wa wo) (ki, aI g 40 kinds) (el, aI g 40 elders) (nu, aI g 40 numbers) (wa, aJ g 12 waf) (wo, aJ g 12 wof) (pg, oGrid (nI R) (nI C) sp1.1 sp1.2.1 sp1.2.2) (ga, oGrid sg.1 sg.2.1 sg.2.2.1 sg.2.2.2.1 sg.2.2.2.2) (sh, aS g 3 shf) mo mki mel mto mio mwy mme mhs mso msr mrs mce mcp tn fi asked R C op hwb kinds elders tof iof wyf mef hsf sof srf rsf cef cpf pool hR hC hKI hWY (xs ((ii + 1))) (xs ((ii + 2))) (xs ((ii + 3)))) mi_X5_sized rfl rfl rfl ml_RL_72 rfl (Nat.le_of_ble_eq_true rfl) (by decide) ⟨by omega, by omega⟩ rfl rfl dL_law_664 ?_
  intro v w' hr'; obtain ⟨rfl, tq, iq, wq, mq, hq, hWY2, rfl⟩ := hr'
  show X φ k n ((o, oMain pl th pg ga sh asked fi) :: (pl, oPlan (nI R) (nI C) (bI op) (nI (thM R C op)) ap rr rd sl) :: (sl, aI g 40 slots) :: (th, oThings pl ki el nu (nI (ctF kinds (thM R C op))) al wa wo) :: (ki, aI g 40 kinds) :: (el, aI g 40 elders) :: (nu, aI g 40 numbers) :: (wa, aJ g 12 waf) :: (wo, aJ g 12 wof) :: (pg, oGrid (nI R) (nI C) sp1.1 sp1.2.1 sp1.2.2) :: (ga, oGrid sg.1 sg.2.1 sg.2.2.1 sg.2.2.2.1 sg.2.2.2.2) :: (sh, aS g 3 shf) :: (mo, oModel 0 fi asked (nI R) (nI C) (bI op) mki mel mto mio mwy (bI hq) mme mhs mso msr mrs mce mcp) :: (mki, aI g 40 kinds) :: (mel, aI g 40 elders) :: (mto, aI g 25 tq) :: (mio, aZ g 40 iq) :: (mwy, aI g 4096 wq) :: (mme, aZ g 36 mq) :: (mhs, aZ g 3 hsf) :: (mso, aI g 3 sof) :: (msr, aI g 3 srf) :: (mrs, aI g 12 rsf) :: (mce, aI g 480 cef) :: (mcp, aI g 40 cpf) :: pool) [(0, .ref b), (1, .ref o), (2, .ref mo), (3, .int (nI ii))] 667 [.int (szVM R C op kinds elders (xs ((ii + 1))) (xs ((ii + 2))) (xs ((ii + 3)))), .int (szV R C op ap rr rd al waf wof (ctF kinds (thM R C op)) (xs ((ii + 1))) (xs ((ii + 2))) (xs ((ii + 3))))]
  refine X_icmp_eq K0 1101 dL_law_667 (by decide) (fun _ => ?_) (fun h => absurd (hRL.sized _ _ _) h)
  exact X.widen (by omega) (by omega) (next _ ⟨pl, sl, th, ki, el, nu, wa, wo, pg, ga, sh, mki, mel, mto, mio, mwy, mme, mhs, mso, msr, mrs, mce, mcp, R, C, op, (thM R C op), slots, ap, rr, rd, (ctF kinds (thM R C op)), al, kinds, elders, numbers, waf, wof, sp1, sg, shf, asked, fi, 0, hq, tq, iq, wq, mq, hsf, sof, srf, rsf, cef, cpf, pool, abs, ivmk rfl hRL hWY2 hPO hMS⟩)

set_option maxRecDepth 20000 in
set_option maxHeartbeats 400000 in
theorem law_14 {φ : Fx} {g : Gx} {nm : String} {b Ln qB o mo ii k n : Nat} {xs : Nat → Int32} {w : va_W} (K0 : Cx φ g ⟨RL, nm, ""⟩ cL_law 4 9 328 600000 7302250) (hsc : Sc φ b Ln xs) (hB : Sb φ qB) (hii : ii + 8 ≤ Ln) (hLn : Ln ≤ 4096) (hk : k + 2 ≤ 600000) (hn : n + 40 ≤ 7302250) (hI : IV g o mo w) (next : ∀ w', IV g o mo w' → X φ (k + 2) (n + 40) w' [(0, .ref b), (1, .ref o), (2, .ref mo), (3, .int (nI ii))] 1101 []) : X φ k n w [(0, .ref b), (1, .ref o), (2, .ref mo), (3, .int (nI ii))] 672 [] := by
  obtain ⟨pl, sl, th, ki, el, nu, wa, wo, pg, ga, sh, mki, mel, mto, mio, mwy, mme, mhs, mso, msr, mrs, mce, mcp, R, C, op, T, slots, ap, rr, rd, m, al, kinds, elders, numbers, waf, wof, sp, sg, shf, asked, fi, tn, hwb, tof, iof, wyf, mef, hsf, sof, srf, rsf, cef, cpf, pool, abs, hIVw⟩ := hI
  obtain ⟨rfl, hRL, hWY, hPO, hMS⟩ := hIVw
  have hTe := hRL.2.2.1
  have hme := hRL.meq
  subst hTe
  subst hme
  have hR := hRL.1
  have hC := hRL.2.1
  have hKI := hRL.2.2.2.2.2.2.2.1
  have hDV := hRL.2.2.2.2.2.2.2.2
  have hT := th_M (op := op) hR hC
  have hm := hKI.2
  show X φ k n ((o, oMain pl th pg ga sh asked fi) :: (pl, oPlan (nI R) (nI C) (bI op) (nI (thM R C op)) ap rr rd sl) :: (sl, aI g 40 slots) :: (th, oThings pl ki el nu (nI (ctF kinds (thM R C op))) al wa wo) :: (ki, aI g 40 kinds) :: (el, aI g 40 elders) :: (nu, aI g 40 numbers) :: (wa, aJ g 12 waf) :: (wo, aJ g 12 wof) :: (pg, oGrid (nI R) (nI C) sp.1 sp.2.1 sp.2.2) :: (ga, oGrid sg.1 sg.2.1 sg.2.2.1 sg.2.2.2.1 sg.2.2.2.2) :: (sh, aS g 3 shf) :: (mo, oModel tn fi asked (nI R) (nI C) (bI op) mki mel mto mio mwy (bI hwb) mme mhs mso msr mrs mce mcp) :: (mki, aI g 40 kinds) :: (mel, aI g 40 elders) :: (mto, aI g 25 tof) :: (mio, aZ g 40 iof) :: (mwy, aI g 4096 wyf) :: (mme, aZ g 36 mef) :: (mhs, aZ g 3 hsf) :: (mso, aI g 3 sof) :: (msr, aI g 3 srf) :: (mrs, aI g 12 rsf) :: (mce, aI g 480 cef) :: (mcp, aI g 40 cpf) :: pool) [(0, .ref b), (1, .ref o), (2, .ref mo), (3, .int (nI ii))] 672 []
  refine X_aload_n K0 1 dL_law_672 rfl rfl ?_
  refine X_aload_n K0 0 dL_law_673 rfl rfl ?_
  refine X_iload_n K0 3 dL_law_674 rfl rfl ?_
  refine X_iconst (v := 1) K0 dL_law_675 (by decide) ?_
  refine X_iadd K0 dL_law_676 ?_
  refine X_v (z := (nI (ii + 1))) (nI_add ii 1) ?_
  refine X_sld K0 hsc (by omega) hLn dL_law_677 ?_
  refine X_callV (As := [.int (xs ((ii + 1)))]) (rest := []) K0 0 (c_heapSum g o pl sl th ki el nu wa wo pg ga sh R C op (thM R C op) slots ap rr rd (ctF kinds (thM R C op)) al kinds elders numbers waf wof sp sg shf asked fi ((mo, oModel tn fi asked (nI R) (nI C) (bI op) mki mel mto mio mwy (bI hwb) mme mhs mso msr mrs mce mcp) :: (mki, aI g 40 kinds) :: (mel, aI g 40 elders) :: (mto, aI g 25 tof) :: (mio, aZ g 40 iof) :: (mwy, aI g 4096 wyf) :: (mme, aZ g 36 mef) :: (mhs, aZ g 3 hsf) :: (mso, aI g 3 sof) :: (msr, aI g 3 srf) :: (mrs, aI g 12 rsf) :: (mce, aI g 480 cef) :: (mcp, aI g 40 cpf) :: pool) hR hC hT hm (xs ((ii + 1)))) mi_X4_heapSum rfl rfl rfl ml_RL_73 rfl (Nat.le_of_ble_eq_true rfl) (by decide) ⟨by omega, by omega⟩ rfl rfl dL_law_678 ?_
  intro v w' hr'; obtain ⟨rfl, sp1, rfl⟩ := hr'
  show X φ k n ((o, oMain pl th pg ga sh asked fi) :: (pl, oPlan (nI R) (nI C) (bI op) (nI (thM R C op)) ap rr rd sl) :: (sl, aI g 40 slots) :: (th, oThings pl ki el nu (nI (ctF kinds (thM R C op))) al wa wo) :: (ki, aI g 40 kinds) :: (el, aI g 40 elders) :: (nu, aI g 40 numbers) :: (wa, aJ g 12 waf) :: (wo, aJ g 12 wof) :: (pg, oGrid (nI R) (nI C) sp1.1 sp1.2.1 sp1.2.2) :: (ga, oGrid sg.1 sg.2.1 sg.2.2.1 sg.2.2.2.1 sg.2.2.2.2) :: (sh, aS g 3 shf) :: (mo, oModel tn fi asked (nI R) (nI C) (bI op) mki mel mto mio mwy (bI hwb) mme mhs mso msr mrs mce mcp) :: (mki, aI g 40 kinds) :: (mel, aI g 40 elders) :: (mto, aI g 25 tof) :: (mio, aZ g 40 iof) :: (mwy, aI g 4096 wyf) :: (mme, aZ g 36 mef) :: (mhs, aZ g 3 hsf) :: (mso, aI g 3 sof) :: (msr, aI g 3 srf) :: (mrs, aI g 12 rsf) :: (mce, aI g 480 cef) :: (mcp, aI g 40 cpf) :: pool) [(0, .ref b), (1, .ref o), (2, .ref mo), (3, .int (nI ii))] 681 [.int (hmV C op ap rr rd al waf wof (ctF kinds (thM R C op)) (xs ((ii + 1))))]
  refine X_aload_n K0 2 dL_law_681 rfl rfl ?_
  refine X_aload_n K0 0 dL_law_682 rfl rfl ?_
  refine X_iload_n K0 3 dL_law_683 rfl rfl ?_
  refine X_iconst (v := 1) K0 dL_law_684 (by decide) ?_
  refine X_iadd K0 dL_law_685 ?_
  refine X_v (z := (nI (ii + 1))) (nI_add ii 1) ?_
  refine X_sld K0 hsc (by omega) hLn dL_law_686 ?_
  refine X_callV (As := [.int (xs ((ii + 1)))]) (rest := [.int (hmV C op ap rr rd al waf wof (ctF kinds (thM R C op)) (xs ((ii + 1))))]) K0 12 (m_heapSum g (o, oMain pl th pg ga sh asked fi) (pl, oPlan (nI R) (nI C) (bI op) (nI (thM R C op)) ap rr rd sl) (sl, aI g 40 slots) (th, oThings pl ki el nu (nI (ctF kinds (thM R C op))) al wa wo) (ki, aI g 40 kinds) (el, aI g 40 elders) (nu, aI g 40 numbers) (wa, aJ g 12 waf) (wo, aJ g 12 wof) (pg, oGrid (nI R) (nI C) sp1.1 sp1.2.1 sp1.2.2) (ga, oGrid sg.1 sg.2.1 sg.2.2.1 sg.2.2.2.1 sg.2.2.2.2) (sh, aS g 3 shf) mo mki mel mto mio mwy mme mhs mso msr mrs mce mcp tn fi asked R C op hwb kinds elders tof iof wyf mef hsf sof srf rsf cef cpf pool hR hC hKI hWY (xs ((ii + 1)))) mi_X5_heapSum rfl rfl rfl ml_RL_76 rfl (Nat.le_of_ble_eq_true rfl) (by decide) ⟨by omega, by omega⟩ rfl rfl dL_law_687 ?_
  intro v w' hr'; obtain ⟨rfl, tq, iq, wq, mq, hq, hWY2, rfl⟩ := hr'
  show X φ k n ((o, oMain pl th pg ga sh asked fi) :: (pl, oPlan (nI R) (nI C) (bI op) (nI (thM R C op)) ap rr rd sl) :: (sl, aI g 40 slots) :: (th, oThings pl ki el nu (nI (ctF kinds (thM R C op))) al wa wo) :: (ki, aI g 40 kinds) :: (el, aI g 40 elders) :: (nu, aI g 40 numbers) :: (wa, aJ g 12 waf) :: (wo, aJ g 12 wof) :: (pg, oGrid (nI R) (nI C) sp1.1 sp1.2.1 sp1.2.2) :: (ga, oGrid sg.1 sg.2.1 sg.2.2.1 sg.2.2.2.1 sg.2.2.2.2) :: (sh, aS g 3 shf) :: (mo, oModel 0 fi asked (nI R) (nI C) (bI op) mki mel mto mio mwy (bI hq) mme mhs mso msr mrs mce mcp) :: (mki, aI g 40 kinds) :: (mel, aI g 40 elders) :: (mto, aI g 25 tq) :: (mio, aZ g 40 iq) :: (mwy, aI g 4096 wq) :: (mme, aZ g 36 mq) :: (mhs, aZ g 3 hsf) :: (mso, aI g 3 sof) :: (msr, aI g 3 srf) :: (mrs, aI g 12 rsf) :: (mce, aI g 480 cef) :: (mcp, aI g 40 cpf) :: pool) [(0, .ref b), (1, .ref o), (2, .ref mo), (3, .int (nI ii))] 690 [.int (hmVM R C op kinds elders (xs ((ii + 1)))), .int (hmV C op ap rr rd al waf wof (ctF kinds (thM R C op)) (xs ((ii + 1))))]
  refine X_icmp_eq K0 1101 dL_law_690 (by decide) (fun _ => ?_) (fun h => absurd (hRL.heapSum _) h)
  exact X.widen (by omega) (by omega) (next _ ⟨pl, sl, th, ki, el, nu, wa, wo, pg, ga, sh, mki, mel, mto, mio, mwy, mme, mhs, mso, msr, mrs, mce, mcp, R, C, op, (thM R C op), slots, ap, rr, rd, (ctF kinds (thM R C op)), al, kinds, elders, numbers, waf, wof, sp1, sg, shf, asked, fi, 0, hq, tq, iq, wq, mq, hsf, sof, srf, rsf, cef, cpf, pool, abs, ivmk rfl hRL hWY2 hPO hMS⟩)

set_option maxRecDepth 20000 in
set_option maxHeartbeats 400000 in
theorem law_16 {φ : Fx} {g : Gx} {nm : String} {b Ln qB o mo ii k n : Nat} {xs : Nat → Int32} {w : va_W} (K0 : Cx φ g ⟨RL, nm, ""⟩ cL_law 4 9 328 600000 7302250) (hsc : Sc φ b Ln xs) (hB : Sb φ qB) (hii : ii + 8 ≤ Ln) (hLn : Ln ≤ 4096) (hk : k + 2 ≤ 600000) (hn : n + 40 ≤ 7302250) (hI : IV g o mo w) (next : ∀ w', IV g o mo w' → X φ (k + 2) (n + 40) w' [(0, .ref b), (1, .ref o), (2, .ref mo), (3, .int (nI ii))] 1101 []) : X φ k n w [(0, .ref b), (1, .ref o), (2, .ref mo), (3, .int (nI ii))] 739 [] := by
  obtain ⟨pl, sl, th, ki, el, nu, wa, wo, pg, ga, sh, mki, mel, mto, mio, mwy, mme, mhs, mso, msr, mrs, mce, mcp, R, C, op, T, slots, ap, rr, rd, m, al, kinds, elders, numbers, waf, wof, sp, sg, shf, asked, fi, tn, hwb, tof, iof, wyf, mef, hsf, sof, srf, rsf, cef, cpf, pool, abs, hIVw⟩ := hI
  obtain ⟨rfl, hRL, hWY, hPO, hMS⟩ := hIVw
  have hTe := hRL.2.2.1
  have hme := hRL.meq
  subst hTe
  subst hme
  have hR := hRL.1
  have hC := hRL.2.1
  have hKI := hRL.2.2.2.2.2.2.2.1
  have hDV := hRL.2.2.2.2.2.2.2.2
  have hT := th_M (op := op) hR hC
  have hm := hKI.2
  show X φ k n ((o, oMain pl th pg ga sh asked fi) :: (pl, oPlan (nI R) (nI C) (bI op) (nI (thM R C op)) ap rr rd sl) :: (sl, aI g 40 slots) :: (th, oThings pl ki el nu (nI (ctF kinds (thM R C op))) al wa wo) :: (ki, aI g 40 kinds) :: (el, aI g 40 elders) :: (nu, aI g 40 numbers) :: (wa, aJ g 12 waf) :: (wo, aJ g 12 wof) :: (pg, oGrid (nI R) (nI C) sp.1 sp.2.1 sp.2.2) :: (ga, oGrid sg.1 sg.2.1 sg.2.2.1 sg.2.2.2.1 sg.2.2.2.2) :: (sh, aS g 3 shf) :: (mo, oModel tn fi asked (nI R) (nI C) (bI op) mki mel mto mio mwy (bI hwb) mme mhs mso msr mrs mce mcp) :: (mki, aI g 40 kinds) :: (mel, aI g 40 elders) :: (mto, aI g 25 tof) :: (mio, aZ g 40 iof) :: (mwy, aI g 4096 wyf) :: (mme, aZ g 36 mef) :: (mhs, aZ g 3 hsf) :: (mso, aI g 3 sof) :: (msr, aI g 3 srf) :: (mrs, aI g 12 rsf) :: (mce, aI g 480 cef) :: (mcp, aI g 40 cpf) :: pool) [(0, .ref b), (1, .ref o), (2, .ref mo), (3, .int (nI ii))] 739 []
  refine X_aload_n K0 1 dL_law_739 rfl rfl ?_
  refine X_aload_n K0 0 dL_law_740 rfl rfl ?_
  refine X_iload_n K0 3 dL_law_741 rfl rfl ?_
  refine X_iconst (v := 1) K0 dL_law_742 (by decide) ?_
  refine X_iadd K0 dL_law_743 ?_
  refine X_v (z := (nI (ii + 1))) (nI_add ii 1) ?_
  refine X_sld K0 hsc (by omega) hLn dL_law_744 ?_
  refine X_aload_n K0 0 dL_law_745 rfl rfl ?_
  refine X_iload_n K0 3 dL_law_746 rfl rfl ?_
  refine X_iconst (v := 2) K0 dL_law_747 (by decide) ?_
  refine X_iadd K0 dL_law_748 ?_
  refine X_v (z := (nI (ii + 2))) (nI_add ii 2) ?_
  refine X_sld K0 hsc (by omega) hLn dL_law_749 ?_
  refine X_callV (As := [.int (xs ((ii + 1))), .int (xs ((ii + 2)))]) (rest := []) K0 0 (c_pivot g o pl sl th ki el nu wa wo pg ga sh R C op (thM R C op) slots ap rr rd (ctF kinds (thM R C op)) al kinds elders numbers waf wof sp sg shf asked fi ((mo, oModel tn fi asked (nI R) (nI C) (bI op) mki mel mto mio mwy (bI hwb) mme mhs mso msr mrs mce mcp) :: (mki, aI g 40 kinds) :: (mel, aI g 40 elders) :: (mto, aI g 25 tof) :: (mio, aZ g 40 iof) :: (mwy, aI g 4096 wyf) :: (mme, aZ g 36 mef) :: (mhs, aZ g 3 hsf) :: (mso, aI g 3 sof) :: (msr, aI g 3 srf) :: (mrs, aI g 12 rsf) :: (mce, aI g 480 cef) :: (mcp, aI g 40 cpf) :: pool) hR hC hT hm (xs ((ii + 1))) (xs ((ii + 2)))) mi_X4_pivot rfl rfl rfl ml_RL_82 rfl (Nat.le_of_ble_eq_true rfl) (by decide) ⟨by omega, by omega⟩ rfl rfl dL_law_750 ?_
  intro v w' hr'; obtain ⟨rfl, sp1, rfl⟩ := hr'
  show X φ k n ((o, oMain pl th pg ga sh asked fi) :: (pl, oPlan (nI R) (nI C) (bI op) (nI (thM R C op)) ap rr rd sl) :: (sl, aI g 40 slots) :: (th, oThings pl ki el nu (nI (ctF kinds (thM R C op))) al wa wo) :: (ki, aI g 40 kinds) :: (el, aI g 40 elders) :: (nu, aI g 40 numbers) :: (wa, aJ g 12 waf) :: (wo, aJ g 12 wof) :: (pg, oGrid (nI R) (nI C) sp1.1 sp1.2.1 sp1.2.2) :: (ga, oGrid sg.1 sg.2.1 sg.2.2.1 sg.2.2.2.1 sg.2.2.2.2) :: (sh, aS g 3 shf) :: (mo, oModel tn fi asked (nI R) (nI C) (bI op) mki mel mto mio mwy (bI hwb) mme mhs mso msr mrs mce mcp) :: (mki, aI g 40 kinds) :: (mel, aI g 40 elders) :: (mto, aI g 25 tof) :: (mio, aZ g 40 iof) :: (mwy, aI g 4096 wyf) :: (mme, aZ g 36 mef) :: (mhs, aZ g 3 hsf) :: (mso, aI g 3 sof) :: (msr, aI g 3 srf) :: (mrs, aI g 12 rsf) :: (mce, aI g 480 cef) :: (mcp, aI g 40 cpf) :: pool) [(0, .ref b), (1, .ref o), (2, .ref mo), (3, .int (nI ii))] 753 [.int (pvV R C op ap rr rd al waf wof (ctF kinds (thM R C op)) (xs ((ii + 1))) (xs ((ii + 2))))]
  refine X_aload_n K0 2 dL_law_753 rfl rfl ?_
  refine X_aload_n K0 0 dL_law_754 rfl rfl ?_
  refine X_iload_n K0 3 dL_law_755 rfl rfl ?_
  refine X_iconst (v := 1) K0 dL_law_756 (by decide) ?_
  refine X_iadd K0 dL_law_757 ?_
  refine X_v (z := (nI (ii + 1))) (nI_add ii 1) ?_
  refine X_sld K0 hsc (by omega) hLn dL_law_758 ?_
  refine X_aload_n K0 0 dL_law_759 rfl rfl ?_
  refine X_iload_n K0 3 dL_law_760 rfl rfl ?_
  refine X_iconst (v := 2) K0 dL_law_761 (by decide) ?_
  refine X_iadd K0 dL_law_762 ?_
  refine X_v (z := (nI (ii + 2))) (nI_add ii 2) ?_
  refine X_sld K0 hsc (by omega) hLn dL_law_763 ?_
  refine X_callV (As := [.int (xs ((ii + 1))), .int (xs ((ii + 2)))]) (rest := [.int (pvV R C op ap rr rd al waf wof (ctF kinds (thM R C op)) (xs ((ii + 1))) (xs ((ii + 2))))]) K0 12 (m_pivot g (o, oMain pl th pg ga sh asked fi) (pl, oPlan (nI R) (nI C) (bI op) (nI (thM R C op)) ap rr rd sl) (sl, aI g 40 slots) (th, oThings pl ki el nu (nI (ctF kinds (thM R C op))) al wa wo) (ki, aI g 40 kinds) (el, aI g 40 elders) (nu, aI g 40 numbers) (wa, aJ g 12 waf) (wo, aJ g 12 wof) (pg, oGrid (nI R) (nI C) sp1.1 sp1.2.1 sp1.2.2) (ga, oGrid sg.1 sg.2.1 sg.2.2.1 sg.2.2.2.1 sg.2.2.2.2) (sh, aS g 3 shf) mo mki mel mto mio mwy mme mhs mso msr mrs mce mcp tn fi asked R C op hwb kinds elders tof iof wyf mef hsf sof srf rsf cef cpf pool hR hC hKI hWY (xs ((ii + 1))) (xs ((ii + 2)))) mi_X5_pivot rfl rfl rfl ml_RL_85 rfl (Nat.le_of_ble_eq_true rfl) (by decide) ⟨by omega, by omega⟩ rfl rfl dL_law_764 ?_
  intro v w' hr'; obtain ⟨rfl, tq, iq, wq, mq, hq, hWY2, rfl⟩ := hr'
  show X φ k n ((o, oMain pl th pg ga sh asked fi) :: (pl, oPlan (nI R) (nI C) (bI op) (nI (thM R C op)) ap rr rd sl) :: (sl, aI g 40 slots) :: (th, oThings pl ki el nu (nI (ctF kinds (thM R C op))) al wa wo) :: (ki, aI g 40 kinds) :: (el, aI g 40 elders) :: (nu, aI g 40 numbers) :: (wa, aJ g 12 waf) :: (wo, aJ g 12 wof) :: (pg, oGrid (nI R) (nI C) sp1.1 sp1.2.1 sp1.2.2) :: (ga, oGrid sg.1 sg.2.1 sg.2.2.1 sg.2.2.2.1 sg.2.2.2.2) :: (sh, aS g 3 shf) :: (mo, oModel 0 fi asked (nI R) (nI C) (bI op) mki mel mto mio mwy (bI hq) mme mhs mso msr mrs mce mcp) :: (mki, aI g 40 kinds) :: (mel, aI g 40 elders) :: (mto, aI g 25 tq) :: (mio, aZ g 40 iq) :: (mwy, aI g 4096 wq) :: (mme, aZ g 36 mq) :: (mhs, aZ g 3 hsf) :: (mso, aI g 3 sof) :: (msr, aI g 3 srf) :: (mrs, aI g 12 rsf) :: (mce, aI g 480 cef) :: (mcp, aI g 40 cpf) :: pool) [(0, .ref b), (1, .ref o), (2, .ref mo), (3, .int (nI ii))] 767 [.int (pvVM R C op kinds elders (xs ((ii + 1))) (xs ((ii + 2)))), .int (pvV R C op ap rr rd al waf wof (ctF kinds (thM R C op)) (xs ((ii + 1))) (xs ((ii + 2))))]
  refine X_icmp_eq K0 1101 dL_law_767 (by decide) (fun _ => ?_) (fun h => absurd (hRL.pivot _ _) h)
  exact X.widen (by omega) (by omega) (next _ ⟨pl, sl, th, ki, el, nu, wa, wo, pg, ga, sh, mki, mel, mto, mio, mwy, mme, mhs, mso, msr, mrs, mce, mcp, R, C, op, (thM R C op), slots, ap, rr, rd, (ctF kinds (thM R C op)), al, kinds, elders, numbers, waf, wof, sp1, sg, shf, asked, fi, 0, hq, tq, iq, wq, mq, hsf, sof, srf, rsf, cef, cpf, pool, abs, ivmk rfl hRL hWY2 hPO hMS⟩)

set_option maxRecDepth 20000 in
set_option maxHeartbeats 400000 in
theorem law_7 {φ : Fx} {g : Gx} {nm : String} {b Ln qB o mo ii k n : Nat} {xs : Nat → Int32} {w : va_W} (K0 : Cx φ g ⟨RL, nm, ""⟩ cL_law 4 9 328 600000 7302250) (hsc : Sc φ b Ln xs) (hB : Sb φ qB) (hii : ii + 8 ≤ Ln) (hLn : Ln ≤ 4096) (hk : k + 2 ≤ 600000) (hn : n + 40 ≤ 7302250) (hI : IV g o mo w) (next : ∀ w', IV g o mo w' → X φ (k + 2) (n + 40) w' [(0, .ref b), (1, .ref o), (2, .ref mo), (3, .int (nI ii))] 1101 []) : X φ k n w [(0, .ref b), (1, .ref o), (2, .ref mo), (3, .int (nI ii))] 421 [] := by
  obtain ⟨pl, sl, th, ki, el, nu, wa, wo, pg, ga, sh, mki, mel, mto, mio, mwy, mme, mhs, mso, msr, mrs, mce, mcp, R, C, op, T, slots, ap, rr, rd, m, al, kinds, elders, numbers, waf, wof, sp, sg, shf, asked, fi, tn, hwb, tof, iof, wyf, mef, hsf, sof, srf, rsf, cef, cpf, pool, abs, hIVw⟩ := hI
  obtain ⟨rfl, hRL, hWY, hPO, hMS⟩ := hIVw
  have hTe := hRL.2.2.1
  have hme := hRL.meq
  subst hTe
  subst hme
  have hR := hRL.1
  have hC := hRL.2.1
  have hKI := hRL.2.2.2.2.2.2.2.1
  have hDV := hRL.2.2.2.2.2.2.2.2
  have hT := th_M (op := op) hR hC
  have hm := hKI.2
  show X φ k n ((o, oMain pl th pg ga sh asked fi) :: (pl, oPlan (nI R) (nI C) (bI op) (nI (thM R C op)) ap rr rd sl) :: (sl, aI g 40 slots) :: (th, oThings pl ki el nu (nI (ctF kinds (thM R C op))) al wa wo) :: (ki, aI g 40 kinds) :: (el, aI g 40 elders) :: (nu, aI g 40 numbers) :: (wa, aJ g 12 waf) :: (wo, aJ g 12 wof) :: (pg, oGrid (nI R) (nI C) sp.1 sp.2.1 sp.2.2) :: (ga, oGrid sg.1 sg.2.1 sg.2.2.1 sg.2.2.2.1 sg.2.2.2.2) :: (sh, aS g 3 shf) :: (mo, oModel tn fi asked (nI R) (nI C) (bI op) mki mel mto mio mwy (bI hwb) mme mhs mso msr mrs mce mcp) :: (mki, aI g 40 kinds) :: (mel, aI g 40 elders) :: (mto, aI g 25 tof) :: (mio, aZ g 40 iof) :: (mwy, aI g 4096 wyf) :: (mme, aZ g 36 mef) :: (mhs, aZ g 3 hsf) :: (mso, aI g 3 sof) :: (msr, aI g 3 srf) :: (mrs, aI g 12 rsf) :: (mce, aI g 480 cef) :: (mcp, aI g 40 cpf) :: pool) [(0, .ref b), (1, .ref o), (2, .ref mo), (3, .int (nI ii))] 421 []
  refine X_aload_n K0 1 dL_law_421 rfl rfl ?_
  refine X_aload_n K0 0 dL_law_422 rfl rfl ?_
  refine X_iload_n K0 3 dL_law_423 rfl rfl ?_
  refine X_iconst (v := 1) K0 dL_law_424 (by decide) ?_
  refine X_iadd K0 dL_law_425 ?_
  refine X_v (z := (nI (ii + 1))) (nI_add ii 1) ?_
  refine X_sld K0 hsc (by omega) hLn dL_law_426 ?_
  refine X_aload_n K0 0 dL_law_427 rfl rfl ?_
  refine X_iload_n K0 3 dL_law_428 rfl rfl ?_
  refine X_iconst (v := 2) K0 dL_law_429 (by decide) ?_
  refine X_iadd K0 dL_law_430 ?_
  refine X_v (z := (nI (ii + 2))) (nI_add ii 2) ?_
  refine X_sld K0 hsc (by omega) hLn dL_law_431 ?_
  refine X_callV (As := [.int (xs ((ii + 1))), .int (xs ((ii + 2)))]) (rest := []) K0 0 (c_wall g o pl sl th ki el nu wa wo pg ga sh R C op (thM R C op) slots ap rr rd (ctF kinds (thM R C op)) al kinds elders numbers waf wof sp sg shf asked fi ((mo, oModel tn fi asked (nI R) (nI C) (bI op) mki mel mto mio mwy (bI hwb) mme mhs mso msr mrs mce mcp) :: (mki, aI g 40 kinds) :: (mel, aI g 40 elders) :: (mto, aI g 25 tof) :: (mio, aZ g 40 iof) :: (mwy, aI g 4096 wyf) :: (mme, aZ g 36 mef) :: (mhs, aZ g 3 hsf) :: (mso, aI g 3 sof) :: (msr, aI g 3 srf) :: (mrs, aI g 12 rsf) :: (mce, aI g 480 cef) :: (mcp, aI g 40 cpf) :: pool) hR hC hT hm (xs ((ii + 1))) (xs ((ii + 2)))) mi_X4_wall rfl rfl rfl ml_RL_44 rfl (Nat.le_of_ble_eq_true rfl) (by decide) ⟨by omega, by omega⟩ rfl rfl dL_law_432 ?_
  intro v w' hr'; obtain ⟨rfl, sg1, rfl⟩ := hr'
  show X φ k n ((o, oMain pl th pg ga sh asked fi) :: (pl, oPlan (nI R) (nI C) (bI op) (nI (thM R C op)) ap rr rd sl) :: (sl, aI g 40 slots) :: (th, oThings pl ki el nu (nI (ctF kinds (thM R C op))) al wa wo) :: (ki, aI g 40 kinds) :: (el, aI g 40 elders) :: (nu, aI g 40 numbers) :: (wa, aJ g 12 waf) :: (wo, aJ g 12 wof) :: (pg, oGrid (nI R) (nI C) sp.1 sp.2.1 sp.2.2) :: (ga, oGrid sg1.1 sg1.2.1 sg1.2.2.1 sg1.2.2.2.1 sg1.2.2.2.2) :: (sh, aS g 3 shf) :: (mo, oModel tn fi asked (nI R) (nI C) (bI op) mki mel mto mio mwy (bI hwb) mme mhs mso msr mrs mce mcp) :: (mki, aI g 40 kinds) :: (mel, aI g 40 elders) :: (mto, aI g 25 tof) :: (mio, aZ g 40 iof) :: (mwy, aI g 4096 wyf) :: (mme, aZ g 36 mef) :: (mhs, aZ g 3 hsf) :: (mso, aI g 3 sof) :: (msr, aI g 3 srf) :: (mrs, aI g 12 rsf) :: (mce, aI g 480 cef) :: (mcp, aI g 40 cpf) :: pool) [(0, .ref b), (1, .ref o), (2, .ref mo), (3, .int (nI ii))] 435 [.int (waV R C op rr rd al waf wof (ctF kinds (thM R C op)) (xs ((ii + 1))) (xs ((ii + 2))))]
  refine X_aload_n K0 2 dL_law_435 rfl rfl ?_
  refine X_aload_n K0 0 dL_law_436 rfl rfl ?_
  refine X_iload_n K0 3 dL_law_437 rfl rfl ?_
  refine X_iconst (v := 1) K0 dL_law_438 (by decide) ?_
  refine X_iadd K0 dL_law_439 ?_
  refine X_v (z := (nI (ii + 1))) (nI_add ii 1) ?_
  refine X_sld K0 hsc (by omega) hLn dL_law_440 ?_
  refine X_aload_n K0 0 dL_law_441 rfl rfl ?_
  refine X_iload_n K0 3 dL_law_442 rfl rfl ?_
  refine X_iconst (v := 2) K0 dL_law_443 (by decide) ?_
  refine X_iadd K0 dL_law_444 ?_
  refine X_v (z := (nI (ii + 2))) (nI_add ii 2) ?_
  refine X_sld K0 hsc (by omega) hLn dL_law_445 ?_
  refine X_callV (As := [.int (xs ((ii + 1))), .int (xs ((ii + 2)))]) (rest := [.int (waV R C op rr rd al waf wof (ctF kinds (thM R C op)) (xs ((ii + 1))) (xs ((ii + 2))))]) K0 12 (m_wall g (o, oMain pl th pg ga sh asked fi) (pl, oPlan (nI R) (nI C) (bI op) (nI (thM R C op)) ap rr rd sl) (sl, aI g 40 slots) (th, oThings pl ki el nu (nI (ctF kinds (thM R C op))) al wa wo) (ki, aI g 40 kinds) (el, aI g 40 elders) (nu, aI g 40 numbers) (wa, aJ g 12 waf) (wo, aJ g 12 wof) (pg, oGrid (nI R) (nI C) sp.1 sp.2.1 sp.2.2) (ga, oGrid sg1.1 sg1.2.1 sg1.2.2.1 sg1.2.2.2.1 sg1.2.2.2.2) (sh, aS g 3 shf) mo mki mel mto mio mwy mme mhs mso msr mrs mce mcp tn fi asked R C op hwb kinds elders tof iof wyf mef hsf sof srf rsf cef cpf pool hR hC hKI hWY (xs ((ii + 1))) (xs ((ii + 2)))) mi_X5_wall rfl rfl rfl ml_RL_47 rfl (Nat.le_of_ble_eq_true rfl) (by decide) ⟨by omega, by omega⟩ rfl rfl dL_law_446 ?_
  intro v w' hr'; obtain ⟨rfl, tq, iq, wq, mq, hq, hWY2, rfl⟩ := hr'
  show X φ k n ((o, oMain pl th pg ga sh asked fi) :: (pl, oPlan (nI R) (nI C) (bI op) (nI (thM R C op)) ap rr rd sl) :: (sl, aI g 40 slots) :: (th, oThings pl ki el nu (nI (ctF kinds (thM R C op))) al wa wo) :: (ki, aI g 40 kinds) :: (el, aI g 40 elders) :: (nu, aI g 40 numbers) :: (wa, aJ g 12 waf) :: (wo, aJ g 12 wof) :: (pg, oGrid (nI R) (nI C) sp.1 sp.2.1 sp.2.2) :: (ga, oGrid sg1.1 sg1.2.1 sg1.2.2.1 sg1.2.2.2.1 sg1.2.2.2.2) :: (sh, aS g 3 shf) :: (mo, oModel 0 fi asked (nI R) (nI C) (bI op) mki mel mto mio mwy (bI hq) mme mhs mso msr mrs mce mcp) :: (mki, aI g 40 kinds) :: (mel, aI g 40 elders) :: (mto, aI g 25 tq) :: (mio, aZ g 40 iq) :: (mwy, aI g 4096 wq) :: (mme, aZ g 36 mq) :: (mhs, aZ g 3 hsf) :: (mso, aI g 3 sof) :: (msr, aI g 3 srf) :: (mrs, aI g 12 rsf) :: (mce, aI g 480 cef) :: (mcp, aI g 40 cpf) :: pool) [(0, .ref b), (1, .ref o), (2, .ref mo), (3, .int (nI ii))] 449 [.int (waVM R C op kinds elders (xs ((ii + 1))) (xs ((ii + 2)))), .int (waV R C op rr rd al waf wof (ctF kinds (thM R C op)) (xs ((ii + 1))) (xs ((ii + 2))))]
  refine X_icmp_eq K0 1101 dL_law_449 (by decide) (fun _ => ?_) (fun h => absurd (hRL.wall _ _) h)
  exact X.widen (by omega) (by omega) (next _ ⟨pl, sl, th, ki, el, nu, wa, wo, pg, ga, sh, mki, mel, mto, mio, mwy, mme, mhs, mso, msr, mrs, mce, mcp, R, C, op, (thM R C op), slots, ap, rr, rd, (ctF kinds (thM R C op)), al, kinds, elders, numbers, waf, wof, sp, sg1, shf, asked, fi, 0, hq, tq, iq, wq, mq, hsf, sof, srf, rsf, cef, cpf, pool, abs, ivmk rfl hRL hWY2 hPO hMS⟩)

set_option maxRecDepth 20000 in
set_option maxHeartbeats 400000 in
theorem law_11 {φ : Fx} {g : Gx} {nm : String} {b Ln qB o mo ii k n : Nat} {xs : Nat → Int32} {w : va_W} (K0 : Cx φ g ⟨RL, nm, ""⟩ cL_law 4 9 328 600000 7302250) (hsc : Sc φ b Ln xs) (hB : Sb φ qB) (hii : ii + 8 ≤ Ln) (hLn : Ln ≤ 4096) (hk : k + 2 ≤ 600000) (hn : n + 40 ≤ 7302250) (hI : IV g o mo w) (next : ∀ w', IV g o mo w' → X φ (k + 2) (n + 40) w' [(0, .ref b), (1, .ref o), (2, .ref mo), (3, .int (nI ii))] 1101 []) : X φ k n w [(0, .ref b), (1, .ref o), (2, .ref mo), (3, .int (nI ii))] 553 [] := by
  obtain ⟨pl, sl, th, ki, el, nu, wa, wo, pg, ga, sh, mki, mel, mto, mio, mwy, mme, mhs, mso, msr, mrs, mce, mcp, R, C, op, T, slots, ap, rr, rd, m, al, kinds, elders, numbers, waf, wof, sp, sg, shf, asked, fi, tn, hwb, tof, iof, wyf, mef, hsf, sof, srf, rsf, cef, cpf, pool, abs, hIVw⟩ := hI
  obtain ⟨rfl, hRL, hWY, hPO, hMS⟩ := hIVw
  have hTe := hRL.2.2.1
  have hme := hRL.meq
  subst hTe
  subst hme
  have hR := hRL.1
  have hC := hRL.2.1
  have hKI := hRL.2.2.2.2.2.2.2.1
  have hDV := hRL.2.2.2.2.2.2.2.2
  have hT := th_M (op := op) hR hC
  have hm := hKI.2
  show X φ k n ((o, oMain pl th pg ga sh asked fi) :: (pl, oPlan (nI R) (nI C) (bI op) (nI (thM R C op)) ap rr rd sl) :: (sl, aI g 40 slots) :: (th, oThings pl ki el nu (nI (ctF kinds (thM R C op))) al wa wo) :: (ki, aI g 40 kinds) :: (el, aI g 40 elders) :: (nu, aI g 40 numbers) :: (wa, aJ g 12 waf) :: (wo, aJ g 12 wof) :: (pg, oGrid (nI R) (nI C) sp.1 sp.2.1 sp.2.2) :: (ga, oGrid sg.1 sg.2.1 sg.2.2.1 sg.2.2.2.1 sg.2.2.2.2) :: (sh, aS g 3 shf) :: (mo, oModel tn fi asked (nI R) (nI C) (bI op) mki mel mto mio mwy (bI hwb) mme mhs mso msr mrs mce mcp) :: (mki, aI g 40 kinds) :: (mel, aI g 40 elders) :: (mto, aI g 25 tof) :: (mio, aZ g 40 iof) :: (mwy, aI g 4096 wyf) :: (mme, aZ g 36 mef) :: (mhs, aZ g 3 hsf) :: (mso, aI g 3 sof) :: (msr, aI g 3 srf) :: (mrs, aI g 12 rsf) :: (mce, aI g 480 cef) :: (mcp, aI g 40 cpf) :: pool) [(0, .ref b), (1, .ref o), (2, .ref mo), (3, .int (nI ii))] 553 []
  refine X_aload_n K0 1 dL_law_553 rfl rfl ?_
  refine X_aload_n K0 0 dL_law_554 rfl rfl ?_
  refine X_iload_n K0 3 dL_law_555 rfl rfl ?_
  refine X_iconst (v := 1) K0 dL_law_556 (by decide) ?_
  refine X_iadd K0 dL_law_557 ?_
  refine X_v (z := (nI (ii + 1))) (nI_add ii 1) ?_
  refine X_sld K0 hsc (by omega) hLn dL_law_558 ?_
  refine X_aload_n K0 0 dL_law_559 rfl rfl ?_
  refine X_iload_n K0 3 dL_law_560 rfl rfl ?_
  refine X_iconst (v := 2) K0 dL_law_561 (by decide) ?_
  refine X_iadd K0 dL_law_562 ?_
  refine X_v (z := (nI (ii + 2))) (nI_add ii 2) ?_
  refine X_sld K0 hsc (by omega) hLn dL_law_563 ?_
  refine X_callV (As := [.int (xs ((ii + 1))), .int (xs ((ii + 2)))]) (rest := []) K0 0 (c_walls g o pl sl th ki el nu wa wo pg ga sh R C op (thM R C op) slots ap rr rd (ctF kinds (thM R C op)) al kinds elders numbers waf wof sp sg shf asked fi ((mo, oModel tn fi asked (nI R) (nI C) (bI op) mki mel mto mio mwy (bI hwb) mme mhs mso msr mrs mce mcp) :: (mki, aI g 40 kinds) :: (mel, aI g 40 elders) :: (mto, aI g 25 tof) :: (mio, aZ g 40 iof) :: (mwy, aI g 4096 wyf) :: (mme, aZ g 36 mef) :: (mhs, aZ g 3 hsf) :: (mso, aI g 3 sof) :: (msr, aI g 3 srf) :: (mrs, aI g 12 rsf) :: (mce, aI g 480 cef) :: (mcp, aI g 40 cpf) :: pool) hR hC hT hm (xs ((ii + 1))) (xs ((ii + 2)))) mi_X4_walls rfl rfl rfl ml_RL_60 rfl (Nat.le_of_ble_eq_true rfl) (by decide) ⟨by omega, by omega⟩ rfl rfl dL_law_564 ?_
  intro v w' hr'; obtain ⟨rfl, sg1, rfl⟩ := hr'
  show X φ k n ((o, oMain pl th pg ga sh asked fi) :: (pl, oPlan (nI R) (nI C) (bI op) (nI (thM R C op)) ap rr rd sl) :: (sl, aI g 40 slots) :: (th, oThings pl ki el nu (nI (ctF kinds (thM R C op))) al wa wo) :: (ki, aI g 40 kinds) :: (el, aI g 40 elders) :: (nu, aI g 40 numbers) :: (wa, aJ g 12 waf) :: (wo, aJ g 12 wof) :: (pg, oGrid (nI R) (nI C) sp.1 sp.2.1 sp.2.2) :: (ga, oGrid sg1.1 sg1.2.1 sg1.2.2.1 sg1.2.2.2.1 sg1.2.2.2.2) :: (sh, aS g 3 shf) :: (mo, oModel tn fi asked (nI R) (nI C) (bI op) mki mel mto mio mwy (bI hwb) mme mhs mso msr mrs mce mcp) :: (mki, aI g 40 kinds) :: (mel, aI g 40 elders) :: (mto, aI g 25 tof) :: (mio, aZ g 40 iof) :: (mwy, aI g 4096 wyf) :: (mme, aZ g 36 mef) :: (mhs, aZ g 3 hsf) :: (mso, aI g 3 sof) :: (msr, aI g 3 srf) :: (mrs, aI g 12 rsf) :: (mce, aI g 480 cef) :: (mcp, aI g 40 cpf) :: pool) [(0, .ref b), (1, .ref o), (2, .ref mo), (3, .int (nI ii))] 567 [.int (wlsV R C op rr rd al waf wof (ctF kinds (thM R C op)) (xs ((ii + 1))) (xs ((ii + 2))))]
  refine X_aload_n K0 2 dL_law_567 rfl rfl ?_
  refine X_aload_n K0 0 dL_law_568 rfl rfl ?_
  refine X_iload_n K0 3 dL_law_569 rfl rfl ?_
  refine X_iconst (v := 1) K0 dL_law_570 (by decide) ?_
  refine X_iadd K0 dL_law_571 ?_
  refine X_v (z := (nI (ii + 1))) (nI_add ii 1) ?_
  refine X_sld K0 hsc (by omega) hLn dL_law_572 ?_
  refine X_aload_n K0 0 dL_law_573 rfl rfl ?_
  refine X_iload_n K0 3 dL_law_574 rfl rfl ?_
  refine X_iconst (v := 2) K0 dL_law_575 (by decide) ?_
  refine X_iadd K0 dL_law_576 ?_
  refine X_v (z := (nI (ii + 2))) (nI_add ii 2) ?_
  refine X_sld K0 hsc (by omega) hLn dL_law_577 ?_
  refine X_callV (As := [.int (xs ((ii + 1))), .int (xs ((ii + 2)))]) (rest := [.int (wlsV R C op rr rd al waf wof (ctF kinds (thM R C op)) (xs ((ii + 1))) (xs ((ii + 2))))]) K0 12 (m_walls g (o, oMain pl th pg ga sh asked fi) (pl, oPlan (nI R) (nI C) (bI op) (nI (thM R C op)) ap rr rd sl) (sl, aI g 40 slots) (th, oThings pl ki el nu (nI (ctF kinds (thM R C op))) al wa wo) (ki, aI g 40 kinds) (el, aI g 40 elders) (nu, aI g 40 numbers) (wa, aJ g 12 waf) (wo, aJ g 12 wof) (pg, oGrid (nI R) (nI C) sp.1 sp.2.1 sp.2.2) (ga, oGrid sg1.1 sg1.2.1 sg1.2.2.1 sg1.2.2.2.1 sg1.2.2.2.2) (sh, aS g 3 shf) mo mki mel mto mio mwy mme mhs mso msr mrs mce mcp tn fi asked R C op hwb kinds elders tof iof wyf mef hsf sof srf rsf cef cpf pool hR hC hKI hWY (xs ((ii + 1))) (xs ((ii + 2)))) mi_X5_walls rfl rfl rfl ml_RL_63 rfl (Nat.le_of_ble_eq_true rfl) (by decide) ⟨by omega, by omega⟩ rfl rfl dL_law_578 ?_
  intro v w' hr'; obtain ⟨rfl, tq, iq, wq, mq, hq, hWY2, rfl⟩ := hr'
  show X φ k n ((o, oMain pl th pg ga sh asked fi) :: (pl, oPlan (nI R) (nI C) (bI op) (nI (thM R C op)) ap rr rd sl) :: (sl, aI g 40 slots) :: (th, oThings pl ki el nu (nI (ctF kinds (thM R C op))) al wa wo) :: (ki, aI g 40 kinds) :: (el, aI g 40 elders) :: (nu, aI g 40 numbers) :: (wa, aJ g 12 waf) :: (wo, aJ g 12 wof) :: (pg, oGrid (nI R) (nI C) sp.1 sp.2.1 sp.2.2) :: (ga, oGrid sg1.1 sg1.2.1 sg1.2.2.1 sg1.2.2.2.1 sg1.2.2.2.2) :: (sh, aS g 3 shf) :: (mo, oModel 0 fi asked (nI R) (nI C) (bI op) mki mel mto mio mwy (bI hq) mme mhs mso msr mrs mce mcp) :: (mki, aI g 40 kinds) :: (mel, aI g 40 elders) :: (mto, aI g 25 tq) :: (mio, aZ g 40 iq) :: (mwy, aI g 4096 wq) :: (mme, aZ g 36 mq) :: (mhs, aZ g 3 hsf) :: (mso, aI g 3 sof) :: (msr, aI g 3 srf) :: (mrs, aI g 12 rsf) :: (mce, aI g 480 cef) :: (mcp, aI g 40 cpf) :: pool) [(0, .ref b), (1, .ref o), (2, .ref mo), (3, .int (nI ii))] 581 [.int (wlsVM R C op kinds elders (xs ((ii + 1))) (xs ((ii + 2)))), .int (wlsV R C op rr rd al waf wof (ctF kinds (thM R C op)) (xs ((ii + 1))) (xs ((ii + 2))))]
  refine X_icmp_eq K0 1101 dL_law_581 (by decide) (fun _ => ?_) (fun h => absurd (hRL.walls _ _) h)
  exact X.widen (by omega) (by omega) (next _ ⟨pl, sl, th, ki, el, nu, wa, wo, pg, ga, sh, mki, mel, mto, mio, mwy, mme, mhs, mso, msr, mrs, mce, mcp, R, C, op, (thM R C op), slots, ap, rr, rd, (ctF kinds (thM R C op)), al, kinds, elders, numbers, waf, wof, sp, sg1, shf, asked, fi, 0, hq, tq, iq, wq, mq, hsf, sof, srf, rsf, cef, cpf, pool, abs, ivmk rfl hRL hWY2 hPO hMS⟩)

set_option maxRecDepth 20000 in
set_option maxHeartbeats 400000 in
theorem law_15 {φ : Fx} {g : Gx} {nm : String} {b Ln qB o mo ii k n : Nat} {xs : Nat → Int32} {w : va_W} (K0 : Cx φ g ⟨RL, nm, ""⟩ cL_law 4 9 328 600000 7302250) (hsc : Sc φ b Ln xs) (hB : Sb φ qB) (hii : ii + 8 ≤ Ln) (hLn : Ln ≤ 4096) (hk : k + 2 ≤ 600000) (hn : n + 40 ≤ 7302250) (hI : IV g o mo w) (next : ∀ w', IV g o mo w' → X φ (k + 2) (n + 40) w' [(0, .ref b), (1, .ref o), (2, .ref mo), (3, .int (nI ii))] 1101 []) : X φ k n w [(0, .ref b), (1, .ref o), (2, .ref mo), (3, .int (nI ii))] 695 [] := by
  obtain ⟨pl, sl, th, ki, el, nu, wa, wo, pg, ga, sh, mki, mel, mto, mio, mwy, mme, mhs, mso, msr, mrs, mce, mcp, R, C, op, T, slots, ap, rr, rd, m, al, kinds, elders, numbers, waf, wof, sp, sg, shf, asked, fi, tn, hwb, tof, iof, wyf, mef, hsf, sof, srf, rsf, cef, cpf, pool, abs, hIVw⟩ := hI
  obtain ⟨rfl, hRL, hWY, hPO, hMS⟩ := hIVw
  have hTe := hRL.2.2.1
  have hme := hRL.meq
  subst hTe
  subst hme
  have hR := hRL.1
  have hC := hRL.2.1
  have hKI := hRL.2.2.2.2.2.2.2.1
  have hDV := hRL.2.2.2.2.2.2.2.2
  have hT := th_M (op := op) hR hC
  have hm := hKI.2
  show X φ k n ((o, oMain pl th pg ga sh asked fi) :: (pl, oPlan (nI R) (nI C) (bI op) (nI (thM R C op)) ap rr rd sl) :: (sl, aI g 40 slots) :: (th, oThings pl ki el nu (nI (ctF kinds (thM R C op))) al wa wo) :: (ki, aI g 40 kinds) :: (el, aI g 40 elders) :: (nu, aI g 40 numbers) :: (wa, aJ g 12 waf) :: (wo, aJ g 12 wof) :: (pg, oGrid (nI R) (nI C) sp.1 sp.2.1 sp.2.2) :: (ga, oGrid sg.1 sg.2.1 sg.2.2.1 sg.2.2.2.1 sg.2.2.2.2) :: (sh, aS g 3 shf) :: (mo, oModel tn fi asked (nI R) (nI C) (bI op) mki mel mto mio mwy (bI hwb) mme mhs mso msr mrs mce mcp) :: (mki, aI g 40 kinds) :: (mel, aI g 40 elders) :: (mto, aI g 25 tof) :: (mio, aZ g 40 iof) :: (mwy, aI g 4096 wyf) :: (mme, aZ g 36 mef) :: (mhs, aZ g 3 hsf) :: (mso, aI g 3 sof) :: (msr, aI g 3 srf) :: (mrs, aI g 12 rsf) :: (mce, aI g 480 cef) :: (mcp, aI g 40 cpf) :: pool) [(0, .ref b), (1, .ref o), (2, .ref mo), (3, .int (nI ii))] 695 []
  refine X_aload_n K0 1 dL_law_695 rfl rfl ?_
  refine X_aload_n K0 0 dL_law_696 rfl rfl ?_
  refine X_iload_n K0 3 dL_law_697 rfl rfl ?_
  refine X_iconst (v := 1) K0 dL_law_698 (by decide) ?_
  refine X_iadd K0 dL_law_699 ?_
  refine X_v (z := (nI (ii + 1))) (nI_add ii 1) ?_
  refine X_sld K0 hsc (by omega) hLn dL_law_700 ?_
  refine X_aload_n K0 0 dL_law_701 rfl rfl ?_
  refine X_iload_n K0 3 dL_law_702 rfl rfl ?_
  refine X_iconst (v := 2) K0 dL_law_703 (by decide) ?_
  refine X_iadd K0 dL_law_704 ?_
  refine X_v (z := (nI (ii + 2))) (nI_add ii 2) ?_
  refine X_sld K0 hsc (by omega) hLn dL_law_705 ?_
  refine X_aload_n K0 0 dL_law_706 rfl rfl ?_
  refine X_iload_n K0 3 dL_law_707 rfl rfl ?_
  refine X_iconst (v := 3) K0 dL_law_708 (by decide) ?_
  refine X_iadd K0 dL_law_709 ?_
  refine X_v (z := (nI (ii + 3))) (nI_add ii 3) ?_
  refine X_sld K0 hsc (by omega) hLn dL_law_710 ?_
  refine X_callV (As := [.int (xs ((ii + 1))), .int (xs ((ii + 2))), .int (xs ((ii + 3)))]) (rest := []) K0 0 (c_chance g o pl sl th ki el nu wa wo pg ga sh R C op (thM R C op) slots ap rr rd (ctF kinds (thM R C op)) al kinds elders numbers waf wof sp sg shf asked fi ((mo, oModel tn fi asked (nI R) (nI C) (bI op) mki mel mto mio mwy (bI hwb) mme mhs mso msr mrs mce mcp) :: (mki, aI g 40 kinds) :: (mel, aI g 40 elders) :: (mto, aI g 25 tof) :: (mio, aZ g 40 iof) :: (mwy, aI g 4096 wyf) :: (mme, aZ g 36 mef) :: (mhs, aZ g 3 hsf) :: (mso, aI g 3 sof) :: (msr, aI g 3 srf) :: (mrs, aI g 12 rsf) :: (mce, aI g 480 cef) :: (mcp, aI g 40 cpf) :: pool) hR hC hT hm (xs ((ii + 1))) (xs ((ii + 2))) (xs ((ii + 3)))) mi_X4_chance rfl rfl rfl ml_RL_77 rfl (Nat.le_of_ble_eq_true rfl) (by decide) ⟨by omega, by omega⟩ rfl rfl dL_law_711 ?_
  intro v w' hr'; obtain ⟨rfl, sp1, rfl⟩ := hr'
  show X φ k n ((o, oMain pl th pg ga sh asked fi) :: (pl, oPlan (nI R) (nI C) (bI op) (nI (thM R C op)) ap rr rd sl) :: (sl, aI g 40 slots) :: (th, oThings pl ki el nu (nI (ctF kinds (thM R C op))) al wa wo) :: (ki, aI g 40 kinds) :: (el, aI g 40 elders) :: (nu, aI g 40 numbers) :: (wa, aJ g 12 waf) :: (wo, aJ g 12 wof) :: (pg, oGrid (nI R) (nI C) sp1.1 sp1.2.1 sp1.2.2) :: (ga, oGrid sg.1 sg.2.1 sg.2.2.1 sg.2.2.2.1 sg.2.2.2.2) :: (sh, aS g 3 shf) :: (mo, oModel tn fi asked (nI R) (nI C) (bI op) mki mel mto mio mwy (bI hwb) mme mhs mso msr mrs mce mcp) :: (mki, aI g 40 kinds) :: (mel, aI g 40 elders) :: (mto, aI g 25 tof) :: (mio, aZ g 40 iof) :: (mwy, aI g 4096 wyf) :: (mme, aZ g 36 mef) :: (mhs, aZ g 3 hsf) :: (mso, aI g 3 sof) :: (msr, aI g 3 srf) :: (mrs, aI g 12 rsf) :: (mce, aI g 480 cef) :: (mcp, aI g 40 cpf) :: pool) [(0, .ref b), (1, .ref o), (2, .ref mo), (3, .int (nI ii))] 714 [.long (cvV R C op ap rr rd al waf wof (ctF kinds (thM R C op)) (xs ((ii + 1))) (xs ((ii + 2))) (xs ((ii + 3))))]
  refine X_aload_n K0 2 dL_law_714 rfl rfl ?_
  refine X_aload_n K0 0 dL_law_715 rfl rfl ?_
  refine X_iload_n K0 3 dL_law_716 rfl rfl ?_
  refine X_iconst (v := 1) K0 dL_law_717 (by decide) ?_
  refine X_iadd K0 dL_law_718 ?_
  refine X_v (z := (nI (ii + 1))) (nI_add ii 1) ?_
  refine X_sld K0 hsc (by omega) hLn dL_law_719 ?_
  refine X_aload_n K0 0 dL_law_720 rfl rfl ?_
  refine X_iload_n K0 3 dL_law_721 rfl rfl ?_
  refine X_iconst (v := 2) K0 dL_law_722 (by decide) ?_
  refine X_iadd K0 dL_law_723 ?_
  refine X_v (z := (nI (ii + 2))) (nI_add ii 2) ?_
  refine X_sld K0 hsc (by omega) hLn dL_law_724 ?_
  refine X_aload_n K0 0 dL_law_725 rfl rfl ?_
  refine X_iload_n K0 3 dL_law_726 rfl rfl ?_
  refine X_iconst (v := 3) K0 dL_law_727 (by decide) ?_
  refine X_iadd K0 dL_law_728 ?_
  refine X_v (z := (nI (ii + 3))) (nI_add ii 3) ?_
  refine X_sld K0 hsc (by omega) hLn dL_law_729 ?_
  refine X_callV (As := [.int (xs ((ii + 1))), .int (xs ((ii + 2))), .int (xs ((ii + 3)))]) (rest := [.long (cvV R C op ap rr rd al waf wof (ctF kinds (thM R C op)) (xs ((ii + 1))) (xs ((ii + 2))) (xs ((ii + 3))))]) K0 12 (m_chance g (o, oMain pl th pg ga sh asked fi) (pl, oPlan (nI R) (nI C) (bI op) (nI (thM R C op)) ap rr rd sl) (sl, aI g 40 slots) (th, oThings pl ki el nu (nI (ctF kinds (thM R C op))) al wa wo) (ki, aI g 40 kinds) (el, aI g 40 elders) (nu, aI g 40 numbers) (wa, aJ g 12 waf) (wo, aJ g 12 wof) (pg, oGrid (nI R) (nI C) sp1.1 sp1.2.1 sp1.2.2) (ga, oGrid sg.1 sg.2.1 sg.2.2.1 sg.2.2.2.1 sg.2.2.2.2) (sh, aS g 3 shf) mo mki mel mto mio mwy mme mhs mso msr mrs mce mcp tn fi asked R C op hwb kinds elders tof iof wyf mef hsf sof srf rsf cef cpf pool hR hC hKI hWY (xs ((ii + 1))) (xs ((ii + 2))) (xs ((ii + 3)))) mi_X5_chance rfl rfl rfl ml_RL_81 rfl (Nat.le_of_ble_eq_true rfl) (by decide) ⟨by omega, by omega⟩ rfl rfl dL_law_730 ?_
  intro v w' hr'; obtain ⟨rfl, tq, iq, wq, mq, hq, hWY2, rfl⟩ := hr'
  show X φ k n ((o, oMain pl th pg ga sh asked fi) :: (pl, oPlan (nI R) (nI C) (bI op) (nI (thM R C op)) ap rr rd sl) :: (sl, aI g 40 slots) :: (th, oThings pl ki el nu (nI (ctF kinds (thM R C op))) al wa wo) :: (ki, aI g 40 kinds) :: (el, aI g 40 elders) :: (nu, aI g 40 numbers) :: (wa, aJ g 12 waf) :: (wo, aJ g 12 wof) :: (pg, oGrid (nI R) (nI C) sp1.1 sp1.2.1 sp1.2.2) :: (ga, oGrid sg.1 sg.2.1 sg.2.2.1 sg.2.2.2.1 sg.2.2.2.2) :: (sh, aS g 3 shf) :: (mo, oModel 0 fi asked (nI R) (nI C) (bI op) mki mel mto mio mwy (bI hq) mme mhs mso msr mrs mce mcp) :: (mki, aI g 40 kinds) :: (mel, aI g 40 elders) :: (mto, aI g 25 tq) :: (mio, aZ g 40 iq) :: (mwy, aI g 4096 wq) :: (mme, aZ g 36 mq) :: (mhs, aZ g 3 hsf) :: (mso, aI g 3 sof) :: (msr, aI g 3 srf) :: (mrs, aI g 12 rsf) :: (mce, aI g 480 cef) :: (mcp, aI g 40 cpf) :: pool) [(0, .ref b), (1, .ref o), (2, .ref mo), (3, .int (nI ii))] 733 [.long (cvVM R C op kinds elders (xs ((ii + 1))) (xs ((ii + 2))) (xs ((ii + 3)))), .long (cvV R C op ap rr rd al waf wof (ctF kinds (thM R C op)) (xs ((ii + 1))) (xs ((ii + 2))) (xs ((ii + 3))))]
  refine X_lcmp K0 dL_law_733 ?_
  refine X_if_eq K0 1101 dL_law_734 (by decide) (fun _ => ?_) (fun h => absurd ((lg_cmp_eq _ _).mpr (hRL.chance _ _ _)) h)
  exact X.widen (by omega) (by omega) (next _ ⟨pl, sl, th, ki, el, nu, wa, wo, pg, ga, sh, mki, mel, mto, mio, mwy, mme, mhs, mso, msr, mrs, mce, mcp, R, C, op, (thM R C op), slots, ap, rr, rd, (ctF kinds (thM R C op)), al, kinds, elders, numbers, waf, wof, sp1, sg, shf, asked, fi, 0, hq, tq, iq, wq, mq, hsf, sof, srf, rsf, cef, cpf, pool, abs, ivmk rfl hRL hWY2 hPO hMS⟩)

set_option maxRecDepth 20000 in
set_option maxHeartbeats 400000 in
theorem law_17 {φ : Fx} {g : Gx} {nm : String} {b Ln qB o mo ii k n : Nat} {xs : Nat → Int32} {w : va_W} (K0 : Cx φ g ⟨RL, nm, ""⟩ cL_law 4 9 328 600000 7302250) (hsc : Sc φ b Ln xs) (hB : Sb φ qB) (hii : ii + 8 ≤ Ln) (hLn : Ln ≤ 4096) (hk : k + 2 ≤ 600000) (hn : n + 40 ≤ 7302250) (hI : IV g o mo w) (next : ∀ w', IV g o mo w' → X φ (k + 2) (n + 40) w' [(0, .ref b), (1, .ref o), (2, .ref mo), (3, .int (nI ii))] 1101 []) : X φ k n w [(0, .ref b), (1, .ref o), (2, .ref mo), (3, .int (nI ii))] 772 [] := by
  obtain ⟨pl, sl, th, ki, el, nu, wa, wo, pg, ga, sh, mki, mel, mto, mio, mwy, mme, mhs, mso, msr, mrs, mce, mcp, R, C, op, T, slots, ap, rr, rd, m, al, kinds, elders, numbers, waf, wof, sp, sg, shf, asked, fi, tn, hwb, tof, iof, wyf, mef, hsf, sof, srf, rsf, cef, cpf, pool, abs, hIVw⟩ := hI
  obtain ⟨rfl, hRL, hWY, hPO, hMS⟩ := hIVw
  have hTe := hRL.2.2.1
  have hme := hRL.meq
  subst hTe
  subst hme
  have hR := hRL.1
  have hC := hRL.2.1
  have hKI := hRL.2.2.2.2.2.2.2.1
  have hDV := hRL.2.2.2.2.2.2.2.2
  have hT := th_M (op := op) hR hC
  have hm := hKI.2
  show X φ k n ((o, oMain pl th pg ga sh asked fi) :: (pl, oPlan (nI R) (nI C) (bI op) (nI (thM R C op)) ap rr rd sl) :: (sl, aI g 40 slots) :: (th, oThings pl ki el nu (nI (ctF kinds (thM R C op))) al wa wo) :: (ki, aI g 40 kinds) :: (el, aI g 40 elders) :: (nu, aI g 40 numbers) :: (wa, aJ g 12 waf) :: (wo, aJ g 12 wof) :: (pg, oGrid (nI R) (nI C) sp.1 sp.2.1 sp.2.2) :: (ga, oGrid sg.1 sg.2.1 sg.2.2.1 sg.2.2.2.1 sg.2.2.2.2) :: (sh, aS g 3 shf) :: (mo, oModel tn fi asked (nI R) (nI C) (bI op) mki mel mto mio mwy (bI hwb) mme mhs mso msr mrs mce mcp) :: (mki, aI g 40 kinds) :: (mel, aI g 40 elders) :: (mto, aI g 25 tof) :: (mio, aZ g 40 iof) :: (mwy, aI g 4096 wyf) :: (mme, aZ g 36 mef) :: (mhs, aZ g 3 hsf) :: (mso, aI g 3 sof) :: (msr, aI g 3 srf) :: (mrs, aI g 12 rsf) :: (mce, aI g 480 cef) :: (mcp, aI g 40 cpf) :: pool) [(0, .ref b), (1, .ref o), (2, .ref mo), (3, .int (nI ii))] 772 []
  refine X_aload_n K0 1 dL_law_772 rfl rfl ?_
  refine X_aload_n K0 0 dL_law_773 rfl rfl ?_
  refine X_iload_n K0 3 dL_law_774 rfl rfl ?_
  refine X_iconst (v := 1) K0 dL_law_775 (by decide) ?_
  refine X_iadd K0 dL_law_776 ?_
  refine X_v (z := (nI (ii + 1))) (nI_add ii 1) ?_
  refine X_sld K0 hsc (by omega) hLn dL_law_777 ?_
  refine X_aload_n K0 0 dL_law_778 rfl rfl ?_
  refine X_iload_n K0 3 dL_law_779 rfl rfl ?_
  refine X_iconst (v := 2) K0 dL_law_780 (by decide) ?_
  refine X_iadd K0 dL_law_781 ?_
  refine X_v (z := (nI (ii + 2))) (nI_add ii 2) ?_
  refine X_sld K0 hsc (by omega) hLn dL_law_782 ?_
  refine X_callV (As := [.int (xs ((ii + 1))), .int (xs ((ii + 2)))]) (rest := []) K0 0 (c_first g o pl sl th ki el nu wa wo pg ga sh R C op (thM R C op) slots ap rr rd (ctF kinds (thM R C op)) al kinds elders numbers waf wof sp sg shf asked fi ((mo, oModel tn fi asked (nI R) (nI C) (bI op) mki mel mto mio mwy (bI hwb) mme mhs mso msr mrs mce mcp) :: (mki, aI g 40 kinds) :: (mel, aI g 40 elders) :: (mto, aI g 25 tof) :: (mio, aZ g 40 iof) :: (mwy, aI g 4096 wyf) :: (mme, aZ g 36 mef) :: (mhs, aZ g 3 hsf) :: (mso, aI g 3 sof) :: (msr, aI g 3 srf) :: (mrs, aI g 12 rsf) :: (mce, aI g 480 cef) :: (mcp, aI g 40 cpf) :: pool) hR hC hT hm (xs ((ii + 1))) (xs ((ii + 2)))) mi_X4_first rfl rfl rfl ml_RL_86 rfl (Nat.le_of_ble_eq_true rfl) (by decide) ⟨by omega, by omega⟩ rfl rfl dL_law_783 ?_
  intro v w' hr'; obtain ⟨⟨r1, rfl, hf1⟩, sp1, rfl⟩ := hr'
  show X φ k n ((o, oMain pl th pg ga sh asked fi) :: (pl, oPlan (nI R) (nI C) (bI op) (nI (thM R C op)) ap rr rd sl) :: (sl, aI g 40 slots) :: (th, oThings pl ki el nu (nI (ctF kinds (thM R C op))) al wa wo) :: (ki, aI g 40 kinds) :: (el, aI g 40 elders) :: (nu, aI g 40 numbers) :: (wa, aJ g 12 waf) :: (wo, aJ g 12 wof) :: (pg, oGrid (nI R) (nI C) sp1.1 sp1.2.1 sp1.2.2) :: (ga, oGrid sg.1 sg.2.1 sg.2.2.1 sg.2.2.2.1 sg.2.2.2.2) :: (sh, aS g 3 shf) :: (mo, oModel tn fi asked (nI R) (nI C) (bI op) mki mel mto mio mwy (bI hwb) mme mhs mso msr mrs mce mcp) :: (mki, aI g 40 kinds) :: (mel, aI g 40 elders) :: (mto, aI g 25 tof) :: (mio, aZ g 40 iof) :: (mwy, aI g 4096 wyf) :: (mme, aZ g 36 mef) :: (mhs, aZ g 3 hsf) :: (mso, aI g 3 sof) :: (msr, aI g 3 srf) :: (mrs, aI g 12 rsf) :: (mce, aI g 480 cef) :: (mcp, aI g 40 cpf) :: pool) [(0, .ref b), (1, .ref o), (2, .ref mo), (3, .int (nI ii))] 786 [.int r1]
  refine X_aload_n K0 2 dL_law_786 rfl rfl ?_
  refine X_aload_n K0 0 dL_law_787 rfl rfl ?_
  refine X_iload_n K0 3 dL_law_788 rfl rfl ?_
  refine X_iconst (v := 1) K0 dL_law_789 (by decide) ?_
  refine X_iadd K0 dL_law_790 ?_
  refine X_v (z := (nI (ii + 1))) (nI_add ii 1) ?_
  refine X_sld K0 hsc (by omega) hLn dL_law_791 ?_
  refine X_aload_n K0 0 dL_law_792 rfl rfl ?_
  refine X_iload_n K0 3 dL_law_793 rfl rfl ?_
  refine X_iconst (v := 2) K0 dL_law_794 (by decide) ?_
  refine X_iadd K0 dL_law_795 ?_
  refine X_v (z := (nI (ii + 2))) (nI_add ii 2) ?_
  refine X_sld K0 hsc (by omega) hLn dL_law_796 ?_
  refine X_callV (As := [.int (xs ((ii + 1))), .int (xs ((ii + 2)))]) (rest := [.int r1]) K0 12 (m_first g (o, oMain pl th pg ga sh asked fi) (pl, oPlan (nI R) (nI C) (bI op) (nI (thM R C op)) ap rr rd sl) (sl, aI g 40 slots) (th, oThings pl ki el nu (nI (ctF kinds (thM R C op))) al wa wo) (ki, aI g 40 kinds) (el, aI g 40 elders) (nu, aI g 40 numbers) (wa, aJ g 12 waf) (wo, aJ g 12 wof) (pg, oGrid (nI R) (nI C) sp1.1 sp1.2.1 sp1.2.2) (ga, oGrid sg.1 sg.2.1 sg.2.2.1 sg.2.2.2.1 sg.2.2.2.2) (sh, aS g 3 shf) mo mki mel mto mio mwy mme mhs mso msr mrs mce mcp tn fi asked R C op hwb kinds elders tof iof wyf mef hsf sof srf rsf cef cpf pool hR hC hKI hWY (xs ((ii + 1))) (xs ((ii + 2)))) mi_X5_first rfl rfl rfl ml_RL_89 rfl (Nat.le_of_ble_eq_true rfl) (by decide) ⟨by omega, by omega⟩ rfl rfl dL_law_797 ?_
  intro v w' hr'; obtain ⟨⟨r2, rfl, hf2⟩, tq, iq, wq, mq, hq, hWY2, rfl⟩ := hr'
  show X φ k n ((o, oMain pl th pg ga sh asked fi) :: (pl, oPlan (nI R) (nI C) (bI op) (nI (thM R C op)) ap rr rd sl) :: (sl, aI g 40 slots) :: (th, oThings pl ki el nu (nI (ctF kinds (thM R C op))) al wa wo) :: (ki, aI g 40 kinds) :: (el, aI g 40 elders) :: (nu, aI g 40 numbers) :: (wa, aJ g 12 waf) :: (wo, aJ g 12 wof) :: (pg, oGrid (nI R) (nI C) sp1.1 sp1.2.1 sp1.2.2) :: (ga, oGrid sg.1 sg.2.1 sg.2.2.1 sg.2.2.2.1 sg.2.2.2.2) :: (sh, aS g 3 shf) :: (mo, oModel 0 fi asked (nI R) (nI C) (bI op) mki mel mto mio mwy (bI hq) mme mhs mso msr mrs mce mcp) :: (mki, aI g 40 kinds) :: (mel, aI g 40 elders) :: (mto, aI g 25 tq) :: (mio, aZ g 40 iq) :: (mwy, aI g 4096 wq) :: (mme, aZ g 36 mq) :: (mhs, aZ g 3 hsf) :: (mso, aI g 3 sof) :: (msr, aI g 3 srf) :: (mrs, aI g 12 rsf) :: (mce, aI g 480 cef) :: (mcp, aI g 40 cpf) :: pool) [(0, .ref b), (1, .ref o), (2, .ref mo), (3, .int (nI ii))] 800 [.int r2, .int r1]
  refine X_icmp_eq K0 1101 dL_law_800 (by decide) (fun _ => ?_) (fun h => absurd (hRL.first hf1 hf2) h)
  exact X.widen (by omega) (by omega) (next _ ⟨pl, sl, th, ki, el, nu, wa, wo, pg, ga, sh, mki, mel, mto, mio, mwy, mme, mhs, mso, msr, mrs, mce, mcp, R, C, op, (thM R C op), slots, ap, rr, rd, (ctF kinds (thM R C op)), al, kinds, elders, numbers, waf, wof, sp1, sg, shf, asked, fi, 0, hq, tq, iq, wq, mq, hsf, sof, srf, rsf, cef, cpf, pool, abs, ivmk rfl hRL hWY2 hPO hMS⟩)

set_option maxRecDepth 20000 in
set_option maxHeartbeats 400000 in
theorem law_23 {φ : Fx} {g : Gx} {nm : String} {b Ln qB o mo ii k n : Nat} {xs : Nat → Int32} {w : va_W} (K0 : Cx φ g ⟨RL, nm, ""⟩ cL_law 4 9 328 600000 7302250) (hsc : Sc φ b Ln xs) (hB : Sb φ qB) (hii : ii + 8 ≤ Ln) (hLn : Ln ≤ 4096) (hk : k + 2 ≤ 600000) (hn : n + 40 ≤ 7302250) (hI : IV g o mo w) (next : ∀ w', IV g o mo w' → X φ (k + 2) (n + 40) w' [(0, .ref b), (1, .ref o), (2, .ref mo), (3, .int (nI ii))] 1101 []) : X φ k n w [(0, .ref b), (1, .ref o), (2, .ref mo), (3, .int (nI ii))] 1074 [] := by
  obtain ⟨pl, sl, th, ki, el, nu, wa, wo, pg, ga, sh, mki, mel, mto, mio, mwy, mme, mhs, mso, msr, mrs, mce, mcp, R, C, op, T, slots, ap, rr, rd, m, al, kinds, elders, numbers, waf, wof, sp, sg, shf, asked, fi, tn, hwb, tof, iof, wyf, mef, hsf, sof, srf, rsf, cef, cpf, pool, abs, hIVw⟩ := hI
  obtain ⟨rfl, hRL, hWY, hPO, hMS⟩ := hIVw
  have hTe := hRL.2.2.1
  have hme := hRL.meq
  subst hTe
  subst hme
  have hR := hRL.1
  have hC := hRL.2.1
  have hKI := hRL.2.2.2.2.2.2.2.1
  have hDV := hRL.2.2.2.2.2.2.2.2
  have hT := th_M (op := op) hR hC
  have hm := hKI.2
  show X φ k n ((o, oMain pl th pg ga sh asked fi) :: (pl, oPlan (nI R) (nI C) (bI op) (nI (thM R C op)) ap rr rd sl) :: (sl, aI g 40 slots) :: (th, oThings pl ki el nu (nI (ctF kinds (thM R C op))) al wa wo) :: (ki, aI g 40 kinds) :: (el, aI g 40 elders) :: (nu, aI g 40 numbers) :: (wa, aJ g 12 waf) :: (wo, aJ g 12 wof) :: (pg, oGrid (nI R) (nI C) sp.1 sp.2.1 sp.2.2) :: (ga, oGrid sg.1 sg.2.1 sg.2.2.1 sg.2.2.2.1 sg.2.2.2.2) :: (sh, aS g 3 shf) :: (mo, oModel tn fi asked (nI R) (nI C) (bI op) mki mel mto mio mwy (bI hwb) mme mhs mso msr mrs mce mcp) :: (mki, aI g 40 kinds) :: (mel, aI g 40 elders) :: (mto, aI g 25 tof) :: (mio, aZ g 40 iof) :: (mwy, aI g 4096 wyf) :: (mme, aZ g 36 mef) :: (mhs, aZ g 3 hsf) :: (mso, aI g 3 sof) :: (msr, aI g 3 srf) :: (mrs, aI g 12 rsf) :: (mce, aI g 480 cef) :: (mcp, aI g 40 cpf) :: pool) [(0, .ref b), (1, .ref o), (2, .ref mo), (3, .int (nI ii))] 1074 []
  refine X_aload_n K0 1 dL_law_1074 rfl rfl ?_
  refine X_callV (As := []) (rest := []) K0 0 (c_trace g o pl sl th ki el nu wa wo pg ga sh R C op (thM R C op) slots ap rr rd (ctF kinds (thM R C op)) al kinds elders numbers waf wof sp sg shf asked fi ((mo, oModel tn fi asked (nI R) (nI C) (bI op) mki mel mto mio mwy (bI hwb) mme mhs mso msr mrs mce mcp) :: (mki, aI g 40 kinds) :: (mel, aI g 40 elders) :: (mto, aI g 25 tof) :: (mio, aZ g 40 iof) :: (mwy, aI g 4096 wyf) :: (mme, aZ g 36 mef) :: (mhs, aZ g 3 hsf) :: (mso, aI g 3 sof) :: (msr, aI g 3 srf) :: (mrs, aI g 12 rsf) :: (mce, aI g 480 cef) :: (mcp, aI g 40 cpf) :: pool) hR hC hT hm ) mi_X4_trace rfl rfl rfl ml_RL_112 rfl (Nat.le_of_ble_eq_true rfl) (by decide) ⟨by omega, by omega⟩ rfl rfl dL_law_1075 ?_
  intro v w' hr'; obtain ⟨rfl, rfl⟩ := hr'
  show X φ k n ((o, oMain pl th pg ga sh asked fi) :: (pl, oPlan (nI R) (nI C) (bI op) (nI (thM R C op)) ap rr rd sl) :: (sl, aI g 40 slots) :: (th, oThings pl ki el nu (nI (ctF kinds (thM R C op))) al wa wo) :: (ki, aI g 40 kinds) :: (el, aI g 40 elders) :: (nu, aI g 40 numbers) :: (wa, aJ g 12 waf) :: (wo, aJ g 12 wof) :: (pg, oGrid (nI R) (nI C) sp.1 sp.2.1 sp.2.2) :: (ga, oGrid sg.1 sg.2.1 sg.2.2.1 sg.2.2.2.1 sg.2.2.2.2) :: (sh, aS g 3 shf) :: (mo, oModel tn fi asked (nI R) (nI C) (bI op) mki mel mto mio mwy (bI hwb) mme mhs mso msr mrs mce mcp) :: (mki, aI g 40 kinds) :: (mel, aI g 40 elders) :: (mto, aI g 25 tof) :: (mio, aZ g 40 iof) :: (mwy, aI g 4096 wyf) :: (mme, aZ g 36 mef) :: (mhs, aZ g 3 hsf) :: (mso, aI g 3 sof) :: (msr, aI g 3 srf) :: (mrs, aI g 12 rsf) :: (mce, aI g 480 cef) :: (mcp, aI g 40 cpf) :: pool) [(0, .ref b), (1, .ref o), (2, .ref mo), (3, .int (nI ii))] 1078 [.long asked]
  refine X_aload_n K0 2 dL_law_1078 rfl rfl ?_
  refine X_callV (As := []) (rest := [.long asked]) K0 12 (m_trace g (o, oMain pl th pg ga sh asked fi) (pl, oPlan (nI R) (nI C) (bI op) (nI (thM R C op)) ap rr rd sl) (sl, aI g 40 slots) (th, oThings pl ki el nu (nI (ctF kinds (thM R C op))) al wa wo) (ki, aI g 40 kinds) (el, aI g 40 elders) (nu, aI g 40 numbers) (wa, aJ g 12 waf) (wo, aJ g 12 wof) (pg, oGrid (nI R) (nI C) sp.1 sp.2.1 sp.2.2) (ga, oGrid sg.1 sg.2.1 sg.2.2.1 sg.2.2.2.1 sg.2.2.2.2) (sh, aS g 3 shf) mo mki mel mto mio mwy mme mhs mso msr mrs mce mcp tn fi asked R C op hwb kinds elders tof iof wyf mef hsf sof srf rsf cef cpf pool  ) mi_X5_trace rfl rfl rfl ml_RL_116 rfl (Nat.le_of_ble_eq_true rfl) (by decide) ⟨by omega, by omega⟩ rfl rfl dL_law_1079 ?_
  intro v w' hr'; obtain ⟨rfl, rfl⟩ := hr'
  show X φ k n ((o, oMain pl th pg ga sh asked fi) :: (pl, oPlan (nI R) (nI C) (bI op) (nI (thM R C op)) ap rr rd sl) :: (sl, aI g 40 slots) :: (th, oThings pl ki el nu (nI (ctF kinds (thM R C op))) al wa wo) :: (ki, aI g 40 kinds) :: (el, aI g 40 elders) :: (nu, aI g 40 numbers) :: (wa, aJ g 12 waf) :: (wo, aJ g 12 wof) :: (pg, oGrid (nI R) (nI C) sp.1 sp.2.1 sp.2.2) :: (ga, oGrid sg.1 sg.2.1 sg.2.2.1 sg.2.2.2.1 sg.2.2.2.2) :: (sh, aS g 3 shf) :: (mo, oModel 0 fi asked (nI R) (nI C) (bI op) mki mel mto mio mwy (bI hwb) mme mhs mso msr mrs mce mcp) :: (mki, aI g 40 kinds) :: (mel, aI g 40 elders) :: (mto, aI g 25 tof) :: (mio, aZ g 40 iof) :: (mwy, aI g 4096 wyf) :: (mme, aZ g 36 mef) :: (mhs, aZ g 3 hsf) :: (mso, aI g 3 sof) :: (msr, aI g 3 srf) :: (mrs, aI g 12 rsf) :: (mce, aI g 480 cef) :: (mcp, aI g 40 cpf) :: pool) [(0, .ref b), (1, .ref o), (2, .ref mo), (3, .int (nI ii))] 1082 [.long asked, .long asked]
  refine X_lcmp K0 dL_law_1082 ?_
  refine X_if_eq K0 1101 dL_law_1083 (by decide) (fun _ => ?_) (fun h => absurd ((lg_cmp_eq _ _).mpr (rfl)) h)
  exact X.widen (by omega) (by omega) (next _ ⟨pl, sl, th, ki, el, nu, wa, wo, pg, ga, sh, mki, mel, mto, mio, mwy, mme, mhs, mso, msr, mrs, mce, mcp, R, C, op, (thM R C op), slots, ap, rr, rd, (ctF kinds (thM R C op)), al, kinds, elders, numbers, waf, wof, sp, sg, shf, asked, fi, 0, hwb, tof, iof, wyf, mef, hsf, sof, srf, rsf, cef, cpf, pool, abs, ivmk rfl hRL hWY hPO hMS⟩)

set_option maxRecDepth 20000 in
set_option maxHeartbeats 400000 in
theorem law_24 {φ : Fx} {g : Gx} {nm : String} {b Ln qB o mo ii k n : Nat} {xs : Nat → Int32} {w : va_W} (K0 : Cx φ g ⟨RL, nm, ""⟩ cL_law 4 9 328 600000 7302250) (hsc : Sc φ b Ln xs) (hB : Sb φ qB) (hii : ii + 8 ≤ Ln) (hLn : Ln ≤ 4096) (hk : k + 2 ≤ 600000) (hn : n + 40 ≤ 7302250) (hI : IV g o mo w) (next : ∀ w', IV g o mo w' → X φ (k + 2) (n + 40) w' [(0, .ref b), (1, .ref o), (2, .ref mo), (3, .int (nI ii))] 1101 []) : X φ k n w [(0, .ref b), (1, .ref o), (2, .ref mo), (3, .int (nI ii))] 1088 [] := by
  obtain ⟨pl, sl, th, ki, el, nu, wa, wo, pg, ga, sh, mki, mel, mto, mio, mwy, mme, mhs, mso, msr, mrs, mce, mcp, R, C, op, T, slots, ap, rr, rd, m, al, kinds, elders, numbers, waf, wof, sp, sg, shf, asked, fi, tn, hwb, tof, iof, wyf, mef, hsf, sof, srf, rsf, cef, cpf, pool, abs, hIVw⟩ := hI
  obtain ⟨rfl, hRL, hWY, hPO, hMS⟩ := hIVw
  have hTe := hRL.2.2.1
  have hme := hRL.meq
  subst hTe
  subst hme
  have hR := hRL.1
  have hC := hRL.2.1
  have hKI := hRL.2.2.2.2.2.2.2.1
  have hDV := hRL.2.2.2.2.2.2.2.2
  have hT := th_M (op := op) hR hC
  have hm := hKI.2
  show X φ k n ((o, oMain pl th pg ga sh asked fi) :: (pl, oPlan (nI R) (nI C) (bI op) (nI (thM R C op)) ap rr rd sl) :: (sl, aI g 40 slots) :: (th, oThings pl ki el nu (nI (ctF kinds (thM R C op))) al wa wo) :: (ki, aI g 40 kinds) :: (el, aI g 40 elders) :: (nu, aI g 40 numbers) :: (wa, aJ g 12 waf) :: (wo, aJ g 12 wof) :: (pg, oGrid (nI R) (nI C) sp.1 sp.2.1 sp.2.2) :: (ga, oGrid sg.1 sg.2.1 sg.2.2.1 sg.2.2.2.1 sg.2.2.2.2) :: (sh, aS g 3 shf) :: (mo, oModel tn fi asked (nI R) (nI C) (bI op) mki mel mto mio mwy (bI hwb) mme mhs mso msr mrs mce mcp) :: (mki, aI g 40 kinds) :: (mel, aI g 40 elders) :: (mto, aI g 25 tof) :: (mio, aZ g 40 iof) :: (mwy, aI g 4096 wyf) :: (mme, aZ g 36 mef) :: (mhs, aZ g 3 hsf) :: (mso, aI g 3 sof) :: (msr, aI g 3 srf) :: (mrs, aI g 12 rsf) :: (mce, aI g 480 cef) :: (mcp, aI g 40 cpf) :: pool) [(0, .ref b), (1, .ref o), (2, .ref mo), (3, .int (nI ii))] 1088 []
  refine X_aload_n K0 1 dL_law_1088 rfl rfl ?_
  refine X_callV (As := []) (rest := []) K0 0 (c_status g o pl sl th ki el nu wa wo pg ga sh R C op (thM R C op) slots ap rr rd (ctF kinds (thM R C op)) al kinds elders numbers waf wof sp sg shf asked fi ((mo, oModel tn fi asked (nI R) (nI C) (bI op) mki mel mto mio mwy (bI hwb) mme mhs mso msr mrs mce mcp) :: (mki, aI g 40 kinds) :: (mel, aI g 40 elders) :: (mto, aI g 25 tof) :: (mio, aZ g 40 iof) :: (mwy, aI g 4096 wyf) :: (mme, aZ g 36 mef) :: (mhs, aZ g 3 hsf) :: (mso, aI g 3 sof) :: (msr, aI g 3 srf) :: (mrs, aI g 12 rsf) :: (mce, aI g 480 cef) :: (mcp, aI g 40 cpf) :: pool) hR hC hT hm ) mi_X4_status rfl rfl rfl ml_RL_117 rfl (Nat.le_of_ble_eq_true rfl) (by decide) ⟨by omega, by omega⟩ rfl rfl dL_law_1089 ?_
  intro v w' hr'; obtain ⟨rfl, rfl⟩ := hr'
  show X φ k n ((o, oMain pl th pg ga sh asked fi) :: (pl, oPlan (nI R) (nI C) (bI op) (nI (thM R C op)) ap rr rd sl) :: (sl, aI g 40 slots) :: (th, oThings pl ki el nu (nI (ctF kinds (thM R C op))) al wa wo) :: (ki, aI g 40 kinds) :: (el, aI g 40 elders) :: (nu, aI g 40 numbers) :: (wa, aJ g 12 waf) :: (wo, aJ g 12 wof) :: (pg, oGrid (nI R) (nI C) sp.1 sp.2.1 sp.2.2) :: (ga, oGrid sg.1 sg.2.1 sg.2.2.1 sg.2.2.2.1 sg.2.2.2.2) :: (sh, aS g 3 shf) :: (mo, oModel tn fi asked (nI R) (nI C) (bI op) mki mel mto mio mwy (bI hwb) mme mhs mso msr mrs mce mcp) :: (mki, aI g 40 kinds) :: (mel, aI g 40 elders) :: (mto, aI g 25 tof) :: (mio, aZ g 40 iof) :: (mwy, aI g 4096 wyf) :: (mme, aZ g 36 mef) :: (mhs, aZ g 3 hsf) :: (mso, aI g 3 sof) :: (msr, aI g 3 srf) :: (mrs, aI g 12 rsf) :: (mce, aI g 480 cef) :: (mcp, aI g 40 cpf) :: pool) [(0, .ref b), (1, .ref o), (2, .ref mo), (3, .int (nI ii))] 1092 [.int fi]
  refine X_aload_n K0 2 dL_law_1092 rfl rfl ?_
  refine X_callV (As := []) (rest := [.int fi]) K0 12 (m_status g (o, oMain pl th pg ga sh asked fi) (pl, oPlan (nI R) (nI C) (bI op) (nI (thM R C op)) ap rr rd sl) (sl, aI g 40 slots) (th, oThings pl ki el nu (nI (ctF kinds (thM R C op))) al wa wo) (ki, aI g 40 kinds) (el, aI g 40 elders) (nu, aI g 40 numbers) (wa, aJ g 12 waf) (wo, aJ g 12 wof) (pg, oGrid (nI R) (nI C) sp.1 sp.2.1 sp.2.2) (ga, oGrid sg.1 sg.2.1 sg.2.2.1 sg.2.2.2.1 sg.2.2.2.2) (sh, aS g 3 shf) mo mki mel mto mio mwy mme mhs mso msr mrs mce mcp tn fi asked R C op hwb kinds elders tof iof wyf mef hsf sof srf rsf cef cpf pool  ) mi_X5_status rfl rfl rfl ml_RL_121 rfl (Nat.le_of_ble_eq_true rfl) (by decide) ⟨by omega, by omega⟩ rfl rfl dL_law_1093 ?_
  intro v w' hr'; obtain ⟨rfl, rfl⟩ := hr'
  show X φ k n ((o, oMain pl th pg ga sh asked fi) :: (pl, oPlan (nI R) (nI C) (bI op) (nI (thM R C op)) ap rr rd sl) :: (sl, aI g 40 slots) :: (th, oThings pl ki el nu (nI (ctF kinds (thM R C op))) al wa wo) :: (ki, aI g 40 kinds) :: (el, aI g 40 elders) :: (nu, aI g 40 numbers) :: (wa, aJ g 12 waf) :: (wo, aJ g 12 wof) :: (pg, oGrid (nI R) (nI C) sp.1 sp.2.1 sp.2.2) :: (ga, oGrid sg.1 sg.2.1 sg.2.2.1 sg.2.2.2.1 sg.2.2.2.2) :: (sh, aS g 3 shf) :: (mo, oModel 0 fi asked (nI R) (nI C) (bI op) mki mel mto mio mwy (bI hwb) mme mhs mso msr mrs mce mcp) :: (mki, aI g 40 kinds) :: (mel, aI g 40 elders) :: (mto, aI g 25 tof) :: (mio, aZ g 40 iof) :: (mwy, aI g 4096 wyf) :: (mme, aZ g 36 mef) :: (mhs, aZ g 3 hsf) :: (mso, aI g 3 sof) :: (msr, aI g 3 srf) :: (mrs, aI g 12 rsf) :: (mce, aI g 480 cef) :: (mcp, aI g 40 cpf) :: pool) [(0, .ref b), (1, .ref o), (2, .ref mo), (3, .int (nI ii))] 1096 [.int fi, .int fi]
  refine X_icmp_eq K0 1101 dL_law_1096 (by decide) (fun _ => ?_) (fun h => absurd (rfl) h)
  exact X.widen (by omega) (by omega) (next _ ⟨pl, sl, th, ki, el, nu, wa, wo, pg, ga, sh, mki, mel, mto, mio, mwy, mme, mhs, mso, msr, mrs, mce, mcp, R, C, op, (thM R C op), slots, ap, rr, rd, (ctF kinds (thM R C op)), al, kinds, elders, numbers, waf, wof, sp, sg, shf, asked, fi, 0, hwb, tof, iof, wyf, mef, hsf, sof, srf, rsf, cef, cpf, pool, abs, ivmk rfl hRL hWY hPO hMS⟩)
