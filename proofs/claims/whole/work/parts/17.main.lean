set_option maxRecDepth 20000 in
set_option maxHeartbeats 400000 in
theorem c_isThing (g : Gx) (o pl sl th ki el nu wa wo pg ga sh : Nat) (R C : Nat) (op : Bool) (T : Nat) (slots : Nat → Int32) (ap rr rd : Int32) (m : Nat) (al : Int64) (kinds elders numbers : Nat → Int32) (waf wof : Nat → Int64) (sp : Int32 × Int32 × Int32) (sg : Int32 × Int32 × Int32 × Int32 × Int32) (shf : Nat → Option Nat) (asked : Int64) (fi : Int32) (rest : va_W) (hR : 1 ≤ R ∧ R ≤ 5) (hC : 1 ≤ C ∧ C ≤ 5) (hT : T ≤ 40) (hm : m ≤ 12) (x : Int32) : Con g yX4_isThing cX4_isThing 2 (some .boolean) 1 22 0 0 [.ref o, .int x] ((o, oMain pl th pg ga sh asked fi) :: (pl, oPlan (nI R) (nI C) (bI op) (nI T) ap rr rd sl) :: (sl, aI g 40 slots) :: (th, oThings pl ki el nu (nI m) al wa wo) :: (ki, aI g 40 kinds) :: (el, aI g 40 elders) :: (nu, aI g 40 numbers) :: (wa, aJ g 12 waf) :: (wo, aJ g 12 wof) :: (pg, oGrid (nI R) (nI C) sp.1 sp.2.1 sp.2.2) :: (ga, oGrid sg.1 sg.2.1 sg.2.2.1 sg.2.2.2.1 sg.2.2.2.2) :: (sh, aS g 3 shf) :: rest) (Rs (some (.int (bI (wiB x 0 (nI T - 1))))) ((o, oMain pl th pg ga sh asked fi) :: (pl, oPlan (nI R) (nI C) (bI op) (nI T) ap rr rd sl) :: (sl, aI g 40 slots) :: (th, oThings pl ki el nu (nI m) al wa wo) :: (ki, aI g 40 kinds) :: (el, aI g 40 elders) :: (nu, aI g 40 numbers) :: (wa, aJ g 12 waf) :: (wo, aJ g 12 wof) :: (pg, oGrid (nI R) (nI C) sp.1 sp.2.1 sp.2.2) :: (ga, oGrid sg.1 sg.2.1 sg.2.2.1 sg.2.2.2.1 sg.2.2.2.2) :: (sh, aS g 3 shf) :: rest)) := by
  refine Con.ofZ (by decide +kernel) (Nat.le_of_ble_eq_true rfl) (fun φ K0 hr => ?_)
  show X φ 0 0 ((o, oMain pl th pg ga sh asked fi) :: (pl, oPlan (nI R) (nI C) (bI op) (nI T) ap rr rd sl) :: (sl, aI g 40 slots) :: (th, oThings pl ki el nu (nI m) al wa wo) :: (ki, aI g 40 kinds) :: (el, aI g 40 elders) :: (nu, aI g 40 numbers) :: (wa, aJ g 12 waf) :: (wo, aJ g 12 wof) :: (pg, oGrid (nI R) (nI C) sp.1 sp.2.1 sp.2.2) :: (ga, oGrid sg.1 sg.2.1 sg.2.2.1 sg.2.2.2.1 sg.2.2.2.2) :: (sh, aS g 3 shf) :: rest) [(0, .ref o), (1, .int x)] 0 []
  refine X_iload_n K0 1 dX4_isThing_0 rfl rfl ?_
  refine X_iconst (v := 0) K0 dX4_isThing_1 (by decide) ?_
  refine X_aload_n K0 0 dX4_isThing_2 rfl rfl ?_
  refine X_get K0 0 rfl rfl hin4 0 (by decide) fl_RX4_10 rfl dX4_isThing_3 ?_
  refine X_get K0 1 rfl rfl hin1 3 (by decide) fl_RX4_57 rfl dX4_isThing_6 ?_
  refine X_iconst (v := 1) K0 dX4_isThing_9 (by decide) ?_
  refine X_isub K0 dX4_isThing_10 ?_
  refine X_callS (As := [.int x, .int 0, .int ((nI T) - 1)]) (rest := []) K0 (c_isWithin g ((o, oMain pl th pg ga sh asked fi) :: (pl, oPlan (nI R) (nI C) (bI op) (nI T) ap rr rd sl) :: (sl, aI g 40 slots) :: (th, oThings pl ki el nu (nI m) al wa wo) :: (ki, aI g 40 kinds) :: (el, aI g 40 elders) :: (nu, aI g 40 numbers) :: (wa, aJ g 12 waf) :: (wo, aJ g 12 wof) :: (pg, oGrid (nI R) (nI C) sp.1 sp.2.1 sp.2.2) :: (ga, oGrid sg.1 sg.2.1 sg.2.2.1 sg.2.2.2.1 sg.2.2.2.2) :: (sh, aS g 3 shf) :: rest) x 0 ((nI T) - 1)) ms_X4_isWithin rfl ml_RX4_53 rfl (Nat.le_of_ble_eq_true rfl) (by decide) ⟨Nat.le_of_ble_eq_true rfl, Nat.le_of_ble_eq_true rfl⟩ rfl rfl dX4_isThing_11 ?_
  intro v w' hr'; obtain ⟨rfl, rfl⟩ := hr'
  show X φ 0 0 ((o, oMain pl th pg ga sh asked fi) :: (pl, oPlan (nI R) (nI C) (bI op) (nI T) ap rr rd sl) :: (sl, aI g 40 slots) :: (th, oThings pl ki el nu (nI m) al wa wo) :: (ki, aI g 40 kinds) :: (el, aI g 40 elders) :: (nu, aI g 40 numbers) :: (wa, aJ g 12 waf) :: (wo, aJ g 12 wof) :: (pg, oGrid (nI R) (nI C) sp.1 sp.2.1 sp.2.2) :: (ga, oGrid sg.1 sg.2.1 sg.2.2.1 sg.2.2.2.1 sg.2.2.2.2) :: (sh, aS g 3 shf) :: rest) [(0, .ref o), (1, .int x)] 14 [.int (bI (wiB x 0 ((nI T) - 1)))]
  exact hr _ _ _ _ ⟨rfl, rfl⟩ (bI_01 _) dX4_isThing_14

set_option maxRecDepth 20000 in
set_option maxHeartbeats 400000 in
theorem c_isPlace (g : Gx) (o pl sl th ki el nu wa wo pg ga sh : Nat) (R C : Nat) (op : Bool) (T : Nat) (slots : Nat → Int32) (ap rr rd : Int32) (m : Nat) (al : Int64) (kinds elders numbers : Nat → Int32) (waf wof : Nat → Int64) (sp : Int32 × Int32 × Int32) (sg : Int32 × Int32 × Int32 × Int32 × Int32) (shf : Nat → Option Nat) (asked : Int64) (fi : Int32) (rest : va_W) (hR : 1 ≤ R ∧ R ≤ 5) (hC : 1 ≤ C ∧ C ≤ 5) (hT : T ≤ 40) (hm : m ≤ 12) (x : Int32) : Con g yX4_isPlace cX4_isPlace 2 (some .boolean) 1 22 0 0 [.ref o, .int x] ((o, oMain pl th pg ga sh asked fi) :: (pl, oPlan (nI R) (nI C) (bI op) (nI T) ap rr rd sl) :: (sl, aI g 40 slots) :: (th, oThings pl ki el nu (nI m) al wa wo) :: (ki, aI g 40 kinds) :: (el, aI g 40 elders) :: (nu, aI g 40 numbers) :: (wa, aJ g 12 waf) :: (wo, aJ g 12 wof) :: (pg, oGrid (nI R) (nI C) sp.1 sp.2.1 sp.2.2) :: (ga, oGrid sg.1 sg.2.1 sg.2.2.1 sg.2.2.2.1 sg.2.2.2.2) :: (sh, aS g 3 shf) :: rest) (Rs (some (.int (bI (wiB x 0 (nI (R * C) - 1))))) ((o, oMain pl th pg ga sh asked fi) :: (pl, oPlan (nI R) (nI C) (bI op) (nI T) ap rr rd sl) :: (sl, aI g 40 slots) :: (th, oThings pl ki el nu (nI m) al wa wo) :: (ki, aI g 40 kinds) :: (el, aI g 40 elders) :: (nu, aI g 40 numbers) :: (wa, aJ g 12 waf) :: (wo, aJ g 12 wof) :: (pg, oGrid (nI R) (nI C) sp.1 sp.2.1 sp.2.2) :: (ga, oGrid sg.1 sg.2.1 sg.2.2.1 sg.2.2.2.1 sg.2.2.2.2) :: (sh, aS g 3 shf) :: rest)) := by
  refine Con.ofZ (by decide +kernel) (Nat.le_of_ble_eq_true rfl) (fun φ K0 hr => ?_)
  show X φ 0 0 ((o, oMain pl th pg ga sh asked fi) :: (pl, oPlan (nI R) (nI C) (bI op) (nI T) ap rr rd sl) :: (sl, aI g 40 slots) :: (th, oThings pl ki el nu (nI m) al wa wo) :: (ki, aI g 40 kinds) :: (el, aI g 40 elders) :: (nu, aI g 40 numbers) :: (wa, aJ g 12 waf) :: (wo, aJ g 12 wof) :: (pg, oGrid (nI R) (nI C) sp.1 sp.2.1 sp.2.2) :: (ga, oGrid sg.1 sg.2.1 sg.2.2.1 sg.2.2.2.1 sg.2.2.2.2) :: (sh, aS g 3 shf) :: rest) [(0, .ref o), (1, .int x)] 0 []
  refine X_iload_n K0 1 dX4_isPlace_0 rfl rfl ?_
  refine X_iconst (v := 0) K0 dX4_isPlace_1 (by decide) ?_
  refine X_aload_n K0 0 dX4_isPlace_2 rfl rfl ?_
  refine X_get K0 0 rfl rfl hin4 0 (by decide) fl_RX4_10 rfl dX4_isPlace_3 ?_
  refine X_get K0 1 rfl rfl hin1 0 (by decide) fl_RX4_90 rfl dX4_isPlace_6 ?_
  refine X_aload_n K0 0 dX4_isPlace_9 rfl rfl ?_
  refine X_get K0 0 rfl rfl hin4 0 (by decide) fl_RX4_10 rfl dX4_isPlace_10 ?_
  refine X_get K0 1 rfl rfl hin1 1 (by decide) fl_RX4_93 rfl dX4_isPlace_13 ?_
  refine X_imul K0 dX4_isPlace_16 ?_
  refine X_v (z := (nI (R * C))) (pk_mul R C) ?_
  refine X_iconst (v := 1) K0 dX4_isPlace_17 (by decide) ?_
  refine X_isub K0 dX4_isPlace_18 ?_
  refine X_callS (As := [.int x, .int 0, .int ((nI (R * C)) - 1)]) (rest := []) K0 (c_isWithin g ((o, oMain pl th pg ga sh asked fi) :: (pl, oPlan (nI R) (nI C) (bI op) (nI T) ap rr rd sl) :: (sl, aI g 40 slots) :: (th, oThings pl ki el nu (nI m) al wa wo) :: (ki, aI g 40 kinds) :: (el, aI g 40 elders) :: (nu, aI g 40 numbers) :: (wa, aJ g 12 waf) :: (wo, aJ g 12 wof) :: (pg, oGrid (nI R) (nI C) sp.1 sp.2.1 sp.2.2) :: (ga, oGrid sg.1 sg.2.1 sg.2.2.1 sg.2.2.2.1 sg.2.2.2.2) :: (sh, aS g 3 shf) :: rest) x 0 ((nI (R * C)) - 1)) ms_X4_isWithin rfl ml_RX4_53 rfl (Nat.le_of_ble_eq_true rfl) (by decide) ⟨Nat.le_of_ble_eq_true rfl, Nat.le_of_ble_eq_true rfl⟩ rfl rfl dX4_isPlace_19 ?_
  intro v w' hr'; obtain ⟨rfl, rfl⟩ := hr'
  show X φ 0 0 ((o, oMain pl th pg ga sh asked fi) :: (pl, oPlan (nI R) (nI C) (bI op) (nI T) ap rr rd sl) :: (sl, aI g 40 slots) :: (th, oThings pl ki el nu (nI m) al wa wo) :: (ki, aI g 40 kinds) :: (el, aI g 40 elders) :: (nu, aI g 40 numbers) :: (wa, aJ g 12 waf) :: (wo, aJ g 12 wof) :: (pg, oGrid (nI R) (nI C) sp.1 sp.2.1 sp.2.2) :: (ga, oGrid sg.1 sg.2.1 sg.2.2.1 sg.2.2.2.1 sg.2.2.2.2) :: (sh, aS g 3 shf) :: rest) [(0, .ref o), (1, .int x)] 22 [.int (bI (wiB x 0 ((nI (R * C)) - 1)))]
  exact hr _ _ _ _ ⟨rfl, rfl⟩ (bI_01 _) dX4_isPlace_22

set_option maxRecDepth 20000 in
set_option maxHeartbeats 400000 in
theorem c_settings (g : Gx) (o pl sl th ki el nu wa wo pg ga sh : Nat) (R C : Nat) (op : Bool) (T : Nat) (slots : Nat → Int32) (ap rr rd : Int32) (m : Nat) (al : Int64) (kinds elders numbers : Nat → Int32) (waf wof : Nat → Int64) (sp : Int32 × Int32 × Int32) (sg : Int32 × Int32 × Int32 × Int32 × Int32) (shf : Nat → Option Nat) (asked : Int64) (fi : Int32) (rest : va_W) (hR : 1 ≤ R ∧ R ≤ 5) (hC : 1 ≤ C ∧ C ≤ 5) (hT : T ≤ 40) (hm : m ≤ 12) : Con g yX4_settings cX4_settings 1 (some .int) 0 0 0 0 [.ref o] ((o, oMain pl th pg ga sh asked fi) :: (pl, oPlan (nI R) (nI C) (bI op) (nI T) ap rr rd sl) :: (sl, aI g 40 slots) :: (th, oThings pl ki el nu (nI m) al wa wo) :: (ki, aI g 40 kinds) :: (el, aI g 40 elders) :: (nu, aI g 40 numbers) :: (wa, aJ g 12 waf) :: (wo, aJ g 12 wof) :: (pg, oGrid (nI R) (nI C) sp.1 sp.2.1 sp.2.2) :: (ga, oGrid sg.1 sg.2.1 sg.2.2.1 sg.2.2.2.1 sg.2.2.2.2) :: (sh, aS g 3 shf) :: rest) (Rs (some (.int (nI (2 ^ m)))) ((o, oMain pl th pg ga sh asked fi) :: (pl, oPlan (nI R) (nI C) (bI op) (nI T) ap rr rd sl) :: (sl, aI g 40 slots) :: (th, oThings pl ki el nu (nI m) al wa wo) :: (ki, aI g 40 kinds) :: (el, aI g 40 elders) :: (nu, aI g 40 numbers) :: (wa, aJ g 12 waf) :: (wo, aJ g 12 wof) :: (pg, oGrid (nI R) (nI C) sp.1 sp.2.1 sp.2.2) :: (ga, oGrid sg.1 sg.2.1 sg.2.2.1 sg.2.2.2.1 sg.2.2.2.2) :: (sh, aS g 3 shf) :: rest)) := by
  refine Con.ofI (by decide +kernel) (Nat.le_of_ble_eq_true rfl) (fun φ K0 hr => ?_)
  show X φ 0 0 ((o, oMain pl th pg ga sh asked fi) :: (pl, oPlan (nI R) (nI C) (bI op) (nI T) ap rr rd sl) :: (sl, aI g 40 slots) :: (th, oThings pl ki el nu (nI m) al wa wo) :: (ki, aI g 40 kinds) :: (el, aI g 40 elders) :: (nu, aI g 40 numbers) :: (wa, aJ g 12 waf) :: (wo, aJ g 12 wof) :: (pg, oGrid (nI R) (nI C) sp.1 sp.2.1 sp.2.2) :: (ga, oGrid sg.1 sg.2.1 sg.2.2.1 sg.2.2.2.1 sg.2.2.2.2) :: (sh, aS g 3 shf) :: rest) [(0, .ref o)] 0 []
  refine X_iconst (v := 1) K0 dX4_settings_0 (by decide) ?_
  refine X_aload_n K0 0 dX4_settings_1 rfl rfl ?_
  refine X_get K0 0 rfl rfl hin4 1 (by decide) fl_RX4_21 rfl dX4_settings_2 ?_
  refine X_get K0 3 rfl rfl hin3 4 (by decide) fl_RX4_70 rfl dX4_settings_5 ?_
  refine X_ishl K0 dX4_settings_8 ?_
  exact hr _ _ _ _ ⟨by rw [shl_m m hm], rfl⟩ dX4_settings_9

set_option maxRecDepth 20000 in
set_option maxHeartbeats 400000 in
theorem c_isSetting (g : Gx) (o pl sl th ki el nu wa wo pg ga sh : Nat) (R C : Nat) (op : Bool) (T : Nat) (slots : Nat → Int32) (ap rr rd : Int32) (m : Nat) (al : Int64) (kinds elders numbers : Nat → Int32) (waf wof : Nat → Int64) (sp : Int32 × Int32 × Int32) (sg : Int32 × Int32 × Int32 × Int32 × Int32) (shf : Nat → Option Nat) (asked : Int64) (fi : Int32) (rest : va_W) (hR : 1 ≤ R ∧ R ≤ 5) (hC : 1 ≤ C ∧ C ≤ 5) (hT : T ≤ 40) (hm : m ≤ 12) (x : Int32) : Con g yX4_isSetting cX4_isSetting 2 (some .boolean) 1 22 0 0 [.ref o, .int x] ((o, oMain pl th pg ga sh asked fi) :: (pl, oPlan (nI R) (nI C) (bI op) (nI T) ap rr rd sl) :: (sl, aI g 40 slots) :: (th, oThings pl ki el nu (nI m) al wa wo) :: (ki, aI g 40 kinds) :: (el, aI g 40 elders) :: (nu, aI g 40 numbers) :: (wa, aJ g 12 waf) :: (wo, aJ g 12 wof) :: (pg, oGrid (nI R) (nI C) sp.1 sp.2.1 sp.2.2) :: (ga, oGrid sg.1 sg.2.1 sg.2.2.1 sg.2.2.2.1 sg.2.2.2.2) :: (sh, aS g 3 shf) :: rest) (Rs (some (.int (bI (wiB x 0 (nI (2 ^ m) - 1))))) ((o, oMain pl th pg ga sh asked fi) :: (pl, oPlan (nI R) (nI C) (bI op) (nI T) ap rr rd sl) :: (sl, aI g 40 slots) :: (th, oThings pl ki el nu (nI m) al wa wo) :: (ki, aI g 40 kinds) :: (el, aI g 40 elders) :: (nu, aI g 40 numbers) :: (wa, aJ g 12 waf) :: (wo, aJ g 12 wof) :: (pg, oGrid (nI R) (nI C) sp.1 sp.2.1 sp.2.2) :: (ga, oGrid sg.1 sg.2.1 sg.2.2.1 sg.2.2.2.1 sg.2.2.2.2) :: (sh, aS g 3 shf) :: rest)) := by
  refine Con.ofZ (by decide +kernel) (Nat.le_of_ble_eq_true rfl) (fun φ K0 hr => ?_)
  show X φ 0 0 ((o, oMain pl th pg ga sh asked fi) :: (pl, oPlan (nI R) (nI C) (bI op) (nI T) ap rr rd sl) :: (sl, aI g 40 slots) :: (th, oThings pl ki el nu (nI m) al wa wo) :: (ki, aI g 40 kinds) :: (el, aI g 40 elders) :: (nu, aI g 40 numbers) :: (wa, aJ g 12 waf) :: (wo, aJ g 12 wof) :: (pg, oGrid (nI R) (nI C) sp.1 sp.2.1 sp.2.2) :: (ga, oGrid sg.1 sg.2.1 sg.2.2.1 sg.2.2.2.1 sg.2.2.2.2) :: (sh, aS g 3 shf) :: rest) [(0, .ref o), (1, .int x)] 0 []
  refine X_iload_n K0 1 dX4_isSetting_0 rfl rfl ?_
  refine X_iconst (v := 0) K0 dX4_isSetting_1 (by decide) ?_
  refine X_aload_n K0 0 dX4_isSetting_2 rfl rfl ?_
  refine X_callV (As := []) (rest := [.int 0, .int x]) K0 0 (c_settings g o pl sl th ki el nu wa wo pg ga sh R C op T slots ap rr rd m al kinds elders numbers waf wof sp sg shf asked fi rest hR hC hT hm ) mi_X4_settings rfl rfl rfl ml_RX4_159 rfl (Nat.le_of_ble_eq_true rfl) (by decide) ⟨Nat.le_of_ble_eq_true rfl, Nat.le_of_ble_eq_true rfl⟩ rfl rfl dX4_isSetting_3 ?_
  intro v w' hr'; obtain ⟨rfl, rfl⟩ := hr'
  show X φ 0 0 ((o, oMain pl th pg ga sh asked fi) :: (pl, oPlan (nI R) (nI C) (bI op) (nI T) ap rr rd sl) :: (sl, aI g 40 slots) :: (th, oThings pl ki el nu (nI m) al wa wo) :: (ki, aI g 40 kinds) :: (el, aI g 40 elders) :: (nu, aI g 40 numbers) :: (wa, aJ g 12 waf) :: (wo, aJ g 12 wof) :: (pg, oGrid (nI R) (nI C) sp.1 sp.2.1 sp.2.2) :: (ga, oGrid sg.1 sg.2.1 sg.2.2.1 sg.2.2.2.1 sg.2.2.2.2) :: (sh, aS g 3 shf) :: rest) [(0, .ref o), (1, .int x)] 6 [.int (nI (2 ^ m)), .int 0, .int x]
  refine X_iconst (v := 1) K0 dX4_isSetting_6 (by decide) ?_
  refine X_isub K0 dX4_isSetting_7 ?_
  refine X_callS (As := [.int x, .int 0, .int ((nI (2 ^ m)) - 1)]) (rest := []) K0 (c_isWithin g ((o, oMain pl th pg ga sh asked fi) :: (pl, oPlan (nI R) (nI C) (bI op) (nI T) ap rr rd sl) :: (sl, aI g 40 slots) :: (th, oThings pl ki el nu (nI m) al wa wo) :: (ki, aI g 40 kinds) :: (el, aI g 40 elders) :: (nu, aI g 40 numbers) :: (wa, aJ g 12 waf) :: (wo, aJ g 12 wof) :: (pg, oGrid (nI R) (nI C) sp.1 sp.2.1 sp.2.2) :: (ga, oGrid sg.1 sg.2.1 sg.2.2.1 sg.2.2.2.1 sg.2.2.2.2) :: (sh, aS g 3 shf) :: rest) x 0 ((nI (2 ^ m)) - 1)) ms_X4_isWithin rfl ml_RX4_53 rfl (Nat.le_of_ble_eq_true rfl) (by decide) ⟨Nat.le_of_ble_eq_true rfl, Nat.le_of_ble_eq_true rfl⟩ rfl rfl dX4_isSetting_8 ?_
  intro v w' hr'; obtain ⟨rfl, rfl⟩ := hr'
  show X φ 0 0 ((o, oMain pl th pg ga sh asked fi) :: (pl, oPlan (nI R) (nI C) (bI op) (nI T) ap rr rd sl) :: (sl, aI g 40 slots) :: (th, oThings pl ki el nu (nI m) al wa wo) :: (ki, aI g 40 kinds) :: (el, aI g 40 elders) :: (nu, aI g 40 numbers) :: (wa, aJ g 12 waf) :: (wo, aJ g 12 wof) :: (pg, oGrid (nI R) (nI C) sp.1 sp.2.1 sp.2.2) :: (ga, oGrid sg.1 sg.2.1 sg.2.2.1 sg.2.2.2.1 sg.2.2.2.2) :: (sh, aS g 3 shf) :: rest) [(0, .ref o), (1, .int x)] 11 [.int (bI (wiB x 0 ((nI (2 ^ m)) - 1)))]
  exact hr _ _ _ _ ⟨rfl, rfl⟩ (bI_01 _) dX4_isSetting_11

set_option maxRecDepth 20000 in
set_option maxHeartbeats 400000 in
theorem c_isSize (g : Gx) (o pl sl th ki el nu wa wo pg ga sh : Nat) (R C : Nat) (op : Bool) (T : Nat) (slots : Nat → Int32) (ap rr rd : Int32) (m : Nat) (al : Int64) (kinds elders numbers : Nat → Int32) (waf wof : Nat → Int64) (sp : Int32 × Int32 × Int32) (sg : Int32 × Int32 × Int32 × Int32 × Int32) (shf : Nat → Option Nat) (asked : Int64) (fi : Int32) (rest : va_W) (hR : 1 ≤ R ∧ R ≤ 5) (hC : 1 ≤ C ∧ C ≤ 5) (hT : T ≤ 40) (hm : m ≤ 12) (x : Int32) : Con g yX4_isSize cX4_isSize 2 (some .boolean) 1 22 0 0 [.ref o, .int x] ((o, oMain pl th pg ga sh asked fi) :: (pl, oPlan (nI R) (nI C) (bI op) (nI T) ap rr rd sl) :: (sl, aI g 40 slots) :: (th, oThings pl ki el nu (nI m) al wa wo) :: (ki, aI g 40 kinds) :: (el, aI g 40 elders) :: (nu, aI g 40 numbers) :: (wa, aJ g 12 waf) :: (wo, aJ g 12 wof) :: (pg, oGrid (nI R) (nI C) sp.1 sp.2.1 sp.2.2) :: (ga, oGrid sg.1 sg.2.1 sg.2.2.1 sg.2.2.2.1 sg.2.2.2.2) :: (sh, aS g 3 shf) :: rest) (Rs (some (.int (bI (wiB x 0 (nI m))))) ((o, oMain pl th pg ga sh asked fi) :: (pl, oPlan (nI R) (nI C) (bI op) (nI T) ap rr rd sl) :: (sl, aI g 40 slots) :: (th, oThings pl ki el nu (nI m) al wa wo) :: (ki, aI g 40 kinds) :: (el, aI g 40 elders) :: (nu, aI g 40 numbers) :: (wa, aJ g 12 waf) :: (wo, aJ g 12 wof) :: (pg, oGrid (nI R) (nI C) sp.1 sp.2.1 sp.2.2) :: (ga, oGrid sg.1 sg.2.1 sg.2.2.1 sg.2.2.2.1 sg.2.2.2.2) :: (sh, aS g 3 shf) :: rest)) := by
  refine Con.ofZ (by decide +kernel) (Nat.le_of_ble_eq_true rfl) (fun φ K0 hr => ?_)
  show X φ 0 0 ((o, oMain pl th pg ga sh asked fi) :: (pl, oPlan (nI R) (nI C) (bI op) (nI T) ap rr rd sl) :: (sl, aI g 40 slots) :: (th, oThings pl ki el nu (nI m) al wa wo) :: (ki, aI g 40 kinds) :: (el, aI g 40 elders) :: (nu, aI g 40 numbers) :: (wa, aJ g 12 waf) :: (wo, aJ g 12 wof) :: (pg, oGrid (nI R) (nI C) sp.1 sp.2.1 sp.2.2) :: (ga, oGrid sg.1 sg.2.1 sg.2.2.1 sg.2.2.2.1 sg.2.2.2.2) :: (sh, aS g 3 shf) :: rest) [(0, .ref o), (1, .int x)] 0 []
  refine X_iload_n K0 1 dX4_isSize_0 rfl rfl ?_
  refine X_iconst (v := 0) K0 dX4_isSize_1 (by decide) ?_
  refine X_aload_n K0 0 dX4_isSize_2 rfl rfl ?_
  refine X_get K0 0 rfl rfl hin4 1 (by decide) fl_RX4_21 rfl dX4_isSize_3 ?_
  refine X_get K0 3 rfl rfl hin3 4 (by decide) fl_RX4_70 rfl dX4_isSize_6 ?_
  refine X_callS (As := [.int x, .int 0, .int (nI m)]) (rest := []) K0 (c_isWithin g ((o, oMain pl th pg ga sh asked fi) :: (pl, oPlan (nI R) (nI C) (bI op) (nI T) ap rr rd sl) :: (sl, aI g 40 slots) :: (th, oThings pl ki el nu (nI m) al wa wo) :: (ki, aI g 40 kinds) :: (el, aI g 40 elders) :: (nu, aI g 40 numbers) :: (wa, aJ g 12 waf) :: (wo, aJ g 12 wof) :: (pg, oGrid (nI R) (nI C) sp.1 sp.2.1 sp.2.2) :: (ga, oGrid sg.1 sg.2.1 sg.2.2.1 sg.2.2.2.1 sg.2.2.2.2) :: (sh, aS g 3 shf) :: rest) x 0 (nI m)) ms_X4_isWithin rfl ml_RX4_53 rfl (Nat.le_of_ble_eq_true rfl) (by decide) ⟨Nat.le_of_ble_eq_true rfl, Nat.le_of_ble_eq_true rfl⟩ rfl rfl dX4_isSize_9 ?_
  intro v w' hr'; obtain ⟨rfl, rfl⟩ := hr'
  show X φ 0 0 ((o, oMain pl th pg ga sh asked fi) :: (pl, oPlan (nI R) (nI C) (bI op) (nI T) ap rr rd sl) :: (sl, aI g 40 slots) :: (th, oThings pl ki el nu (nI m) al wa wo) :: (ki, aI g 40 kinds) :: (el, aI g 40 elders) :: (nu, aI g 40 numbers) :: (wa, aJ g 12 waf) :: (wo, aJ g 12 wof) :: (pg, oGrid (nI R) (nI C) sp.1 sp.2.1 sp.2.2) :: (ga, oGrid sg.1 sg.2.1 sg.2.2.1 sg.2.2.2.1 sg.2.2.2.2) :: (sh, aS g 3 shf) :: rest) [(0, .ref o), (1, .int x)] 12 [.int (bI (wiB x 0 (nI m)))]
  exact hr _ _ _ _ ⟨rfl, rfl⟩ (bI_01 _) dX4_isSize_12

set_option maxRecDepth 20000 in
set_option maxHeartbeats 400000 in
theorem c_power (g : Gx) (w : va_W) (b : Int32) (e : Nat) (he : e < 2 ^ 31) : Con g yX4_power cX4_power 5 (some .long) 0 0 0 0 [.int b, .int (nI e)] w (Rs (some (.long (pwF b e))) w) := by
  refine Con.ofL (by decide +kernel) (Nat.le_of_ble_eq_true rfl) (fun φ K0 hr => ?_)
  show X φ 0 0 w [(0, .int b), (1, .int (nI e))] 0 []
  refine X_lconst (v := 1) K0 dX4_power_0 (by decide) ?_
  refine X_lstore_n (L' := [(2, .long 1), (0, .int b), (1, .int (nI e))]) K0 dX4_power_1 rfl (by decide) rfl ?_
  refine X_iconst (v := 0) K0 dX4_power_2 (by decide) ?_
  refine X_istore (L' := [(4, .int 0), (2, .long 1), (0, .int b), (1, .int (nI e))]) K0 dX4_power_3 (by decide) rfl ?_
  refine X.sub [2, 3, 1, 0] (L' := [(0, .int b), (1, .int (nI e)), (2, .long 1), (4, .int 0)]) rfl ?_
  have LOOP : ∀ (dd ii : Nat), ii + dd = e → X φ 0 0 w [(0, .int b), (1, .int (nI e)), (2, .long (pwF b ii)), (4, .int (nI ii))] 5 [] := by
    intro dd
    induction dd with
    | zero =>
      intro ii hii 
      have hii2 : e = ii := by omega
      subst hii2
      refine X_iload K0 3 dX4_power_5 rfl ?_
      refine X_iload_n K0 1 dX4_power_7 rfl rfl ?_
      refine X_icmp_ge K0 22 dX4_power_8 (by decide) (fun h8 => ?_) (fun h8 => ?_)
      · refine X_lload_n K0 2 dX4_power_22 rfl rfl ?_
        exact hr _ _ _ _ ⟨rfl, rfl⟩ dX4_power_23
      · exact absurd (nI_le (Nat.le_refl _) he) h8
    | succ dd ih =>
      intro ii hii 
      have hlt : ii < e := by omega
      refine X_iload K0 3 dX4_power_5 rfl ?_
      refine X_iload_n K0 1 dX4_power_7 rfl rfl ?_
      refine X_icmp_ge K0 22 dX4_power_8 (by decide) (fun h8 => ?_) (fun h8 => ?_)
      · exact absurd h8 (nI_ge hlt he)
      · refine X_lload_n K0 2 dX4_power_11 rfl rfl ?_
        refine X_iload_n K0 0 dX4_power_12 rfl rfl ?_
        refine X_i2l (v := (b.toInt64)) K0 dX4_power_13 rfl ?_
        refine X_lmul K0 dX4_power_14 ?_
        refine X_lstore_n (L' := [(2, .long ((pwF b ii) * (b.toInt64))), (0, .int b), (1, .int (nI e)), (4, .int (nI ii))]) K0 dX4_power_15 rfl (by decide) rfl ?_
        refine X_iinc (v := ((nI ii) + 1)) (L' := [(4, .int ((nI ii) + 1)), (2, .long ((pwF b ii) * (b.toInt64))), (0, .int b), (1, .int (nI e))]) K0 3 dX4_power_16 rfl (by first | rfl | decide) (by decide) rfl ?_
        refine X_goto K0 5 dX4_power_19 (by decide) ?_
        refine X.sub [2, 3, 1, 0] (L' := [(0, .int b), (1, .int (nI e)), (2, .long ((pwF b ii) * (b.toInt64))), (4, .int ((nI ii) + 1))]) rfl ?_
        exact X_eq rfl (by rw [nI_succ] <;> rfl) rfl (ih (ii + 1) (by omega))
  exact LOOP e 0 (by omega)

set_option maxRecDepth 20000 in
set_option maxHeartbeats 400000 in
theorem c_trace (g : Gx) (o pl sl th ki el nu wa wo pg ga sh : Nat) (R C : Nat) (op : Bool) (T : Nat) (slots : Nat → Int32) (ap rr rd : Int32) (m : Nat) (al : Int64) (kinds elders numbers : Nat → Int32) (waf wof : Nat → Int64) (sp : Int32 × Int32 × Int32) (sg : Int32 × Int32 × Int32 × Int32 × Int32) (shf : Nat → Option Nat) (asked : Int64) (fi : Int32) (rest : va_W) (hR : 1 ≤ R ∧ R ≤ 5) (hC : 1 ≤ C ∧ C ≤ 5) (hT : T ≤ 40) (hm : m ≤ 12) : Con g yX4_trace cX4_trace 1 (some .long) 0 0 0 0 [.ref o] ((o, oMain pl th pg ga sh asked fi) :: (pl, oPlan (nI R) (nI C) (bI op) (nI T) ap rr rd sl) :: (sl, aI g 40 slots) :: (th, oThings pl ki el nu (nI m) al wa wo) :: (ki, aI g 40 kinds) :: (el, aI g 40 elders) :: (nu, aI g 40 numbers) :: (wa, aJ g 12 waf) :: (wo, aJ g 12 wof) :: (pg, oGrid (nI R) (nI C) sp.1 sp.2.1 sp.2.2) :: (ga, oGrid sg.1 sg.2.1 sg.2.2.1 sg.2.2.2.1 sg.2.2.2.2) :: (sh, aS g 3 shf) :: rest) (Rs (some (.long asked)) ((o, oMain pl th pg ga sh asked fi) :: (pl, oPlan (nI R) (nI C) (bI op) (nI T) ap rr rd sl) :: (sl, aI g 40 slots) :: (th, oThings pl ki el nu (nI m) al wa wo) :: (ki, aI g 40 kinds) :: (el, aI g 40 elders) :: (nu, aI g 40 numbers) :: (wa, aJ g 12 waf) :: (wo, aJ g 12 wof) :: (pg, oGrid (nI R) (nI C) sp.1 sp.2.1 sp.2.2) :: (ga, oGrid sg.1 sg.2.1 sg.2.2.1 sg.2.2.2.1 sg.2.2.2.2) :: (sh, aS g 3 shf) :: rest)) := by
  refine Con.ofL (by decide +kernel) (Nat.le_of_ble_eq_true rfl) (fun φ K0 hr => ?_)
  show X φ 0 0 ((o, oMain pl th pg ga sh asked fi) :: (pl, oPlan (nI R) (nI C) (bI op) (nI T) ap rr rd sl) :: (sl, aI g 40 slots) :: (th, oThings pl ki el nu (nI m) al wa wo) :: (ki, aI g 40 kinds) :: (el, aI g 40 elders) :: (nu, aI g 40 numbers) :: (wa, aJ g 12 waf) :: (wo, aJ g 12 wof) :: (pg, oGrid (nI R) (nI C) sp.1 sp.2.1 sp.2.2) :: (ga, oGrid sg.1 sg.2.1 sg.2.2.1 sg.2.2.2.1 sg.2.2.2.2) :: (sh, aS g 3 shf) :: rest) [(0, .ref o)] 0 []
  refine X_aload_n K0 0 dX4_trace_0 rfl rfl ?_
  refine X_get K0 0 rfl rfl hin4 5 (by decide) fl_RX4_41 rfl dX4_trace_1 ?_
  exact hr _ _ _ _ ⟨rfl, rfl⟩ dX4_trace_4

set_option maxRecDepth 20000 in
set_option maxHeartbeats 400000 in
theorem c_status (g : Gx) (o pl sl th ki el nu wa wo pg ga sh : Nat) (R C : Nat) (op : Bool) (T : Nat) (slots : Nat → Int32) (ap rr rd : Int32) (m : Nat) (al : Int64) (kinds elders numbers : Nat → Int32) (waf wof : Nat → Int64) (sp : Int32 × Int32 × Int32) (sg : Int32 × Int32 × Int32 × Int32 × Int32) (shf : Nat → Option Nat) (asked : Int64) (fi : Int32) (rest : va_W) (hR : 1 ≤ R ∧ R ≤ 5) (hC : 1 ≤ C ∧ C ≤ 5) (hT : T ≤ 40) (hm : m ≤ 12) : Con g yX4_status cX4_status 1 (some .int) 0 0 0 0 [.ref o] ((o, oMain pl th pg ga sh asked fi) :: (pl, oPlan (nI R) (nI C) (bI op) (nI T) ap rr rd sl) :: (sl, aI g 40 slots) :: (th, oThings pl ki el nu (nI m) al wa wo) :: (ki, aI g 40 kinds) :: (el, aI g 40 elders) :: (nu, aI g 40 numbers) :: (wa, aJ g 12 waf) :: (wo, aJ g 12 wof) :: (pg, oGrid (nI R) (nI C) sp.1 sp.2.1 sp.2.2) :: (ga, oGrid sg.1 sg.2.1 sg.2.2.1 sg.2.2.2.1 sg.2.2.2.2) :: (sh, aS g 3 shf) :: rest) (Rs (some (.int fi)) ((o, oMain pl th pg ga sh asked fi) :: (pl, oPlan (nI R) (nI C) (bI op) (nI T) ap rr rd sl) :: (sl, aI g 40 slots) :: (th, oThings pl ki el nu (nI m) al wa wo) :: (ki, aI g 40 kinds) :: (el, aI g 40 elders) :: (nu, aI g 40 numbers) :: (wa, aJ g 12 waf) :: (wo, aJ g 12 wof) :: (pg, oGrid (nI R) (nI C) sp.1 sp.2.1 sp.2.2) :: (ga, oGrid sg.1 sg.2.1 sg.2.2.1 sg.2.2.2.1 sg.2.2.2.2) :: (sh, aS g 3 shf) :: rest)) := by
  refine Con.ofI (by decide +kernel) (Nat.le_of_ble_eq_true rfl) (fun φ K0 hr => ?_)
  show X φ 0 0 ((o, oMain pl th pg ga sh asked fi) :: (pl, oPlan (nI R) (nI C) (bI op) (nI T) ap rr rd sl) :: (sl, aI g 40 slots) :: (th, oThings pl ki el nu (nI m) al wa wo) :: (ki, aI g 40 kinds) :: (el, aI g 40 elders) :: (nu, aI g 40 numbers) :: (wa, aJ g 12 waf) :: (wo, aJ g 12 wof) :: (pg, oGrid (nI R) (nI C) sp.1 sp.2.1 sp.2.2) :: (ga, oGrid sg.1 sg.2.1 sg.2.2.1 sg.2.2.2.1 sg.2.2.2.2) :: (sh, aS g 3 shf) :: rest) [(0, .ref o)] 0 []
  refine X_aload_n K0 0 dX4_status_0 rfl rfl ?_
  refine X_get K0 0 rfl rfl hin4 6 (by decide) fl_RX4_45 rfl dX4_status_1 ?_
  exact hr _ _ _ _ ⟨rfl, rfl⟩ dX4_status_4

set_option maxRecDepth 20000 in
set_option maxHeartbeats 400000 in
theorem c_placesBy (g : Gx) (o pl sl th ki el nu wa wo pg ga sh : Nat) (R C : Nat) (op : Bool) (T : Nat) (slots : Nat → Int32) (ap rr rd : Int32) (m : Nat) (al : Int64) (kinds elders numbers : Nat → Int32) (waf wof : Nat → Int64) (sp : Int32 × Int32 × Int32) (sg : Int32 × Int32 × Int32 × Int32 × Int32) (shf : Nat → Option Nat) (asked : Int64) (fi : Int32) (rest : va_W) (hR : 1 ≤ R ∧ R ≤ 5) (hC : 1 ≤ C ∧ C ≤ 5) (hT : T ≤ 40) (hm : m ≤ 12) (se : Int32) : Con g yX4_placesBy cX4_placesBy 5 (some (.object "OpenGrounds$Grid")) 2 45 0 0 [.ref o, .int se] ((o, oMain pl th pg ga sh asked fi) :: (pl, oPlan (nI R) (nI C) (bI op) (nI T) ap rr rd sl) :: (sl, aI g 40 slots) :: (th, oThings pl ki el nu (nI m) al wa wo) :: (ki, aI g 40 kinds) :: (el, aI g 40 elders) :: (nu, aI g 40 numbers) :: (wa, aJ g 12 waf) :: (wo, aJ g 12 wof) :: (pg, oGrid (nI R) (nI C) sp.1 sp.2.1 sp.2.2) :: (ga, oGrid sg.1 sg.2.1 sg.2.2.1 sg.2.2.2.1 sg.2.2.2.2) :: (sh, aS g 3 shf) :: rest) (Rs (some (.ref pg)) ((o, oMain pl th pg ga sh asked fi) :: (pl, oPlan (nI R) (nI C) (bI op) (nI T) ap rr rd sl) :: (sl, aI g 40 slots) :: (th, oThings pl ki el nu (nI m) al wa wo) :: (ki, aI g 40 kinds) :: (el, aI g 40 elders) :: (nu, aI g 40 numbers) :: (wa, aJ g 12 waf) :: (wo, aJ g 12 wof) :: (pg, oGrid (nI R) (nI C) (pbC op ap (opF al waf wof se m)) (pbR op rr (opF al waf wof se m)) (pbD op rd (nI C) (opF al waf wof se m))) :: (ga, oGrid sg.1 sg.2.1 sg.2.2.1 sg.2.2.2.1 sg.2.2.2.2) :: (sh, aS g 3 shf) :: rest)) := by
  refine Con.ofR (by decide +kernel) (Nat.le_of_ble_eq_true rfl) (fun φ K0 hr => ?_)
  show X φ 0 0 ((o, oMain pl th pg ga sh asked fi) :: (pl, oPlan (nI R) (nI C) (bI op) (nI T) ap rr rd sl) :: (sl, aI g 40 slots) :: (th, oThings pl ki el nu (nI m) al wa wo) :: (ki, aI g 40 kinds) :: (el, aI g 40 elders) :: (nu, aI g 40 numbers) :: (wa, aJ g 12 waf) :: (wo, aJ g 12 wof) :: (pg, oGrid (nI R) (nI C) sp.1 sp.2.1 sp.2.2) :: (ga, oGrid sg.1 sg.2.1 sg.2.2.1 sg.2.2.2.1 sg.2.2.2.2) :: (sh, aS g 3 shf) :: rest) [(0, .ref o), (1, .int se)] 0 []
  refine X_aload_n K0 0 dX4_placesBy_0 rfl rfl ?_
  refine X_get K0 0 rfl rfl hin4 1 (by decide) fl_RX4_21 rfl dX4_placesBy_1 ?_
  refine X_iload_n K0 1 dX4_placesBy_4 rfl rfl ?_
  refine X_callV (As := [.int se]) (rest := []) K0 3 (c_openBy g (o, oMain pl th pg ga sh asked fi) ((pg, oGrid (nI R) (nI C) sp.1 sp.2.1 sp.2.2) :: (ga, oGrid sg.1 sg.2.1 sg.2.2.1 sg.2.2.2.1 sg.2.2.2.2) :: (sh, aS g 3 shf) :: rest) pl sl th ki el nu wa wo (nI R) (nI C) (bI op) ap rr rd T slots m al kinds elders numbers waf wof (by omega) se) mi_X3_openBy rfl rfl rfl ml_RX4_114 rfl (Nat.le_of_ble_eq_true rfl) (by decide) ⟨Nat.le_of_ble_eq_true rfl, Nat.le_of_ble_eq_true rfl⟩ rfl rfl dX4_placesBy_5 ?_
  intro v w' hr'; obtain ⟨rfl, rfl⟩ := hr'
  show X φ 0 0 ((o, oMain pl th pg ga sh asked fi) :: (pl, oPlan (nI R) (nI C) (bI op) (nI T) ap rr rd sl) :: (sl, aI g 40 slots) :: (th, oThings pl ki el nu (nI m) al wa wo) :: (ki, aI g 40 kinds) :: (el, aI g 40 elders) :: (nu, aI g 40 numbers) :: (wa, aJ g 12 waf) :: (wo, aJ g 12 wof) :: (pg, oGrid (nI R) (nI C) sp.1 sp.2.1 sp.2.2) :: (ga, oGrid sg.1 sg.2.1 sg.2.2.1 sg.2.2.2.1 sg.2.2.2.2) :: (sh, aS g 3 shf) :: rest) [(0, .ref o), (1, .int se)] 8 [.long (opF al waf wof se m)]
  refine X_lstore_n (L' := [(2, .long (opF al waf wof se m)), (0, .ref o), (1, .int se)]) K0 dX4_placesBy_8 rfl (by decide) rfl ?_
  refine X_aload_n K0 1 dX4_placesBy_9 rfl rfl ?_
  refine X_get K0 0 rfl rfl hin4 0 (by decide) fl_RX4_10 rfl dX4_placesBy_10 ?_
  refine X_get K0 1 rfl rfl hin1 2 (by decide) fl_RX4_96 rfl dX4_placesBy_13 ?_
  refine X_if_eq K0 85 dX4_placesBy_16 (by decide) (fun h16 => ?_) (fun h16 => ?_)
  · refine X_aload_n K0 1 dX4_placesBy_85 rfl rfl ?_
    refine X_get K0 0 rfl rfl hin4 2 (by decide) fl_RX4_28 rfl dX4_placesBy_86 ?_
    refine X_aload_n K0 1 dX4_placesBy_89 rfl rfl ?_
    refine X_get K0 0 rfl rfl hin4 0 (by decide) fl_RX4_10 rfl dX4_placesBy_90 ?_
    refine X_get K0 1 rfl rfl hin1 4 (by decide) fl_RX4_238 rfl dX4_placesBy_93 ?_
    refine X_put (w' := ((o, oMain pl th pg ga sh asked fi) :: (pl, oPlan (nI R) (nI C) (bI op) (nI T) ap rr rd sl) :: (sl, aI g 40 slots) :: (th, oThings pl ki el nu (nI m) al wa wo) :: (ki, aI g 40 kinds) :: (el, aI g 40 elders) :: (nu, aI g 40 numbers) :: (wa, aJ g 12 waf) :: (wo, aJ g 12 wof) :: (pg, oGrid (nI R) (nI C) ap sp.2.1 sp.2.2) :: (ga, oGrid sg.1 sg.2.1 sg.2.2.1 sg.2.2.2.1 sg.2.2.2.2) :: (sh, aS g 3 shf) :: rest)) K0 9 rfl rfl hin0 tyX0 tyX0_ok nmX0 2 (by decide) fl_RX4_223 rfl (tyX0_ok 2 (by decide)) rfl rfl (Nat.le_of_ble_eq_true rfl) dX4_placesBy_96 rfl ?_
    refine X_aload_n K0 1 dX4_placesBy_99 rfl rfl ?_
    refine X_get K0 0 rfl rfl hin4 2 (by decide) fl_RX4_28 rfl dX4_placesBy_100 ?_
    refine X_lload_n K0 0 dX4_placesBy_103 rfl rfl ?_
    refine X_l2i (v := ((opF al waf wof se m).toInt32)) K0 dX4_placesBy_104 rfl ?_
    refine X_put (w' := ((o, oMain pl th pg ga sh asked fi) :: (pl, oPlan (nI R) (nI C) (bI op) (nI T) ap rr rd sl) :: (sl, aI g 40 slots) :: (th, oThings pl ki el nu (nI m) al wa wo) :: (ki, aI g 40 kinds) :: (el, aI g 40 elders) :: (nu, aI g 40 numbers) :: (wa, aJ g 12 waf) :: (wo, aJ g 12 wof) :: (pg, oGrid (nI R) (nI C) ap ((opF al waf wof se m).toInt32) sp.2.2) :: (ga, oGrid sg.1 sg.2.1 sg.2.2.1 sg.2.2.2.1 sg.2.2.2.2) :: (sh, aS g 3 shf) :: rest)) K0 9 rfl rfl hin0 tyX0 tyX0_ok nmX0 3 (by decide) fl_RX4_229 rfl (tyX0_ok 3 (by decide)) rfl rfl (Nat.le_of_ble_eq_true rfl) dX4_placesBy_105 rfl ?_
    refine X_aload_n K0 1 dX4_placesBy_108 rfl rfl ?_
    refine X_get K0 0 rfl rfl hin4 2 (by decide) fl_RX4_28 rfl dX4_placesBy_109 ?_
    refine X_lload_n K0 0 dX4_placesBy_112 rfl rfl ?_
    refine X_bipush (v := 32) K0 dX4_placesBy_113 (by decide) ?_
    refine X_lushr (v := (lush (opF al waf wof se m) 32)) K0 dX4_placesBy_115 rfl ?_
    refine X_l2i (v := ((lush (opF al waf wof se m) 32).toInt32)) K0 dX4_placesBy_116 rfl ?_
    refine X_put (w' := ((o, oMain pl th pg ga sh asked fi) :: (pl, oPlan (nI R) (nI C) (bI op) (nI T) ap rr rd sl) :: (sl, aI g 40 slots) :: (th, oThings pl ki el nu (nI m) al wa wo) :: (ki, aI g 40 kinds) :: (el, aI g 40 elders) :: (nu, aI g 40 numbers) :: (wa, aJ g 12 waf) :: (wo, aJ g 12 wof) :: (pg, oGrid (nI R) (nI C) ap ((opF al waf wof se m).toInt32) ((lush (opF al waf wof se m) 32).toInt32)) :: (ga, oGrid sg.1 sg.2.1 sg.2.2.1 sg.2.2.2.1 sg.2.2.2.2) :: (sh, aS g 3 shf) :: rest)) K0 9 rfl rfl hin0 tyX0 tyX0_ok nmX0 4 (by decide) fl_RX4_235 rfl (tyX0_ok 4 (by decide)) rfl rfl (Nat.le_of_ble_eq_true rfl) dX4_placesBy_117 rfl ?_
    refine X_aload_n K0 1 dX4_placesBy_120 rfl rfl ?_
    refine X_get K0 0 rfl rfl hin4 2 (by decide) fl_RX4_28 rfl dX4_placesBy_121 ?_
    exact hr _ _ _ _ ⟨rfl, by first | (simp only [pbC, pbR, pbD, if_pos (bI_n0.mp h16)]) | (simp only [pbC, pbR, pbD, bI_0.mp h16]; rfl)⟩ dX4_placesBy_124
  · refine X_lload_n K0 0 dX4_placesBy_19 rfl rfl ?_
    refine X_l2i (v := ((opF al waf wof se m).toInt32)) K0 dX4_placesBy_20 rfl ?_
    refine X_istore (L' := [(4, .int ((opF al waf wof se m).toInt32)), (2, .long (opF al waf wof se m)), (0, .ref o), (1, .int se)]) K0 dX4_placesBy_21 (by decide) rfl ?_
    refine X_aload_n K0 2 dX4_placesBy_23 rfl rfl ?_
    refine X_get K0 0 rfl rfl hin4 2 (by decide) fl_RX4_28 rfl dX4_placesBy_24 ?_
    refine X_iload K0 0 dX4_placesBy_27 rfl ?_
    refine X_put (w' := ((o, oMain pl th pg ga sh asked fi) :: (pl, oPlan (nI R) (nI C) (bI op) (nI T) ap rr rd sl) :: (sl, aI g 40 slots) :: (th, oThings pl ki el nu (nI m) al wa wo) :: (ki, aI g 40 kinds) :: (el, aI g 40 elders) :: (nu, aI g 40 numbers) :: (wa, aJ g 12 waf) :: (wo, aJ g 12 wof) :: (pg, oGrid (nI R) (nI C) ((opF al waf wof se m).toInt32) sp.2.1 sp.2.2) :: (ga, oGrid sg.1 sg.2.1 sg.2.2.1 sg.2.2.2.1 sg.2.2.2.2) :: (sh, aS g 3 shf) :: rest)) K0 9 rfl rfl hin0 tyX0 tyX0_ok nmX0 2 (by decide) fl_RX4_223 rfl (tyX0_ok 2 (by decide)) rfl rfl (Nat.le_of_ble_eq_true rfl) dX4_placesBy_29 rfl ?_
    refine X_aload_n K0 2 dX4_placesBy_32 rfl rfl ?_
    refine X_get K0 0 rfl rfl hin4 2 (by decide) fl_RX4_28 rfl dX4_placesBy_33 ?_
    refine X_aload_n K0 2 dX4_placesBy_36 rfl rfl ?_
    refine X_get K0 0 rfl rfl hin4 0 (by decide) fl_RX4_10 rfl dX4_placesBy_37 ?_
    refine X_get K0 1 rfl rfl hin1 5 (by decide) fl_RX4_226 rfl dX4_placesBy_40 ?_
    refine X_iload K0 0 dX4_placesBy_43 rfl ?_
    refine X_iand K0 dX4_placesBy_45 ?_
    refine X_iload K0 0 dX4_placesBy_46 rfl ?_
    refine X_iconst (v := 1) K0 dX4_placesBy_48 (by decide) ?_
    refine X_iushr (v := (ush ((opF al waf wof se m).toInt32) 1)) K0 dX4_placesBy_49 rfl ?_
    refine X_iand K0 dX4_placesBy_50 ?_
    refine X_put (w' := ((o, oMain pl th pg ga sh asked fi) :: (pl, oPlan (nI R) (nI C) (bI op) (nI T) ap rr rd sl) :: (sl, aI g 40 slots) :: (th, oThings pl ki el nu (nI m) al wa wo) :: (ki, aI g 40 kinds) :: (el, aI g 40 elders) :: (nu, aI g 40 numbers) :: (wa, aJ g 12 waf) :: (wo, aJ g 12 wof) :: (pg, oGrid (nI R) (nI C) ((opF al waf wof se m).toInt32) ((rr &&& ((opF al waf wof se m).toInt32)) &&& (ush ((opF al waf wof se m).toInt32) 1)) sp.2.2) :: (ga, oGrid sg.1 sg.2.1 sg.2.2.1 sg.2.2.2.1 sg.2.2.2.2) :: (sh, aS g 3 shf) :: rest)) K0 9 rfl rfl hin0 tyX0 tyX0_ok nmX0 3 (by decide) fl_RX4_229 rfl (tyX0_ok 3 (by decide)) rfl rfl (Nat.le_of_ble_eq_true rfl) dX4_placesBy_51 rfl ?_
    refine X_aload_n K0 2 dX4_placesBy_54 rfl rfl ?_
    refine X_get K0 0 rfl rfl hin4 2 (by decide) fl_RX4_28 rfl dX4_placesBy_55 ?_
    refine X_aload_n K0 2 dX4_placesBy_58 rfl rfl ?_
    refine X_get K0 0 rfl rfl hin4 0 (by decide) fl_RX4_10 rfl dX4_placesBy_59 ?_
    refine X_get K0 1 rfl rfl hin1 6 (by decide) fl_RX4_232 rfl dX4_placesBy_62 ?_
    refine X_iload K0 0 dX4_placesBy_65 rfl ?_
    refine X_iand K0 dX4_placesBy_67 ?_
    refine X_iload K0 0 dX4_placesBy_68 rfl ?_
    refine X_aload_n K0 2 dX4_placesBy_70 rfl rfl ?_
    refine X_get K0 0 rfl rfl hin4 0 (by decide) fl_RX4_10 rfl dX4_placesBy_71 ?_
    refine X_get K0 1 rfl rfl hin1 1 (by decide) fl_RX4_93 rfl dX4_placesBy_74 ?_
    refine X_iushr (v := (ush ((opF al waf wof se m).toInt32) (nI C))) K0 dX4_placesBy_77 rfl ?_
    refine X_iand K0 dX4_placesBy_78 ?_
    refine X_put (w' := ((o, oMain pl th pg ga sh asked fi) :: (pl, oPlan (nI R) (nI C) (bI op) (nI T) ap rr rd sl) :: (sl, aI g 40 slots) :: (th, oThings pl ki el nu (nI m) al wa wo) :: (ki, aI g 40 kinds) :: (el, aI g 40 elders) :: (nu, aI g 40 numbers) :: (wa, aJ g 12 waf) :: (wo, aJ g 12 wof) :: (pg, oGrid (nI R) (nI C) ((opF al waf wof se m).toInt32) ((rr &&& ((opF al waf wof se m).toInt32)) &&& (ush ((opF al waf wof se m).toInt32) 1)) ((rd &&& ((opF al waf wof se m).toInt32)) &&& (ush ((opF al waf wof se m).toInt32) (nI C)))) :: (ga, oGrid sg.1 sg.2.1 sg.2.2.1 sg.2.2.2.1 sg.2.2.2.2) :: (sh, aS g 3 shf) :: rest)) K0 9 rfl rfl hin0 tyX0 tyX0_ok nmX0 4 (by decide) fl_RX4_235 rfl (tyX0_ok 4 (by decide)) rfl rfl (Nat.le_of_ble_eq_true rfl) dX4_placesBy_79 rfl ?_
    refine X_goto K0 120 dX4_placesBy_82 (by decide) ?_
    refine X_aload_n K0 2 dX4_placesBy_120 rfl rfl ?_
    refine X_get K0 0 rfl rfl hin4 2 (by decide) fl_RX4_28 rfl dX4_placesBy_121 ?_
    exact hr _ _ _ _ ⟨rfl, by first | (simp only [pbC, pbR, pbD, if_pos (bI_n0.mp h16)]) | (simp only [pbC, pbR, pbD, bI_0.mp h16]; rfl)⟩ dX4_placesBy_124

set_option maxRecDepth 20000 in
set_option maxHeartbeats 400000 in
theorem c_comesThrough (g : Gx) (o pl sl th ki el nu wa wo pg ga sh : Nat) (R C : Nat) (op : Bool) (T : Nat) (slots : Nat → Int32) (ap rr rd : Int32) (m : Nat) (al : Int64) (kinds elders numbers : Nat → Int32) (waf wof : Nat → Int64) (sp : Int32 × Int32 × Int32) (sg : Int32 × Int32 × Int32 × Int32 × Int32) (shf : Nat → Option Nat) (asked : Int64) (fi : Int32) (rest : va_W) (hR : 1 ≤ R ∧ R ≤ 5) (hC : 1 ≤ C ∧ C ≤ 5) (hT : T ≤ 40) (hm : m ≤ 12) (se way : Int32) : Con g yX4_comesThrough cX4_comesThrough 4 (some .boolean) 3 69 0 0 [.ref o, .int se, .int way] ((o, oMain pl th pg ga sh asked fi) :: (pl, oPlan (nI R) (nI C) (bI op) (nI T) ap rr rd sl) :: (sl, aI g 40 slots) :: (th, oThings pl ki el nu (nI m) al wa wo) :: (ki, aI g 40 kinds) :: (el, aI g 40 elders) :: (nu, aI g 40 numbers) :: (wa, aJ g 12 waf) :: (wo, aJ g 12 wof) :: (pg, oGrid (nI R) (nI C) sp.1 sp.2.1 sp.2.2) :: (ga, oGrid sg.1 sg.2.1 sg.2.2.1 sg.2.2.2.1 sg.2.2.2.2) :: (sh, aS g 3 shf) :: rest) (Rs (some (.int (bI (ctB R C op ap rr rd (opF al waf wof se m) way)))) ((o, oMain pl th pg ga sh asked fi) :: (pl, oPlan (nI R) (nI C) (bI op) (nI T) ap rr rd sl) :: (sl, aI g 40 slots) :: (th, oThings pl ki el nu (nI m) al wa wo) :: (ki, aI g 40 kinds) :: (el, aI g 40 elders) :: (nu, aI g 40 numbers) :: (wa, aJ g 12 waf) :: (wo, aJ g 12 wof) :: (pg, oGrid (nI R) (nI C) (pbC op ap (opF al waf wof se m)) (pbR op rr (opF al waf wof se m)) (pbD op rd (nI C) (opF al waf wof se m))) :: (ga, oGrid sg.1 sg.2.1 sg.2.2.1 sg.2.2.2.1 sg.2.2.2.2) :: (sh, aS g 3 shf) :: rest)) := by
  refine Con.ofZ (by decide +kernel) (Nat.le_of_ble_eq_true rfl) (fun φ K0 hr => ?_)
  show X φ 0 0 ((o, oMain pl th pg ga sh asked fi) :: (pl, oPlan (nI R) (nI C) (bI op) (nI T) ap rr rd sl) :: (sl, aI g 40 slots) :: (th, oThings pl ki el nu (nI m) al wa wo) :: (ki, aI g 40 kinds) :: (el, aI g 40 elders) :: (nu, aI g 40 numbers) :: (wa, aJ g 12 waf) :: (wo, aJ g 12 wof) :: (pg, oGrid (nI R) (nI C) sp.1 sp.2.1 sp.2.2) :: (ga, oGrid sg.1 sg.2.1 sg.2.2.1 sg.2.2.2.1 sg.2.2.2.2) :: (sh, aS g 3 shf) :: rest) [(0, .ref o), (1, .int se), (2, .int way)] 0 []
  refine X_aload_n K0 0 dX4_comesThrough_0 rfl rfl ?_
  refine X_iload_n K0 1 dX4_comesThrough_1 rfl rfl ?_
  refine X_callV (As := [.int se]) (rest := []) K0 0 (c_placesBy g o pl sl th ki el nu wa wo pg ga sh R C op T slots ap rr rd m al kinds elders numbers waf wof sp sg shf asked fi rest hR hC hT hm se) mi_X4_placesBy rfl rfl rfl ml_RX4_121 rfl (Nat.le_of_ble_eq_true rfl) (by decide) ⟨Nat.le_of_ble_eq_true rfl, Nat.le_of_ble_eq_true rfl⟩ rfl rfl dX4_comesThrough_2 ?_
  intro v w' hr'; obtain ⟨rfl, rfl⟩ := hr'
  show X φ 0 0 ((o, oMain pl th pg ga sh asked fi) :: (pl, oPlan (nI R) (nI C) (bI op) (nI T) ap rr rd sl) :: (sl, aI g 40 slots) :: (th, oThings pl ki el nu (nI m) al wa wo) :: (ki, aI g 40 kinds) :: (el, aI g 40 elders) :: (nu, aI g 40 numbers) :: (wa, aJ g 12 waf) :: (wo, aJ g 12 wof) :: (pg, oGrid (nI R) (nI C) (pbC op ap (opF al waf wof se m)) (pbR op rr (opF al waf wof se m)) (pbD op rd (nI C) (opF al waf wof se m))) :: (ga, oGrid sg.1 sg.2.1 sg.2.2.1 sg.2.2.2.1 sg.2.2.2.2) :: (sh, aS g 3 shf) :: rest) [(0, .ref o), (1, .int se), (2, .int way)] 5 [.ref pg]
  refine X_astore_n (L' := [(3, .ref pg), (0, .ref o), (1, .int se), (2, .int way)]) K0 dX4_comesThrough_5 rfl (by decide) rfl ?_
  refine X_iload_n K0 3 dX4_comesThrough_6 rfl rfl ?_
  by_cases hw2 : way = 2
  · subst hw2
    refine X_lookup K0 32 dX4_comesThrough_7 (by decide) (by rfl) (by decide) ?_
    refine X_aload_n K0 0 dX4_comesThrough_32 rfl rfl ?_
    refine X_iconst (v := 0) K0 dX4_comesThrough_33 (by decide) ?_
    refine X_callV (As := [.int 0]) (rest := []) K0 9 (c_isCrossed g ((o, oMain pl th pg ga sh asked fi) :: (pl, oPlan (nI R) (nI C) (bI op) (nI T) ap rr rd sl) :: (sl, aI g 40 slots) :: (th, oThings pl ki el nu (nI m) al wa wo) :: (ki, aI g 40 kinds) :: (el, aI g 40 elders) :: (nu, aI g 40 numbers) :: (wa, aJ g 12 waf) :: (wo, aJ g 12 wof) :: (pg, oGrid (nI R) (nI C) (pbC op ap (opF al waf wof se m)) (pbR op rr (opF al waf wof se m)) (pbD op rd (nI C) (opF al waf wof se m))) :: (ga, oGrid sg.1 sg.2.1 sg.2.2.1 sg.2.2.2.1 sg.2.2.2.2) :: (sh, aS g 3 shf) :: rest) 9 pg R C (pbC op ap (opF al waf wof se m)) (pbR op rr (opF al waf wof se m)) (pbD op rd (nI C) (opF al waf wof se m)) rfl (by omega) (by omega) 0) mi_X0_isCrossed rfl rfl rfl ml_RX4_125 rfl (Nat.le_of_ble_eq_true rfl) (by decide) ⟨Nat.le_of_ble_eq_true rfl, Nat.le_of_ble_eq_true rfl⟩ rfl rfl dX4_comesThrough_34 ?_
    intro v w' hr'; obtain ⟨rfl, rfl⟩ := hr'
    show X φ 0 0 ((o, oMain pl th pg ga sh asked fi) :: (pl, oPlan (nI R) (nI C) (bI op) (nI T) ap rr rd sl) :: (sl, aI g 40 slots) :: (th, oThings pl ki el nu (nI m) al wa wo) :: (ki, aI g 40 kinds) :: (el, aI g 40 elders) :: (nu, aI g 40 numbers) :: (wa, aJ g 12 waf) :: (wo, aJ g 12 wof) :: (pg, oGrid (nI R) (nI C) (pbC op ap (opF al waf wof se m)) (pbR op rr (opF al waf wof se m)) (pbD op rd (nI C) (opF al waf wof se m))) :: (ga, oGrid sg.1 sg.2.1 sg.2.2.1 sg.2.2.2.1 sg.2.2.2.2) :: (sh, aS g 3 shf) :: rest) [(3, .ref pg), (0, .ref o), (1, .int se), (2, .int 2)] 37 [.int (bI (crF R C (pbC op ap (opF al waf wof se m)) (pbR op rr (opF al waf wof se m)) (pbD op rd (nI C) (opF al waf wof se m)) 0))]
    refine X_if_eq K0 52 dX4_comesThrough_37 (by decide) (fun h37 => ?_) (fun h37 => ?_)
    · refine X_iconst (v := 0) K0 dX4_comesThrough_52 (by decide) ?_
      exact hr _ _ _ _ ⟨by simp_all [ctB, crO, bI_0, bI_n0]; try rfl, rfl⟩ (by first | exact Or.inl rfl | exact Or.inr rfl) dX4_comesThrough_53
    · refine X_aload_n K0 0 dX4_comesThrough_40 rfl rfl ?_
      refine X_iconst (v := 1) K0 dX4_comesThrough_41 (by decide) ?_
      refine X_callV (As := [.int 1]) (rest := []) K0 9 (c_isCrossed g ((o, oMain pl th pg ga sh asked fi) :: (pl, oPlan (nI R) (nI C) (bI op) (nI T) ap rr rd sl) :: (sl, aI g 40 slots) :: (th, oThings pl ki el nu (nI m) al wa wo) :: (ki, aI g 40 kinds) :: (el, aI g 40 elders) :: (nu, aI g 40 numbers) :: (wa, aJ g 12 waf) :: (wo, aJ g 12 wof) :: (pg, oGrid (nI R) (nI C) (pbC op ap (opF al waf wof se m)) (pbR op rr (opF al waf wof se m)) (pbD op rd (nI C) (opF al waf wof se m))) :: (ga, oGrid sg.1 sg.2.1 sg.2.2.1 sg.2.2.2.1 sg.2.2.2.2) :: (sh, aS g 3 shf) :: rest) 9 pg R C (pbC op ap (opF al waf wof se m)) (pbR op rr (opF al waf wof se m)) (pbD op rd (nI C) (opF al waf wof se m)) rfl (by omega) (by omega) 1) mi_X0_isCrossed rfl rfl rfl ml_RX4_125 rfl (Nat.le_of_ble_eq_true rfl) (by decide) ⟨Nat.le_of_ble_eq_true rfl, Nat.le_of_ble_eq_true rfl⟩ rfl rfl dX4_comesThrough_42 ?_
      intro v w' hr'; obtain ⟨rfl, rfl⟩ := hr'
      show X φ 0 0 ((o, oMain pl th pg ga sh asked fi) :: (pl, oPlan (nI R) (nI C) (bI op) (nI T) ap rr rd sl) :: (sl, aI g 40 slots) :: (th, oThings pl ki el nu (nI m) al wa wo) :: (ki, aI g 40 kinds) :: (el, aI g 40 elders) :: (nu, aI g 40 numbers) :: (wa, aJ g 12 waf) :: (wo, aJ g 12 wof) :: (pg, oGrid (nI R) (nI C) (pbC op ap (opF al waf wof se m)) (pbR op rr (opF al waf wof se m)) (pbD op rd (nI C) (opF al waf wof se m))) :: (ga, oGrid sg.1 sg.2.1 sg.2.2.1 sg.2.2.2.1 sg.2.2.2.2) :: (sh, aS g 3 shf) :: rest) [(3, .ref pg), (0, .ref o), (1, .int se), (2, .int 2)] 45 [.int (bI (crF R C (pbC op ap (opF al waf wof se m)) (pbR op rr (opF al waf wof se m)) (pbD op rd (nI C) (opF al waf wof se m)) 1))]
      refine X_if_eq K0 52 dX4_comesThrough_45 (by decide) (fun h45 => ?_) (fun h45 => ?_)
      · refine X_iconst (v := 0) K0 dX4_comesThrough_52 (by decide) ?_
        exact hr _ _ _ _ ⟨by simp_all [ctB, crO, bI_0, bI_n0]; try rfl, rfl⟩ (by first | exact Or.inl rfl | exact Or.inr rfl) dX4_comesThrough_53
      · refine X_iconst (v := 1) K0 dX4_comesThrough_48 (by decide) ?_
        refine X_goto K0 53 dX4_comesThrough_49 (by decide) ?_
        exact hr _ _ _ _ ⟨by simp_all [ctB, crO, bI_0, bI_n0]; try rfl, rfl⟩ (by first | exact Or.inl rfl | exact Or.inr rfl) dX4_comesThrough_53
  by_cases hw3 : way = 3
  · subst hw3
    refine X_lookup K0 54 dX4_comesThrough_7 (by decide) (by rfl) (by decide) ?_
    refine X_aload_n K0 0 dX4_comesThrough_54 rfl rfl ?_
    refine X_iconst (v := 0) K0 dX4_comesThrough_55 (by decide) ?_
    refine X_callV (As := [.int 0]) (rest := []) K0 9 (c_isCrossed g ((o, oMain pl th pg ga sh asked fi) :: (pl, oPlan (nI R) (nI C) (bI op) (nI T) ap rr rd sl) :: (sl, aI g 40 slots) :: (th, oThings pl ki el nu (nI m) al wa wo) :: (ki, aI g 40 kinds) :: (el, aI g 40 elders) :: (nu, aI g 40 numbers) :: (wa, aJ g 12 waf) :: (wo, aJ g 12 wof) :: (pg, oGrid (nI R) (nI C) (pbC op ap (opF al waf wof se m)) (pbR op rr (opF al waf wof se m)) (pbD op rd (nI C) (opF al waf wof se m))) :: (ga, oGrid sg.1 sg.2.1 sg.2.2.1 sg.2.2.2.1 sg.2.2.2.2) :: (sh, aS g 3 shf) :: rest) 9 pg R C (pbC op ap (opF al waf wof se m)) (pbR op rr (opF al waf wof se m)) (pbD op rd (nI C) (opF al waf wof se m)) rfl (by omega) (by omega) 0) mi_X0_isCrossed rfl rfl rfl ml_RX4_125 rfl (Nat.le_of_ble_eq_true rfl) (by decide) ⟨Nat.le_of_ble_eq_true rfl, Nat.le_of_ble_eq_true rfl⟩ rfl rfl dX4_comesThrough_56 ?_
    intro v w' hr'; obtain ⟨rfl, rfl⟩ := hr'
    show X φ 0 0 ((o, oMain pl th pg ga sh asked fi) :: (pl, oPlan (nI R) (nI C) (bI op) (nI T) ap rr rd sl) :: (sl, aI g 40 slots) :: (th, oThings pl ki el nu (nI m) al wa wo) :: (ki, aI g 40 kinds) :: (el, aI g 40 elders) :: (nu, aI g 40 numbers) :: (wa, aJ g 12 waf) :: (wo, aJ g 12 wof) :: (pg, oGrid (nI R) (nI C) (pbC op ap (opF al waf wof se m)) (pbR op rr (opF al waf wof se m)) (pbD op rd (nI C) (opF al waf wof se m))) :: (ga, oGrid sg.1 sg.2.1 sg.2.2.1 sg.2.2.2.1 sg.2.2.2.2) :: (sh, aS g 3 shf) :: rest) [(3, .ref pg), (0, .ref o), (1, .int se), (2, .int 3)] 59 [.int (bI (crF R C (pbC op ap (opF al waf wof se m)) (pbR op rr (opF al waf wof se m)) (pbD op rd (nI C) (opF al waf wof se m)) 0))]
    refine X_if_ne K0 70 dX4_comesThrough_59 (by decide) (fun h59 => ?_) (fun h59 => ?_)
    · refine X_iconst (v := 1) K0 dX4_comesThrough_70 (by decide) ?_
      refine X_goto K0 75 dX4_comesThrough_71 (by decide) ?_
      exact hr _ _ _ _ ⟨by simp_all [ctB, crO, bI_0, bI_n0]; try rfl, rfl⟩ (by first | exact Or.inl rfl | exact Or.inr rfl) dX4_comesThrough_75
    · refine X_aload_n K0 0 dX4_comesThrough_62 rfl rfl ?_
      refine X_iconst (v := 1) K0 dX4_comesThrough_63 (by decide) ?_
      refine X_callV (As := [.int 1]) (rest := []) K0 9 (c_isCrossed g ((o, oMain pl th pg ga sh asked fi) :: (pl, oPlan (nI R) (nI C) (bI op) (nI T) ap rr rd sl) :: (sl, aI g 40 slots) :: (th, oThings pl ki el nu (nI m) al wa wo) :: (ki, aI g 40 kinds) :: (el, aI g 40 elders) :: (nu, aI g 40 numbers) :: (wa, aJ g 12 waf) :: (wo, aJ g 12 wof) :: (pg, oGrid (nI R) (nI C) (pbC op ap (opF al waf wof se m)) (pbR op rr (opF al waf wof se m)) (pbD op rd (nI C) (opF al waf wof se m))) :: (ga, oGrid sg.1 sg.2.1 sg.2.2.1 sg.2.2.2.1 sg.2.2.2.2) :: (sh, aS g 3 shf) :: rest) 9 pg R C (pbC op ap (opF al waf wof se m)) (pbR op rr (opF al waf wof se m)) (pbD op rd (nI C) (opF al waf wof se m)) rfl (by omega) (by omega) 1) mi_X0_isCrossed rfl rfl rfl ml_RX4_125 rfl (Nat.le_of_ble_eq_true rfl) (by decide) ⟨Nat.le_of_ble_eq_true rfl, Nat.le_of_ble_eq_true rfl⟩ rfl rfl dX4_comesThrough_64 ?_
      intro v w' hr'; obtain ⟨rfl, rfl⟩ := hr'
      show X φ 0 0 ((o, oMain pl th pg ga sh asked fi) :: (pl, oPlan (nI R) (nI C) (bI op) (nI T) ap rr rd sl) :: (sl, aI g 40 slots) :: (th, oThings pl ki el nu (nI m) al wa wo) :: (ki, aI g 40 kinds) :: (el, aI g 40 elders) :: (nu, aI g 40 numbers) :: (wa, aJ g 12 waf) :: (wo, aJ g 12 wof) :: (pg, oGrid (nI R) (nI C) (pbC op ap (opF al waf wof se m)) (pbR op rr (opF al waf wof se m)) (pbD op rd (nI C) (opF al waf wof se m))) :: (ga, oGrid sg.1 sg.2.1 sg.2.2.1 sg.2.2.2.1 sg.2.2.2.2) :: (sh, aS g 3 shf) :: rest) [(3, .ref pg), (0, .ref o), (1, .int se), (2, .int 3)] 67 [.int (bI (crF R C (pbC op ap (opF al waf wof se m)) (pbR op rr (opF al waf wof se m)) (pbD op rd (nI C) (opF al waf wof se m)) 1))]
      refine X_if_eq K0 74 dX4_comesThrough_67 (by decide) (fun h67 => ?_) (fun h67 => ?_)
      · refine X_iconst (v := 0) K0 dX4_comesThrough_74 (by decide) ?_
        exact hr _ _ _ _ ⟨by simp_all [ctB, crO, bI_0, bI_n0]; try rfl, rfl⟩ (by first | exact Or.inl rfl | exact Or.inr rfl) dX4_comesThrough_75
      · refine X_iconst (v := 1) K0 dX4_comesThrough_70 (by decide) ?_
        refine X_goto K0 75 dX4_comesThrough_71 (by decide) ?_
        exact hr _ _ _ _ ⟨by simp_all [ctB, crO, bI_0, bI_n0]; try rfl, rfl⟩ (by first | exact Or.inl rfl | exact Or.inr rfl) dX4_comesThrough_75
  refine X_lookup K0 76 dX4_comesThrough_7 (by decide) (look_no hw2 hw3) (by decide) ?_
  refine X_aload_n K0 0 dX4_comesThrough_76 rfl rfl ?_
  refine X_iload_n K0 3 dX4_comesThrough_77 rfl rfl ?_
  refine X_callV (As := [.int way]) (rest := []) K0 9 (c_isCrossed g ((o, oMain pl th pg ga sh asked fi) :: (pl, oPlan (nI R) (nI C) (bI op) (nI T) ap rr rd sl) :: (sl, aI g 40 slots) :: (th, oThings pl ki el nu (nI m) al wa wo) :: (ki, aI g 40 kinds) :: (el, aI g 40 elders) :: (nu, aI g 40 numbers) :: (wa, aJ g 12 waf) :: (wo, aJ g 12 wof) :: (pg, oGrid (nI R) (nI C) (pbC op ap (opF al waf wof se m)) (pbR op rr (opF al waf wof se m)) (pbD op rd (nI C) (opF al waf wof se m))) :: (ga, oGrid sg.1 sg.2.1 sg.2.2.1 sg.2.2.2.1 sg.2.2.2.2) :: (sh, aS g 3 shf) :: rest) 9 pg R C (pbC op ap (opF al waf wof se m)) (pbR op rr (opF al waf wof se m)) (pbD op rd (nI C) (opF al waf wof se m)) rfl (by omega) (by omega) way) mi_X0_isCrossed rfl rfl rfl ml_RX4_125 rfl (Nat.le_of_ble_eq_true rfl) (by decide) ⟨Nat.le_of_ble_eq_true rfl, Nat.le_of_ble_eq_true rfl⟩ rfl rfl dX4_comesThrough_78 ?_
  intro v w' hr'; obtain ⟨rfl, rfl⟩ := hr'
  show X φ 0 0 ((o, oMain pl th pg ga sh asked fi) :: (pl, oPlan (nI R) (nI C) (bI op) (nI T) ap rr rd sl) :: (sl, aI g 40 slots) :: (th, oThings pl ki el nu (nI m) al wa wo) :: (ki, aI g 40 kinds) :: (el, aI g 40 elders) :: (nu, aI g 40 numbers) :: (wa, aJ g 12 waf) :: (wo, aJ g 12 wof) :: (pg, oGrid (nI R) (nI C) (pbC op ap (opF al waf wof se m)) (pbR op rr (opF al waf wof se m)) (pbD op rd (nI C) (opF al waf wof se m))) :: (ga, oGrid sg.1 sg.2.1 sg.2.2.1 sg.2.2.2.1 sg.2.2.2.2) :: (sh, aS g 3 shf) :: rest) [(3, .ref pg), (0, .ref o), (1, .int se), (2, .int way)] 81 [.int (bI (crF R C (pbC op ap (opF al waf wof se m)) (pbR op rr (opF al waf wof se m)) (pbD op rd (nI C) (opF al waf wof se m)) way))]
  exact hr _ _ _ _ ⟨by rw [ctB, if_neg hw2, if_neg hw3]; rfl, rfl⟩ (bI_01 _) dX4_comesThrough_81
