set_option maxRecDepth 20000 in
set_option maxHeartbeats 400000 in
theorem c_numberChances (g : Gx) (c0 : Nat × va_E) (rest : va_W) (pl sl th ki el nu wa wo : Nat) (r c o ap rr rd : Int32) (T : Nat) (slots : Nat → Int32) (ch : Int32) (al : Int64) (kinds elders numbers : Nat → Int32) (waf wof : Nat → Int64) (hT : T ≤ 40) : Con g yX3_numberChances cX3_numberChances 2 none 0 0 0 0 [.ref th] (c0 :: (pl, oPlan r c o (nI T) ap rr rd sl) :: (sl, aI g 40 slots) :: (th, oThings pl ki el nu ch al wa wo) :: (ki, aI g 40 kinds) :: (el, aI g 40 elders) :: (nu, aI g 40 numbers) :: (wa, aJ g 12 waf) :: (wo, aJ g 12 wof) :: rest) (Rs none (c0 :: (pl, oPlan r c o (nI T) ap rr rd sl) :: (sl, aI g 40 slots) :: (th, oThings pl ki el nu (nI (ctF kinds T)) al wa wo) :: (ki, aI g 40 kinds) :: (el, aI g 40 elders) :: (nu, aI g 40 (nuF kinds numbers T)) :: (wa, aJ g 12 waf) :: (wo, aJ g 12 wof) :: rest)) := by
  refine Con.ofV (by decide +kernel) (Nat.le_of_ble_eq_true rfl) (fun φ K0 hr => ?_)
  show X φ 0 0 (c0 :: (pl, oPlan r c o (nI T) ap rr rd sl) :: (sl, aI g 40 slots) :: (th, oThings pl ki el nu ch al wa wo) :: (ki, aI g 40 kinds) :: (el, aI g 40 elders) :: (nu, aI g 40 numbers) :: (wa, aJ g 12 waf) :: (wo, aJ g 12 wof) :: rest) [(0, .ref th)] 0 []
  refine X_aload_n K0 0 dX3_numberChances_0 rfl rfl ?_
  refine X_iconst (v := 0) K0 dX3_numberChances_1 (by decide) ?_
  refine X_v (z := (nI 0)) nI_0.symm ?_
  refine X_put (w' := (c0 :: (pl, oPlan r c o (nI T) ap rr rd sl) :: (sl, aI g 40 slots) :: (th, oThings pl ki el nu (nI 0) al wa wo) :: (ki, aI g 40 kinds) :: (el, aI g 40 elders) :: (nu, aI g 40 numbers) :: (wa, aJ g 12 waf) :: (wo, aJ g 12 wof) :: rest)) K0 3 rfl rfl hin3 tyX3 tyX3_ok nmX3 4 (by decide) fl_RX3_51 rfl (tyX3_ok 4 (by decide)) rfl rfl (Nat.le_of_ble_eq_true rfl) dX3_numberChances_2 rfl ?_
  refine X_iconst (v := 0) K0 dX3_numberChances_5 (by decide) ?_
  refine X_istore_n (L' := [(1, .int 0), (0, .ref th)]) K0 dX3_numberChances_6 rfl (by decide) rfl ?_
  refine X.sub [1, 0] (L' := [(0, .ref th), (1, .int 0)]) rfl ?_
  have LOOP : ∀ (dd ii : Nat), ii + dd = T → X φ 0 0 (c0 :: (pl, oPlan r c o (nI T) ap rr rd sl) :: (sl, aI g 40 slots) :: (th, oThings pl ki el nu (nI (ctF kinds ii)) al wa wo) :: (ki, aI g 40 kinds) :: (el, aI g 40 elders) :: (nu, aI g 40 (nuF kinds numbers ii)) :: (wa, aJ g 12 waf) :: (wo, aJ g 12 wof) :: rest) [(0, .ref th), (1, .int (nI ii))] 7 [] := by
    intro dd
    induction dd with
    | zero =>
      intro ii hii 
      have hii2 : T = ii := by omega
      subst hii2
      refine X_iload_n K0 1 dX3_numberChances_7 rfl rfl ?_
      refine X_aload_n K0 0 dX3_numberChances_8 rfl rfl ?_
      refine X_get K0 3 rfl rfl hin3 0 (by decide) fl_RX3_28 rfl dX3_numberChances_9 ?_
      refine X_get K0 1 rfl rfl hin1 3 (by decide) fl_RX3_41 rfl dX3_numberChances_12 ?_
      refine X_icmp_ge K0 62 dX3_numberChances_15 (by decide) (fun h15 => ?_) (fun h15 => ?_)
      · exact hr _ _ _ ⟨rfl, rfl⟩ dX3_numberChances_62
      · exact absurd (nI_le (Nat.le_refl _) (by omega)) h15
    | succ dd ih =>
      intro ii hii 
      have hlt : ii < T := by omega
      have hct := ct_le kinds ii
      refine X_iload_n K0 1 dX3_numberChances_7 rfl rfl ?_
      refine X_aload_n K0 0 dX3_numberChances_8 rfl rfl ?_
      refine X_get K0 3 rfl rfl hin3 0 (by decide) fl_RX3_28 rfl dX3_numberChances_9 ?_
      refine X_get K0 1 rfl rfl hin1 3 (by decide) fl_RX3_41 rfl dX3_numberChances_12 ?_
      refine X_icmp_ge K0 62 dX3_numberChances_15 (by decide) (fun h15 => ?_) (fun h15 => ?_)
      · exact absurd h15 (nI_ge hlt (by omega))
      · refine X_aload_n K0 0 dX3_numberChances_18 rfl rfl ?_
        refine X_get K0 3 rfl rfl hin3 3 (by decide) fl_RX3_18 rfl dX3_numberChances_19 ?_
        refine X_iload_n K0 1 dX3_numberChances_22 rfl rfl ?_
        refine X_bipush (v := (-9)) K0 dX3_numberChances_23 (by decide) ?_
        refine X_iastN (w' := (c0 :: (pl, oPlan r c o (nI T) ap rr rd sl) :: (sl, aI g 40 slots) :: (th, oThings pl ki el nu (nI (ctF kinds ii)) al wa wo) :: (ki, aI g 40 kinds) :: (el, aI g 40 elders) :: (nu, aI g 40 (upd (nuF kinds numbers ii) ii (-9))) :: (wa, aJ g 12 waf) :: (wo, aJ g 12 wof) :: rest)) K0 6 rfl (by omega) (by decide) dX3_numberChances_25 rfl ?_
        refine X_aload_n K0 0 dX3_numberChances_26 rfl rfl ?_
        refine X_get K0 3 rfl rfl hin3 1 (by decide) fl_RX3_9 rfl dX3_numberChances_27 ?_
        refine X_iload_n K0 1 dX3_numberChances_30 rfl rfl ?_
        refine X_ialdN K0 4 rfl (by omega) (by decide) dX3_numberChances_31 ?_
        refine X_iconst (v := 2) K0 dX3_numberChances_32 (by decide) ?_
        refine X_icmp_ne K0 56 dX3_numberChances_33 (by decide) (fun h33 => ?_) (fun h33 => ?_)
        · refine X_iinc (v := ((nI ii) + 1)) (L' := [(1, .int ((nI ii) + 1)), (0, .ref th)]) K0 1 dX3_numberChances_56 rfl (by first | rfl | decide) (by decide) rfl ?_
          refine X_goto K0 7 dX3_numberChances_59 (by decide) ?_
          refine X.sub [1, 0] (L' := [(0, .ref th), (1, .int ((nI ii) + 1))]) rfl ?_
          exact X_eq (by first | (rw [nu_y h33, ct_y h33]) | (rw [nu_n h33, ct_n h33])) (by rw [nI_succ] <;> rfl) rfl (ih (ii + 1) (by omega))
        · refine X_aload_n K0 0 dX3_numberChances_36 rfl rfl ?_
          refine X_get K0 3 rfl rfl hin3 3 (by decide) fl_RX3_18 rfl dX3_numberChances_37 ?_
          refine X_iload_n K0 1 dX3_numberChances_40 rfl rfl ?_
          refine X_aload_n K0 0 dX3_numberChances_41 rfl rfl ?_
          refine X_get K0 3 rfl rfl hin3 4 (by decide) fl_RX3_51 rfl dX3_numberChances_42 ?_
          refine X_iastN (w' := (c0 :: (pl, oPlan r c o (nI T) ap rr rd sl) :: (sl, aI g 40 slots) :: (th, oThings pl ki el nu (nI (ctF kinds ii)) al wa wo) :: (ki, aI g 40 kinds) :: (el, aI g 40 elders) :: (nu, aI g 40 (upd (upd (nuF kinds numbers ii) ii (-9)) ii (nI (ctF kinds ii)))) :: (wa, aJ g 12 waf) :: (wo, aJ g 12 wof) :: rest)) K0 6 rfl (by omega) (by decide) dX3_numberChances_45 rfl ?_
          refine X_aload_n K0 0 dX3_numberChances_46 rfl rfl ?_
          refine X_dup K0 dX3_numberChances_47 rfl ?_
          refine X_get K0 3 rfl rfl hin3 4 (by decide) fl_RX3_51 rfl dX3_numberChances_48 ?_
          refine X_iconst (v := 1) K0 dX3_numberChances_51 (by decide) ?_
          refine X_iadd K0 dX3_numberChances_52 ?_
          refine X_v (z := (nI (ctF kinds ii + 1))) (nI_1 _) ?_
          refine X_put (w' := (c0 :: (pl, oPlan r c o (nI T) ap rr rd sl) :: (sl, aI g 40 slots) :: (th, oThings pl ki el nu (nI (ctF kinds ii + 1)) al wa wo) :: (ki, aI g 40 kinds) :: (el, aI g 40 elders) :: (nu, aI g 40 (upd (upd (nuF kinds numbers ii) ii (-9)) ii (nI (ctF kinds ii)))) :: (wa, aJ g 12 waf) :: (wo, aJ g 12 wof) :: rest)) K0 3 rfl rfl hin3 tyX3 tyX3_ok nmX3 4 (by decide) fl_RX3_51 rfl (tyX3_ok 4 (by decide)) rfl rfl (Nat.le_of_ble_eq_true rfl) dX3_numberChances_53 rfl ?_
          refine X_iinc (v := ((nI ii) + 1)) (L' := [(1, .int ((nI ii) + 1)), (0, .ref th)]) K0 1 dX3_numberChances_56 rfl (by first | rfl | decide) (by decide) rfl ?_
          refine X_goto K0 7 dX3_numberChances_59 (by decide) ?_
          refine X.sub [1, 0] (L' := [(0, .ref th), (1, .int ((nI ii) + 1))]) rfl ?_
          exact X_eq (by first | (rw [nu_y h33, ct_y h33]) | (rw [nu_n h33, ct_n h33])) (by rw [nI_succ] <;> rfl) rfl (ih (ii + 1) (by omega))
  exact LOOP T 0 (by omega)

set_option maxRecDepth 20000 in
set_option maxHeartbeats 400000 in
theorem c_settleOne (g : Gx) (c0 : Nat × va_E) (rest : va_W) (pl sl th ki el nu wa wo : Nat) (r c o ap rr rd : Int32) (T : Nat) (slots : Nat → Int32) (ch : Int32) (al : Int64) (kinds elders numbers : Nat → Int32) (waf wof : Nat → Int64) (t : Nat) (ht : t < 40) (hok : tOK kinds elders numbers t) (slt : Int64) : Con g yX3_settleOne cX3_settleOne 4 none 0 0 0 0 [.ref th, .int (nI t), .long slt] (c0 :: (pl, oPlan r c o (nI T) ap rr rd sl) :: (sl, aI g 40 slots) :: (th, oThings pl ki el nu ch al wa wo) :: (ki, aI g 40 kinds) :: (el, aI g 40 elders) :: (nu, aI g 40 numbers) :: (wa, aJ g 12 waf) :: (wo, aJ g 12 wof) :: rest) (Rs none (c0 :: (pl, oPlan r c o (nI T) ap rr rd sl) :: (sl, aI g 40 slots) :: (th, oThings pl ki el nu ch (s1A kinds t slt al) wa wo) :: (ki, aI g 40 kinds) :: (el, aI g 40 elders) :: (nu, aI g 40 numbers) :: (wa, aJ g 12 (s1W kinds elders numbers t slt waf)) :: (wo, aJ g 12 (s1O kinds elders numbers t slt wof)) :: rest)) := by
  refine Con.ofV (by decide +kernel) (Nat.le_of_ble_eq_true rfl) (fun φ K0 hr => ?_)
  show X φ 0 0 (c0 :: (pl, oPlan r c o (nI T) ap rr rd sl) :: (sl, aI g 40 slots) :: (th, oThings pl ki el nu ch al wa wo) :: (ki, aI g 40 kinds) :: (el, aI g 40 elders) :: (nu, aI g 40 numbers) :: (wa, aJ g 12 waf) :: (wo, aJ g 12 wof) :: rest) [(0, .ref th), (1, .int (nI t)), (2, .long slt)] 0 []
  refine X_aload_n K0 0 dX3_settleOne_0 rfl rfl ?_
  refine X_get K0 3 rfl rfl hin3 1 (by decide) fl_RX3_9 rfl dX3_settleOne_1 ?_
  refine X_iload_n K0 1 dX3_settleOne_4 rfl rfl ?_
  refine X_ialdN K0 4 rfl (by omega) (by decide) dX3_settleOne_5 ?_
  rcases hok with hk | hk | ⟨hk, j, hj, hn⟩ | ⟨hk, ee, he, hee, j, hj, hn⟩ | ⟨hk, ee, he, hee, j, hj, hn⟩
  · rw [hk]
    refine X_tableOut K0 113 dX3_settleOne_6 (by decide) (by decide) ?_
    exact hr _ _ _ ⟨rfl, by simp [s1A, s1W, s1O, hk]⟩ dX3_settleOne_113
  · rw [hk]
    refine X_tableIn K0 36 dX3_settleOne_6 (by decide) (by decide) (by rfl) (by decide) ?_
    refine X_aload_n K0 0 dX3_settleOne_36 rfl rfl ?_
    refine X_dup K0 dX3_settleOne_37 rfl ?_
    refine X_get K0 3 rfl rfl hin3 5 (by decide) fl_RX3_47 rfl dX3_settleOne_38 ?_
    refine X_lload_n K0 2 dX3_settleOne_41 rfl rfl ?_
    refine X_lor K0 dX3_settleOne_42 ?_
    refine X_put (w' := (c0 :: (pl, oPlan r c o (nI T) ap rr rd sl) :: (sl, aI g 40 slots) :: (th, oThings pl ki el nu ch (al ||| slt) wa wo) :: (ki, aI g 40 kinds) :: (el, aI g 40 elders) :: (nu, aI g 40 numbers) :: (wa, aJ g 12 waf) :: (wo, aJ g 12 wof) :: rest)) K0 3 rfl rfl hin3 tyX3 tyX3_ok nmX3 5 (by decide) fl_RX3_47 rfl (tyX3_ok 5 (by decide)) rfl rfl (Nat.le_of_ble_eq_true rfl) dX3_settleOne_43 rfl ?_
    refine X_goto K0 113 dX3_settleOne_46 (by decide) ?_
    exact hr _ _ _ ⟨rfl, by simp [s1A, s1W, s1O, hk]⟩ dX3_settleOne_113
  · rw [hk]
    refine X_tableIn K0 49 dX3_settleOne_6 (by decide) (by decide) (by rfl) (by decide) ?_
    refine X_aload_n K0 0 dX3_settleOne_49 rfl rfl ?_
    refine X_get K0 3 rfl rfl hin3 6 (by decide) fl_RX3_21 rfl dX3_settleOne_50 ?_
    refine X_aload_n K0 0 dX3_settleOne_53 rfl rfl ?_
    refine X_get K0 3 rfl rfl hin3 3 (by decide) fl_RX3_18 rfl dX3_settleOne_54 ?_
    refine X_iload_n K0 1 dX3_settleOne_57 rfl rfl ?_
    refine X_ialdN K0 6 rfl (by omega) (by decide) dX3_settleOne_58 ?_
    refine X_v hn ?_
    refine X_dup2 K0 dX3_settleOne_59 rfl rfl ?_
    refine X_laldN K0 7 rfl (by omega) (by decide) dX3_settleOne_60 ?_
    refine X_lload_n K0 2 dX3_settleOne_61 rfl rfl ?_
    refine X_lor K0 dX3_settleOne_62 ?_
    refine X_lastN (w' := (c0 :: (pl, oPlan r c o (nI T) ap rr rd sl) :: (sl, aI g 40 slots) :: (th, oThings pl ki el nu ch al wa wo) :: (ki, aI g 40 kinds) :: (el, aI g 40 elders) :: (nu, aI g 40 numbers) :: (wa, aJ g 12 (vp_updL waf j ((waf j) ||| slt))) :: (wo, aJ g 12 wof) :: rest)) K0 7 rfl (by omega) (by decide) dX3_settleOne_63 rfl ?_
    refine X_goto K0 113 dX3_settleOne_64 (by decide) ?_
    exact hr _ _ _ ⟨rfl, by simp [s1A, s1W, s1O, hk, hn, nI_clamp (show j < 2 ^ 31 by omega)]⟩ dX3_settleOne_113
  · rw [hk]
    refine X_tableIn K0 67 dX3_settleOne_6 (by decide) (by decide) (by rfl) (by decide) ?_
    refine X_aload_n K0 0 dX3_settleOne_67 rfl rfl ?_
    refine X_get K0 3 rfl rfl hin3 6 (by decide) fl_RX3_21 rfl dX3_settleOne_68 ?_
    refine X_aload_n K0 0 dX3_settleOne_71 rfl rfl ?_
    refine X_get K0 3 rfl rfl hin3 3 (by decide) fl_RX3_18 rfl dX3_settleOne_72 ?_
    refine X_aload_n K0 0 dX3_settleOne_75 rfl rfl ?_
    refine X_get K0 3 rfl rfl hin3 2 (by decide) fl_RX3_15 rfl dX3_settleOne_76 ?_
    refine X_iload_n K0 1 dX3_settleOne_79 rfl rfl ?_
    refine X_ialdN K0 5 rfl (by omega) (by decide) dX3_settleOne_80 ?_
    refine X_v hee ?_
    refine X_ialdN K0 6 rfl (by omega) (by decide) dX3_settleOne_81 ?_
    refine X_v hn ?_
    refine X_dup2 K0 dX3_settleOne_82 rfl rfl ?_
    refine X_laldN K0 7 rfl (by omega) (by decide) dX3_settleOne_83 ?_
    refine X_lload_n K0 2 dX3_settleOne_84 rfl rfl ?_
    refine X_lor K0 dX3_settleOne_85 ?_
    refine X_lastN (w' := (c0 :: (pl, oPlan r c o (nI T) ap rr rd sl) :: (sl, aI g 40 slots) :: (th, oThings pl ki el nu ch al wa wo) :: (ki, aI g 40 kinds) :: (el, aI g 40 elders) :: (nu, aI g 40 numbers) :: (wa, aJ g 12 (vp_updL waf j ((waf j) ||| slt))) :: (wo, aJ g 12 wof) :: rest)) K0 7 rfl (by omega) (by decide) dX3_settleOne_86 rfl ?_
    refine X_goto K0 113 dX3_settleOne_87 (by decide) ?_
    exact hr _ _ _ ⟨rfl, by simp [s1A, s1W, s1O, hk, hee, nI_clamp (show ee < 2 ^ 31 by omega), hn, nI_clamp (show j < 2 ^ 31 by omega)]⟩ dX3_settleOne_113
  · rw [hk]
    refine X_tableIn K0 90 dX3_settleOne_6 (by decide) (by decide) (by rfl) (by decide) ?_
    refine X_aload_n K0 0 dX3_settleOne_90 rfl rfl ?_
    refine X_get K0 3 rfl rfl hin3 7 (by decide) fl_RX3_25 rfl dX3_settleOne_91 ?_
    refine X_aload_n K0 0 dX3_settleOne_94 rfl rfl ?_
    refine X_get K0 3 rfl rfl hin3 3 (by decide) fl_RX3_18 rfl dX3_settleOne_95 ?_
    refine X_aload_n K0 0 dX3_settleOne_98 rfl rfl ?_
    refine X_get K0 3 rfl rfl hin3 2 (by decide) fl_RX3_15 rfl dX3_settleOne_99 ?_
    refine X_iload_n K0 1 dX3_settleOne_102 rfl rfl ?_
    refine X_ialdN K0 5 rfl (by omega) (by decide) dX3_settleOne_103 ?_
    refine X_v hee ?_
    refine X_ialdN K0 6 rfl (by omega) (by decide) dX3_settleOne_104 ?_
    refine X_v hn ?_
    refine X_dup2 K0 dX3_settleOne_105 rfl rfl ?_
    refine X_laldN K0 8 rfl (by omega) (by decide) dX3_settleOne_106 ?_
    refine X_lload_n K0 2 dX3_settleOne_107 rfl rfl ?_
    refine X_lor K0 dX3_settleOne_108 ?_
    refine X_lastN (w' := (c0 :: (pl, oPlan r c o (nI T) ap rr rd sl) :: (sl, aI g 40 slots) :: (th, oThings pl ki el nu ch al wa wo) :: (ki, aI g 40 kinds) :: (el, aI g 40 elders) :: (nu, aI g 40 numbers) :: (wa, aJ g 12 waf) :: (wo, aJ g 12 (vp_updL wof j ((wof j) ||| slt))) :: rest)) K0 8 rfl (by omega) (by decide) dX3_settleOne_109 rfl ?_
    refine X_goto K0 113 dX3_settleOne_110 (by decide) ?_
    exact hr _ _ _ ⟨rfl, by simp [s1A, s1W, s1O, hk, hee, nI_clamp (show ee < 2 ^ 31 by omega), hn, nI_clamp (show j < 2 ^ 31 by omega)]⟩ dX3_settleOne_113

set_option maxRecDepth 20000 in
set_option maxHeartbeats 400000 in
theorem c_settle (g : Gx) (c0 : Nat × va_E) (rest : va_W) (pl sl th ki el nu wa wo : Nat) (r c o ap rr rd : Int32) (T : Nat) (slots : Nat → Int32) (ch : Int32) (al : Int64) (kinds elders numbers : Nat → Int32) (waf wof : Nat → Int64) (hT : T ≤ 40) (hok : ∀ t, t < T → tOK kinds elders (nuF kinds numbers T) t) : Con g yX3_settle cX3_settle 2 none 1 24 0 0 [.ref th] (c0 :: (pl, oPlan r c o (nI T) ap rr rd sl) :: (sl, aI g 40 slots) :: (th, oThings pl ki el nu ch al wa wo) :: (ki, aI g 40 kinds) :: (el, aI g 40 elders) :: (nu, aI g 40 numbers) :: (wa, aJ g 12 waf) :: (wo, aJ g 12 wof) :: rest) (Rs none (c0 :: (pl, oPlan r c o (nI T) ap rr rd sl) :: (sl, aI g 40 slots) :: (th, oThings pl ki el nu (nI (ctF kinds T)) (seA kinds slots T) wa wo) :: (ki, aI g 40 kinds) :: (el, aI g 40 elders) :: (nu, aI g 40 (nuF kinds numbers T)) :: (wa, aJ g 12 (seW kinds elders (nuF kinds numbers T) slots (fiF waf 0 12) T)) :: (wo, aJ g 12 (seO kinds elders (nuF kinds numbers T) slots (fiF wof 0 12) T)) :: rest)) := by
  refine Con.ofV (by decide +kernel) (Nat.le_of_ble_eq_true rfl) (fun φ K0 hr => ?_)
  show X φ 0 0 (c0 :: (pl, oPlan r c o (nI T) ap rr rd sl) :: (sl, aI g 40 slots) :: (th, oThings pl ki el nu ch al wa wo) :: (ki, aI g 40 kinds) :: (el, aI g 40 elders) :: (nu, aI g 40 numbers) :: (wa, aJ g 12 waf) :: (wo, aJ g 12 wof) :: rest) [(0, .ref th)] 0 []
  refine X_aload_n K0 0 dX3_settle_0 rfl rfl ?_
  refine X_callV (As := []) (rest := []) K0 3 (c_numberChances g c0 rest pl sl th ki el nu wa wo r c o ap rr rd T slots ch al kinds elders numbers waf wof (by omega)) mi_X3_numberChances rfl rfl rfl ml_RX3_58 rfl (Nat.le_of_ble_eq_true rfl) (by decide) ⟨Nat.le_of_ble_eq_true rfl, Nat.le_of_ble_eq_true rfl⟩ rfl rfl dX3_settle_1 ?_
  intro v w' hr'; obtain ⟨rfl, rfl⟩ := hr'
  show X φ 0 0 (c0 :: (pl, oPlan r c o (nI T) ap rr rd sl) :: (sl, aI g 40 slots) :: (th, oThings pl ki el nu (nI (ctF kinds T)) al wa wo) :: (ki, aI g 40 kinds) :: (el, aI g 40 elders) :: (nu, aI g 40 (nuF kinds numbers T)) :: (wa, aJ g 12 waf) :: (wo, aJ g 12 wof) :: rest) [(0, .ref th)] 4 []
  refine X_aload_n K0 0 dX3_settle_4 rfl rfl ?_
  refine X_lconst (v := 0) K0 dX3_settle_5 (by decide) ?_
  refine X_put (w' := (c0 :: (pl, oPlan r c o (nI T) ap rr rd sl) :: (sl, aI g 40 slots) :: (th, oThings pl ki el nu (nI (ctF kinds T)) 0 wa wo) :: (ki, aI g 40 kinds) :: (el, aI g 40 elders) :: (nu, aI g 40 (nuF kinds numbers T)) :: (wa, aJ g 12 waf) :: (wo, aJ g 12 wof) :: rest)) K0 3 rfl rfl hin3 tyX3 tyX3_ok nmX3 5 (by decide) fl_RX3_47 rfl (tyX3_ok 5 (by decide)) rfl rfl (Nat.le_of_ble_eq_true rfl) dX3_settle_6 rfl ?_
  refine X_aload_n K0 0 dX3_settle_9 rfl rfl ?_
  refine X_get K0 3 rfl rfl hin3 6 (by decide) fl_RX3_21 rfl dX3_settle_10 ?_
  refine X_lconst (v := 0) K0 dX3_settle_13 (by decide) ?_
  refine X_callS (As := [.ref wa, .long 0]) (rest := []) K0 (c_fillJ g (c0 :: (pl, oPlan r c o (nI T) ap rr rd sl) :: (sl, aI g 40 slots) :: (th, oThings pl ki el nu (nI (ctF kinds T)) 0 wa wo) :: (ki, aI g 40 kinds) :: (el, aI g 40 elders) :: (nu, aI g 40 (nuF kinds numbers T)) :: (wa, aJ g 12 waf) :: (wo, aJ g 12 wof) :: rest) 7 wa 12 waf rfl (by decide) 0) ms_J7_fill_d0a16 rfl ml_RX3_61 rfl (Nat.le_of_ble_eq_true rfl) (by decide) ⟨Nat.le_of_ble_eq_true rfl, Nat.le_of_ble_eq_true rfl⟩ rfl rfl dX3_settle_14 ?_
  intro v w' hr'; obtain ⟨rfl, rfl⟩ := hr'
  show X φ 0 0 (c0 :: (pl, oPlan r c o (nI T) ap rr rd sl) :: (sl, aI g 40 slots) :: (th, oThings pl ki el nu (nI (ctF kinds T)) 0 wa wo) :: (ki, aI g 40 kinds) :: (el, aI g 40 elders) :: (nu, aI g 40 (nuF kinds numbers T)) :: (wa, aJ g 12 (fiF waf 0 12)) :: (wo, aJ g 12 wof) :: rest) [(0, .ref th)] 17 []
  refine X_aload_n K0 0 dX3_settle_17 rfl rfl ?_
  refine X_get K0 3 rfl rfl hin3 7 (by decide) fl_RX3_25 rfl dX3_settle_18 ?_
  refine X_lconst (v := 0) K0 dX3_settle_21 (by decide) ?_
  refine X_callS (As := [.ref wo, .long 0]) (rest := []) K0 (c_fillJ g (c0 :: (pl, oPlan r c o (nI T) ap rr rd sl) :: (sl, aI g 40 slots) :: (th, oThings pl ki el nu (nI (ctF kinds T)) 0 wa wo) :: (ki, aI g 40 kinds) :: (el, aI g 40 elders) :: (nu, aI g 40 (nuF kinds numbers T)) :: (wa, aJ g 12 (fiF waf 0 12)) :: (wo, aJ g 12 wof) :: rest) 8 wo 12 wof rfl (by decide) 0) ms_J7_fill_d0a16 rfl ml_RX3_61 rfl (Nat.le_of_ble_eq_true rfl) (by decide) ⟨Nat.le_of_ble_eq_true rfl, Nat.le_of_ble_eq_true rfl⟩ rfl rfl dX3_settle_22 ?_
  intro v w' hr'; obtain ⟨rfl, rfl⟩ := hr'
  show X φ 0 0 (c0 :: (pl, oPlan r c o (nI T) ap rr rd sl) :: (sl, aI g 40 slots) :: (th, oThings pl ki el nu (nI (ctF kinds T)) 0 wa wo) :: (ki, aI g 40 kinds) :: (el, aI g 40 elders) :: (nu, aI g 40 (nuF kinds numbers T)) :: (wa, aJ g 12 (fiF waf 0 12)) :: (wo, aJ g 12 (fiF wof 0 12)) :: rest) [(0, .ref th)] 25 []
  refine X_iconst (v := 0) K0 dX3_settle_25 (by decide) ?_
  refine X_istore_n (L' := [(1, .int 0), (0, .ref th)]) K0 dX3_settle_26 rfl (by decide) rfl ?_
  refine X.sub [1, 0] (L' := [(0, .ref th), (1, .int 0)]) rfl ?_
  have LOOP : ∀ (dd ii : Nat), ii + dd = T → X φ 0 0 (c0 :: (pl, oPlan r c o (nI T) ap rr rd sl) :: (sl, aI g 40 slots) :: (th, oThings pl ki el nu (nI (ctF kinds T)) (seA kinds slots ii) wa wo) :: (ki, aI g 40 kinds) :: (el, aI g 40 elders) :: (nu, aI g 40 (nuF kinds numbers T)) :: (wa, aJ g 12 (seW kinds elders (nuF kinds numbers T) slots (fiF waf 0 12) ii)) :: (wo, aJ g 12 (seO kinds elders (nuF kinds numbers T) slots (fiF wof 0 12) ii)) :: rest) [(0, .ref th), (1, .int (nI ii))] 27 [] := by
    intro dd
    induction dd with
    | zero =>
      intro ii hii 
      have hii2 : T = ii := by omega
      subst hii2
      refine X_iload_n K0 1 dX3_settle_27 rfl rfl ?_
      refine X_aload_n K0 0 dX3_settle_28 rfl rfl ?_
      refine X_get K0 3 rfl rfl hin3 0 (by decide) fl_RX3_28 rfl dX3_settle_29 ?_
      refine X_get K0 1 rfl rfl hin1 3 (by decide) fl_RX3_41 rfl dX3_settle_32 ?_
      refine X_icmp_ge K0 60 dX3_settle_35 (by decide) (fun h35 => ?_) (fun h35 => ?_)
      · exact hr _ _ _ ⟨rfl, rfl⟩ dX3_settle_60
      · exact absurd (nI_le (Nat.le_refl _) (by omega)) h35
    | succ dd ih =>
      intro ii hii 
      have hlt : ii < T := by omega
      refine X_iload_n K0 1 dX3_settle_27 rfl rfl ?_
      refine X_aload_n K0 0 dX3_settle_28 rfl rfl ?_
      refine X_get K0 3 rfl rfl hin3 0 (by decide) fl_RX3_28 rfl dX3_settle_29 ?_
      refine X_get K0 1 rfl rfl hin1 3 (by decide) fl_RX3_41 rfl dX3_settle_32 ?_
      refine X_icmp_ge K0 60 dX3_settle_35 (by decide) (fun h35 => ?_) (fun h35 => ?_)
      · exact absurd h35 (nI_ge hlt (by omega))
      · refine X_aload_n K0 0 dX3_settle_38 rfl rfl ?_
        refine X_iload_n K0 1 dX3_settle_39 rfl rfl ?_
        refine X_lconst (v := 1) K0 dX3_settle_40 (by decide) ?_
        refine X_aload_n K0 0 dX3_settle_41 rfl rfl ?_
        refine X_get K0 3 rfl rfl hin3 0 (by decide) fl_RX3_28 rfl dX3_settle_42 ?_
        refine X_get K0 1 rfl rfl hin1 7 (by decide) fl_RX3_64 rfl dX3_settle_45 ?_
        refine X_iload_n K0 1 dX3_settle_48 rfl rfl ?_
        refine X_ialdN K0 2 rfl (by omega) (by decide) dX3_settle_49 ?_
        refine X_lshl (v := (lsh 1 (slots ii))) K0 dX3_settle_50 rfl ?_
        refine X_callV (As := [.int (nI ii), .long (lsh 1 (slots ii))]) (rest := []) K0 3 (c_settleOne g c0 rest pl sl th ki el nu wa wo r c o ap rr rd T slots (nI (ctF kinds T)) (seA kinds slots ii) kinds elders (nuF kinds numbers T) (seW kinds elders (nuF kinds numbers T) slots (fiF waf 0 12) ii) (seO kinds elders (nuF kinds numbers T) slots (fiF wof 0 12) ii) ii (by omega) (hok _ hlt) (lsh 1 (slots ii))) mi_X3_settleOne rfl rfl rfl ml_RX3_67 rfl (Nat.le_of_ble_eq_true rfl) (by decide) ⟨Nat.le_of_ble_eq_true rfl, Nat.le_of_ble_eq_true rfl⟩ rfl rfl dX3_settle_51 ?_
        intro v w' hr'; obtain ⟨rfl, rfl⟩ := hr'
        show X φ 0 0 (c0 :: (pl, oPlan r c o (nI T) ap rr rd sl) :: (sl, aI g 40 slots) :: (th, oThings pl ki el nu (nI (ctF kinds T)) (s1A kinds ii (lsh 1 (slots ii)) (seA kinds slots ii)) wa wo) :: (ki, aI g 40 kinds) :: (el, aI g 40 elders) :: (nu, aI g 40 (nuF kinds numbers T)) :: (wa, aJ g 12 (s1W kinds elders (nuF kinds numbers T) ii (lsh 1 (slots ii)) (seW kinds elders (nuF kinds numbers T) slots (fiF waf 0 12) ii))) :: (wo, aJ g 12 (s1O kinds elders (nuF kinds numbers T) ii (lsh 1 (slots ii)) (seO kinds elders (nuF kinds numbers T) slots (fiF wof 0 12) ii))) :: rest) [(0, .ref th), (1, .int (nI ii))] 54 []
        refine X_iinc (v := ((nI ii) + 1)) (L' := [(1, .int ((nI ii) + 1)), (0, .ref th)]) K0 1 dX3_settle_54 rfl (by first | rfl | decide) (by decide) rfl ?_
        refine X_goto K0 27 dX3_settle_57 (by decide) ?_
        refine X.sub [1, 0] (L' := [(0, .ref th), (1, .int ((nI ii) + 1))]) rfl ?_
        exact X_eq rfl (by rw [nI_succ] <;> rfl) rfl (ih (ii + 1) (by omega))
  exact LOOP T 0 (by omega)

set_option maxRecDepth 20000 in
set_option maxHeartbeats 400000 in
theorem c_younger (g : Gx) (c0 : Nat × va_E) (rest : va_W) (pl sl th ki el nu wa wo : Nat) (r c o ap rr rd : Int32) (T : Nat) (slots : Nat → Int32) (ch : Int32) (al : Int64) (kinds elders numbers : Nat → Int32) (waf wof : Nat → Int64) (hT : T ≤ 40) : Con g yX3_younger cX3_younger 3 (some .int) 0 0 0 0 [.ref th] (c0 :: (pl, oPlan r c o (nI T) ap rr rd sl) :: (sl, aI g 40 slots) :: (th, oThings pl ki el nu ch al wa wo) :: (ki, aI g 40 kinds) :: (el, aI g 40 elders) :: (nu, aI g 40 numbers) :: (wa, aJ g 12 waf) :: (wo, aJ g 12 wof) :: rest) (Rs (some (.int (yoF elders T))) (c0 :: (pl, oPlan r c o (nI T) ap rr rd sl) :: (sl, aI g 40 slots) :: (th, oThings pl ki el nu ch al wa wo) :: (ki, aI g 40 kinds) :: (el, aI g 40 elders) :: (nu, aI g 40 numbers) :: (wa, aJ g 12 waf) :: (wo, aJ g 12 wof) :: rest)) := by
  refine Con.ofI (by decide +kernel) (Nat.le_of_ble_eq_true rfl) (fun φ K0 hr => ?_)
  show X φ 0 0 (c0 :: (pl, oPlan r c o (nI T) ap rr rd sl) :: (sl, aI g 40 slots) :: (th, oThings pl ki el nu ch al wa wo) :: (ki, aI g 40 kinds) :: (el, aI g 40 elders) :: (nu, aI g 40 numbers) :: (wa, aJ g 12 waf) :: (wo, aJ g 12 wof) :: rest) [(0, .ref th)] 0 []
  refine X_iconst (v := 0) K0 dX3_younger_0 (by decide) ?_
  refine X_istore_n (L' := [(1, .int 0), (0, .ref th)]) K0 dX3_younger_1 rfl (by decide) rfl ?_
  refine X_iconst (v := 0) K0 dX3_younger_2 (by decide) ?_
  refine X_istore_n (L' := [(2, .int 0), (1, .int 0), (0, .ref th)]) K0 dX3_younger_3 rfl (by decide) rfl ?_
  refine X.sub [2, 1, 0] (L' := [(0, .ref th), (1, .int 0), (2, .int 0)]) rfl ?_
  have LOOP : ∀ (dd ii : Nat), ii + dd = T → X φ 0 0 (c0 :: (pl, oPlan r c o (nI T) ap rr rd sl) :: (sl, aI g 40 slots) :: (th, oThings pl ki el nu ch al wa wo) :: (ki, aI g 40 kinds) :: (el, aI g 40 elders) :: (nu, aI g 40 numbers) :: (wa, aJ g 12 waf) :: (wo, aJ g 12 wof) :: rest) [(0, .ref th), (1, .int (yoF elders ii)), (2, .int (nI ii))] 4 [] := by
    intro dd
    induction dd with
    | zero =>
      intro ii hii 
      have hii2 : T = ii := by omega
      subst hii2
      refine X_iload_n K0 2 dX3_younger_4 rfl rfl ?_
      refine X_aload_n K0 0 dX3_younger_5 rfl rfl ?_
      refine X_get K0 3 rfl rfl hin3 0 (by decide) fl_RX3_28 rfl dX3_younger_6 ?_
      refine X_get K0 1 rfl rfl hin1 3 (by decide) fl_RX3_41 rfl dX3_younger_9 ?_
      refine X_icmp_ge K0 35 dX3_younger_12 (by decide) (fun h12 => ?_) (fun h12 => ?_)
      · refine X_iload_n K0 1 dX3_younger_35 rfl rfl ?_
        exact hr _ _ _ _ ⟨rfl, rfl⟩ dX3_younger_36
      · exact absurd (nI_le (Nat.le_refl _) (by omega)) h12
    | succ dd ih =>
      intro ii hii 
      have hlt : ii < T := by omega
      refine X_iload_n K0 2 dX3_younger_4 rfl rfl ?_
      refine X_aload_n K0 0 dX3_younger_5 rfl rfl ?_
      refine X_get K0 3 rfl rfl hin3 0 (by decide) fl_RX3_28 rfl dX3_younger_6 ?_
      refine X_get K0 1 rfl rfl hin1 3 (by decide) fl_RX3_41 rfl dX3_younger_9 ?_
      refine X_icmp_ge K0 35 dX3_younger_12 (by decide) (fun h12 => ?_) (fun h12 => ?_)
      · exact absurd h12 (nI_ge hlt (by omega))
      · refine X_aload_n K0 0 dX3_younger_15 rfl rfl ?_
        refine X_get K0 3 rfl rfl hin3 2 (by decide) fl_RX3_15 rfl dX3_younger_16 ?_
        refine X_iload_n K0 2 dX3_younger_19 rfl rfl ?_
        refine X_ialdN K0 5 rfl (by omega) (by decide) dX3_younger_20 ?_
        refine X_bipush (v := (-9)) K0 dX3_younger_21 (by decide) ?_
        refine X_icmp_eq K0 29 dX3_younger_23 (by decide) (fun h23 => ?_) (fun h23 => ?_)
        · refine X_iinc (v := ((nI ii) + 1)) (L' := [(2, .int ((nI ii) + 1)), (0, .ref th), (1, .int (yoF elders ii))]) K0 2 dX3_younger_29 rfl (by first | rfl | decide) (by decide) rfl ?_
          refine X_goto K0 4 dX3_younger_32 (by decide) ?_
          refine X.sub [1, 2, 0] (L' := [(0, .ref th), (1, .int (yoF elders ii)), (2, .int ((nI ii) + 1))]) rfl ?_
          exact X_eq rfl (by first | (rw [nI_succ, yoF, if_pos h23]) | (rw [nI_succ, yoF, if_neg h23])) rfl (ih (ii + 1) (by omega))
        · refine X_iinc (v := ((yoF elders ii) + 1)) (L' := [(1, .int ((yoF elders ii) + 1)), (0, .ref th), (2, .int (nI ii))]) K0 1 dX3_younger_26 rfl (by first | rfl | decide) (by decide) rfl ?_
          refine X_iinc (v := ((nI ii) + 1)) (L' := [(2, .int ((nI ii) + 1)), (1, .int ((yoF elders ii) + 1)), (0, .ref th)]) K0 2 dX3_younger_29 rfl (by first | rfl | decide) (by decide) rfl ?_
          refine X_goto K0 4 dX3_younger_32 (by decide) ?_
          refine X.sub [2, 1, 0] (L' := [(0, .ref th), (1, .int ((yoF elders ii) + 1)), (2, .int ((nI ii) + 1))]) rfl ?_
          exact X_eq rfl (by first | (rw [nI_succ, yoF, if_pos h23]) | (rw [nI_succ, yoF, if_neg h23])) rfl (ih (ii + 1) (by omega))
  exact LOOP T 0 (by omega)

set_option maxRecDepth 20000 in
set_option maxHeartbeats 400000 in
theorem c_openBy (g : Gx) (c0 : Nat × va_E) (rest : va_W) (pl sl th ki el nu wa wo : Nat) (r c o ap rr rd : Int32) (T : Nat) (slots : Nat → Int32) (m : Nat) (al : Int64) (kinds elders numbers : Nat → Int32) (waf wof : Nat → Int64) (hm : m ≤ 12) (se : Int32) : Con g yX3_openBy cX3_openBy 5 (some .long) 1 21 0 0 [.ref th, .int se] (c0 :: (pl, oPlan r c o (nI T) ap rr rd sl) :: (sl, aI g 40 slots) :: (th, oThings pl ki el nu (nI m) al wa wo) :: (ki, aI g 40 kinds) :: (el, aI g 40 elders) :: (nu, aI g 40 numbers) :: (wa, aJ g 12 waf) :: (wo, aJ g 12 wof) :: rest) (Rs (some (.long (opF al waf wof se m))) (c0 :: (pl, oPlan r c o (nI T) ap rr rd sl) :: (sl, aI g 40 slots) :: (th, oThings pl ki el nu (nI m) al wa wo) :: (ki, aI g 40 kinds) :: (el, aI g 40 elders) :: (nu, aI g 40 numbers) :: (wa, aJ g 12 waf) :: (wo, aJ g 12 wof) :: rest)) := by
  refine Con.ofL (by decide +kernel) (Nat.le_of_ble_eq_true rfl) (fun φ K0 hr => ?_)
  show X φ 0 0 (c0 :: (pl, oPlan r c o (nI T) ap rr rd sl) :: (sl, aI g 40 slots) :: (th, oThings pl ki el nu (nI m) al wa wo) :: (ki, aI g 40 kinds) :: (el, aI g 40 elders) :: (nu, aI g 40 numbers) :: (wa, aJ g 12 waf) :: (wo, aJ g 12 wof) :: rest) [(0, .ref th), (1, .int se)] 0 []
  refine X_aload_n K0 0 dX3_openBy_0 rfl rfl ?_
  refine X_get K0 3 rfl rfl hin3 5 (by decide) fl_RX3_47 rfl dX3_openBy_1 ?_
  refine X_lstore_n (L' := [(2, .long al), (0, .ref th), (1, .int se)]) K0 dX3_openBy_4 rfl (by decide) rfl ?_
  refine X_iconst (v := 0) K0 dX3_openBy_5 (by decide) ?_
  refine X_istore (L' := [(4, .int 0), (2, .long al), (0, .ref th), (1, .int se)]) K0 dX3_openBy_6 (by decide) rfl ?_
  refine X.sub [2, 3, 1, 0] (L' := [(0, .ref th), (1, .int se), (2, .long al), (4, .int 0)]) rfl ?_
  have LOOP : ∀ (dd ii : Nat), ii + dd = m → X φ 0 0 (c0 :: (pl, oPlan r c o (nI T) ap rr rd sl) :: (sl, aI g 40 slots) :: (th, oThings pl ki el nu (nI m) al wa wo) :: (ki, aI g 40 kinds) :: (el, aI g 40 elders) :: (nu, aI g 40 numbers) :: (wa, aJ g 12 waf) :: (wo, aJ g 12 wof) :: rest) [(0, .ref th), (1, .int se), (2, .long (opF al waf wof se ii)), (4, .int (nI ii))] 8 [] := by
    intro dd
    induction dd with
    | zero =>
      intro ii hii 
      have hii2 : m = ii := by omega
      subst hii2
      refine X_iload K0 3 dX3_openBy_8 rfl ?_
      refine X_aload_n K0 0 dX3_openBy_10 rfl rfl ?_
      refine X_get K0 3 rfl rfl hin3 4 (by decide) fl_RX3_51 rfl dX3_openBy_11 ?_
      refine X_icmp_ge K0 52 dX3_openBy_14 (by decide) (fun h14 => ?_) (fun h14 => ?_)
      · refine X_lload_n K0 2 dX3_openBy_52 rfl rfl ?_
        exact hr _ _ _ _ ⟨rfl, rfl⟩ dX3_openBy_53
      · exact absurd (nI_le (Nat.le_refl _) (by omega)) h14
    | succ dd ih =>
      intro ii hii 
      have hlt : ii < m := by omega
      refine X_iload K0 3 dX3_openBy_8 rfl ?_
      refine X_aload_n K0 0 dX3_openBy_10 rfl rfl ?_
      refine X_get K0 3 rfl rfl hin3 4 (by decide) fl_RX3_51 rfl dX3_openBy_11 ?_
      refine X_icmp_ge K0 52 dX3_openBy_14 (by decide) (fun h14 => ?_) (fun h14 => ?_)
      · exact absurd h14 (nI_ge hlt (by omega))
      · refine X_lload_n K0 2 dX3_openBy_17 rfl rfl ?_
        refine X_iload_n K0 1 dX3_openBy_18 rfl rfl ?_
        refine X_iload K0 3 dX3_openBy_19 rfl ?_
        refine X_callSN (As := [.int se, .int (nI ii)]) (rest := [.long (opF al waf wof se ii)]) K0 (c_has g (c0 :: (pl, oPlan r c o (nI T) ap rr rd sl) :: (sl, aI g 40 slots) :: (th, oThings pl ki el nu (nI m) al wa wo) :: (ki, aI g 40 kinds) :: (el, aI g 40 elders) :: (nu, aI g 40 numbers) :: (wa, aJ g 12 waf) :: (wo, aJ g 12 wof) :: rest) se (nI ii)) ms_X4_has rfl nl_RX3_54 rfl (Nat.le_of_ble_eq_true rfl) (by decide) ⟨Nat.le_of_ble_eq_true rfl, Nat.le_of_ble_eq_true rfl⟩ rfl rfl dX3_openBy_21 ?_
        intro v w' hr'; obtain ⟨rfl, rfl⟩ := hr'
        show X φ 0 0 (c0 :: (pl, oPlan r c o (nI T) ap rr rd sl) :: (sl, aI g 40 slots) :: (th, oThings pl ki el nu (nI m) al wa wo) :: (ki, aI g 40 kinds) :: (el, aI g 40 elders) :: (nu, aI g 40 numbers) :: (wa, aJ g 12 waf) :: (wo, aJ g 12 wof) :: rest) [(0, .ref th), (1, .int se), (2, .long (opF al waf wof se ii)), (4, .int (nI ii))] 24 [.int (bI (hasB se (nI ii))), .long (opF al waf wof se ii)]
        refine X_if_eq K0 37 dX3_openBy_24 (by decide) (fun h24 => ?_) (fun h24 => ?_)
        · refine X_aload_n K0 0 dX3_openBy_37 rfl rfl ?_
          refine X_get K0 3 rfl rfl hin3 7 (by decide) fl_RX3_25 rfl dX3_openBy_38 ?_
          refine X_iload K0 3 dX3_openBy_41 rfl ?_
          refine X_laldN K0 8 rfl (by omega) (by decide) dX3_openBy_43 ?_
          refine X_lor K0 dX3_openBy_44 ?_
          refine X_lstore_n (L' := [(2, .long ((opF al waf wof se ii) ||| (wof ii))), (0, .ref th), (1, .int se), (4, .int (nI ii))]) K0 dX3_openBy_45 rfl (by decide) rfl ?_
          refine X_iinc (v := ((nI ii) + 1)) (L' := [(4, .int ((nI ii) + 1)), (2, .long ((opF al waf wof se ii) ||| (wof ii))), (0, .ref th), (1, .int se)]) K0 3 dX3_openBy_46 rfl (by first | rfl | decide) (by decide) rfl ?_
          refine X_goto K0 8 dX3_openBy_49 (by decide) ?_
          refine X.sub [2, 3, 1, 0] (L' := [(0, .ref th), (1, .int se), (2, .long ((opF al waf wof se ii) ||| (wof ii))), (4, .int ((nI ii) + 1))]) rfl ?_
          exact X_eq rfl (by first | (rw [nI_succ, op_n (bI_0.mp h24)]) | (rw [nI_succ, op_y (bI_n0.mp h24)])) rfl (ih (ii + 1) (by omega))
        · refine X_aload_n K0 0 dX3_openBy_27 rfl rfl ?_
          refine X_get K0 3 rfl rfl hin3 6 (by decide) fl_RX3_21 rfl dX3_openBy_28 ?_
          refine X_iload K0 3 dX3_openBy_31 rfl ?_
          refine X_laldN K0 7 rfl (by omega) (by decide) dX3_openBy_33 ?_
          refine X_goto K0 44 dX3_openBy_34 (by decide) ?_
          refine X_lor K0 dX3_openBy_44 ?_
          refine X_lstore_n (L' := [(2, .long ((opF al waf wof se ii) ||| (waf ii))), (0, .ref th), (1, .int se), (4, .int (nI ii))]) K0 dX3_openBy_45 rfl (by decide) rfl ?_
          refine X_iinc (v := ((nI ii) + 1)) (L' := [(4, .int ((nI ii) + 1)), (2, .long ((opF al waf wof se ii) ||| (waf ii))), (0, .ref th), (1, .int se)]) K0 3 dX3_openBy_46 rfl (by first | rfl | decide) (by decide) rfl ?_
          refine X_goto K0 8 dX3_openBy_49 (by decide) ?_
          refine X.sub [2, 3, 1, 0] (L' := [(0, .ref th), (1, .int se), (2, .long ((opF al waf wof se ii) ||| (waf ii))), (4, .int ((nI ii) + 1))]) rfl ?_
          exact X_eq rfl (by first | (rw [nI_succ, op_n (bI_0.mp h24)]) | (rw [nI_succ, op_y (bI_n0.mp h24)])) rfl (ih (ii + 1) (by omega))
  exact LOOP m 0 (by omega)

set_option maxRecDepth 20000 in
set_option maxHeartbeats 400000 in
theorem c_isElder (g : Gx) (c0 : Nat × va_E) (rest : va_W) (pl sl th ki el nu wa wo : Nat) (r c o ap rr rd : Int32) (T : Nat) (slots : Nat → Int32) (ch : Int32) (al : Int64) (kinds elders numbers : Nat → Int32) (waf wof : Nat → Int64) (hT : T ≤ 40) (x : Int32) : Con g yX3_isElder cX3_isElder 3 (some .boolean) 0 0 0 0 [.ref th, .int x] (c0 :: (pl, oPlan r c o (nI T) ap rr rd sl) :: (sl, aI g 40 slots) :: (th, oThings pl ki el nu ch al wa wo) :: (ki, aI g 40 kinds) :: (el, aI g 40 elders) :: (nu, aI g 40 numbers) :: (wa, aJ g 12 waf) :: (wo, aJ g 12 wof) :: rest) (Rs (some (.int (bI (ieB elders x T)))) (c0 :: (pl, oPlan r c o (nI T) ap rr rd sl) :: (sl, aI g 40 slots) :: (th, oThings pl ki el nu ch al wa wo) :: (ki, aI g 40 kinds) :: (el, aI g 40 elders) :: (nu, aI g 40 numbers) :: (wa, aJ g 12 waf) :: (wo, aJ g 12 wof) :: rest)) := by
  refine Con.ofZ (by decide +kernel) (Nat.le_of_ble_eq_true rfl) (fun φ K0 hr => ?_)
  show X φ 0 0 (c0 :: (pl, oPlan r c o (nI T) ap rr rd sl) :: (sl, aI g 40 slots) :: (th, oThings pl ki el nu ch al wa wo) :: (ki, aI g 40 kinds) :: (el, aI g 40 elders) :: (nu, aI g 40 numbers) :: (wa, aJ g 12 waf) :: (wo, aJ g 12 wof) :: rest) [(0, .ref th), (1, .int x)] 0 []
  refine X_iconst (v := 0) K0 dX3_isElder_0 (by decide) ?_
  refine X_istore_n (L' := [(2, .int 0), (0, .ref th), (1, .int x)]) K0 dX3_isElder_1 rfl (by decide) rfl ?_
  refine X.sub [1, 2, 0] (L' := [(0, .ref th), (1, .int x), (2, .int 0)]) rfl ?_
  have LOOP : ∀ (dd ii : Nat), ii + dd = T → ieB elders x ii = false → X φ 0 0 (c0 :: (pl, oPlan r c o (nI T) ap rr rd sl) :: (sl, aI g 40 slots) :: (th, oThings pl ki el nu ch al wa wo) :: (ki, aI g 40 kinds) :: (el, aI g 40 elders) :: (nu, aI g 40 numbers) :: (wa, aJ g 12 waf) :: (wo, aJ g 12 wof) :: rest) [(0, .ref th), (1, .int x), (2, .int (nI ii))] 2 [] := by
    intro dd
    induction dd with
    | zero =>
      intro ii hii hno
      have hii2 : T = ii := by omega
      subst hii2
      refine X_iload_n K0 2 dX3_isElder_2 rfl rfl ?_
      refine X_aload_n K0 0 dX3_isElder_3 rfl rfl ?_
      refine X_get K0 3 rfl rfl hin3 0 (by decide) fl_RX3_28 rfl dX3_isElder_4 ?_
      refine X_get K0 1 rfl rfl hin1 3 (by decide) fl_RX3_41 rfl dX3_isElder_7 ?_
      refine X_icmp_ge K0 31 dX3_isElder_10 (by decide) (fun h10 => ?_) (fun h10 => ?_)
      · refine X_iconst (v := 0) K0 dX3_isElder_31 (by decide) ?_
        exact hr _ _ _ _ ⟨by rw [hno]; rfl, rfl⟩ (by first | exact Or.inl rfl | exact Or.inr rfl) dX3_isElder_32
      · exact absurd (nI_le (Nat.le_refl _) (by omega)) h10
    | succ dd ih =>
      intro ii hii hno
      have hlt : ii < T := by omega
      refine X_iload_n K0 2 dX3_isElder_2 rfl rfl ?_
      refine X_aload_n K0 0 dX3_isElder_3 rfl rfl ?_
      refine X_get K0 3 rfl rfl hin3 0 (by decide) fl_RX3_28 rfl dX3_isElder_4 ?_
      refine X_get K0 1 rfl rfl hin1 3 (by decide) fl_RX3_41 rfl dX3_isElder_7 ?_
      refine X_icmp_ge K0 31 dX3_isElder_10 (by decide) (fun h10 => ?_) (fun h10 => ?_)
      · exact absurd h10 (nI_ge hlt (by omega))
      · refine X_aload_n K0 0 dX3_isElder_13 rfl rfl ?_
        refine X_get K0 3 rfl rfl hin3 2 (by decide) fl_RX3_15 rfl dX3_isElder_14 ?_
        refine X_iload_n K0 2 dX3_isElder_17 rfl rfl ?_
        refine X_ialdN K0 5 rfl (by omega) (by decide) dX3_isElder_18 ?_
        refine X_iload_n K0 1 dX3_isElder_19 rfl rfl ?_
        refine X_icmp_ne K0 25 dX3_isElder_20 (by decide) (fun h20 => ?_) (fun h20 => ?_)
        · refine X_iinc (v := ((nI ii) + 1)) (L' := [(2, .int ((nI ii) + 1)), (0, .ref th), (1, .int x)]) K0 2 dX3_isElder_25 rfl (by first | rfl | decide) (by decide) rfl ?_
          refine X_goto K0 2 dX3_isElder_28 (by decide) ?_
          refine X.sub [1, 2, 0] (L' := [(0, .ref th), (1, .int x), (2, .int ((nI ii) + 1))]) rfl ?_
          exact X_eq rfl (by rw [nI_succ] <;> rfl) rfl (ih (ii + 1) (by omega) (by rw [ieB, hno, decide_eq_false h20]; rfl))
        · refine X_iconst (v := 1) K0 dX3_isElder_23 (by decide) ?_
          exact hr _ _ _ _ ⟨by rw [ie_yes hlt h20]; rfl, rfl⟩ (by first | exact Or.inl rfl | exact Or.inr rfl) dX3_isElder_24
  exact LOOP T 0 (by omega) rfl

set_option maxRecDepth 20000 in
set_option maxHeartbeats 400000 in
theorem c_become (g : Gx) (c0 : Nat × va_E) (rest : va_W) (pl sl th ki el nu wa wo : Nat) (r c o ap rr rd : Int32) (T : Nat) (slots : Nat → Int32) (ch : Int32) (al : Int64) (kinds elders numbers : Nat → Int32) (waf wof : Nat → Int64) (hT : T ≤ 40) (j : Nat) (hj : j < 40) (kd ed : Int32) (hok : ∀ t, t < T → tOK (upd kinds j kd) (upd elders j ed) (nuF (upd kinds j kd) numbers T) t) : Con g yX3_become cX3_become 5 (some .int) 2 45 0 0 [.ref th, .int (nI j), .int kd, .int ed] (c0 :: (pl, oPlan r c o (nI T) ap rr rd sl) :: (sl, aI g 40 slots) :: (th, oThings pl ki el nu ch al wa wo) :: (ki, aI g 40 kinds) :: (el, aI g 40 elders) :: (nu, aI g 40 numbers) :: (wa, aJ g 12 waf) :: (wo, aJ g 12 wof) :: rest) (Rs (some (.int (kinds j))) (c0 :: (pl, oPlan r c o (nI T) ap rr rd sl) :: (sl, aI g 40 slots) :: (th, oThings pl ki el nu (nI (ctF (upd kinds j kd) T)) (seA (upd kinds j kd) slots T) wa wo) :: (ki, aI g 40 (upd kinds j kd)) :: (el, aI g 40 (upd elders j ed)) :: (nu, aI g 40 (nuF (upd kinds j kd) numbers T)) :: (wa, aJ g 12 (seW (upd kinds j kd) (upd elders j ed) (nuF (upd kinds j kd) numbers T) slots (fiF waf 0 12) T)) :: (wo, aJ g 12 (seO (upd kinds j kd) (upd elders j ed) (nuF (upd kinds j kd) numbers T) slots (fiF wof 0 12) T)) :: rest)) := by
  refine Con.ofI (by decide +kernel) (Nat.le_of_ble_eq_true rfl) (fun φ K0 hr => ?_)
  show X φ 0 0 (c0 :: (pl, oPlan r c o (nI T) ap rr rd sl) :: (sl, aI g 40 slots) :: (th, oThings pl ki el nu ch al wa wo) :: (ki, aI g 40 kinds) :: (el, aI g 40 elders) :: (nu, aI g 40 numbers) :: (wa, aJ g 12 waf) :: (wo, aJ g 12 wof) :: rest) [(0, .ref th), (1, .int (nI j)), (2, .int kd), (3, .int ed)] 0 []
  refine X_aload_n K0 0 dX3_become_0 rfl rfl ?_
  refine X_get K0 3 rfl rfl hin3 1 (by decide) fl_RX3_9 rfl dX3_become_1 ?_
  refine X_iload_n K0 1 dX3_become_4 rfl rfl ?_
  refine X_ialdN K0 4 rfl (by omega) (by decide) dX3_become_5 ?_
  refine X_istore (L' := [(4, .int (kinds j)), (0, .ref th), (1, .int (nI j)), (2, .int kd), (3, .int ed)]) K0 dX3_become_6 (by decide) rfl ?_
  refine X_aload_n K0 1 dX3_become_8 rfl rfl ?_
  refine X_get K0 3 rfl rfl hin3 1 (by decide) fl_RX3_9 rfl dX3_become_9 ?_
  refine X_iload_n K0 2 dX3_become_12 rfl rfl ?_
  refine X_iload_n K0 3 dX3_become_13 rfl rfl ?_
  refine X_iastN (w' := (c0 :: (pl, oPlan r c o (nI T) ap rr rd sl) :: (sl, aI g 40 slots) :: (th, oThings pl ki el nu ch al wa wo) :: (ki, aI g 40 (upd kinds j kd)) :: (el, aI g 40 elders) :: (nu, aI g 40 numbers) :: (wa, aJ g 12 waf) :: (wo, aJ g 12 wof) :: rest)) K0 4 rfl (by omega) (by decide) dX3_become_14 rfl ?_
  refine X_aload_n K0 1 dX3_become_15 rfl rfl ?_
  refine X_get K0 3 rfl rfl hin3 2 (by decide) fl_RX3_15 rfl dX3_become_16 ?_
  refine X_iload_n K0 2 dX3_become_19 rfl rfl ?_
  refine X_iload_n K0 4 dX3_become_20 rfl rfl ?_
  refine X_iastN (w' := (c0 :: (pl, oPlan r c o (nI T) ap rr rd sl) :: (sl, aI g 40 slots) :: (th, oThings pl ki el nu ch al wa wo) :: (ki, aI g 40 (upd kinds j kd)) :: (el, aI g 40 (upd elders j ed)) :: (nu, aI g 40 numbers) :: (wa, aJ g 12 waf) :: (wo, aJ g 12 wof) :: rest)) K0 5 rfl (by omega) (by decide) dX3_become_21 rfl ?_
  refine X_aload_n K0 1 dX3_become_22 rfl rfl ?_
  refine X_callV (As := []) (rest := []) K0 3 (c_settle g c0 rest pl sl th ki el nu wa wo r c o ap rr rd T slots ch al (upd kinds j kd) (upd elders j ed) numbers waf wof (by omega) hok) mi_X3_settle rfl rfl rfl ml_RX3_38 rfl (Nat.le_of_ble_eq_true rfl) (by decide) ⟨Nat.le_of_ble_eq_true rfl, Nat.le_of_ble_eq_true rfl⟩ rfl rfl dX3_become_23 ?_
  intro v w' hr'; obtain ⟨rfl, rfl⟩ := hr'
  show X φ 0 0 (c0 :: (pl, oPlan r c o (nI T) ap rr rd sl) :: (sl, aI g 40 slots) :: (th, oThings pl ki el nu (nI (ctF (upd kinds j kd) T)) (seA (upd kinds j kd) slots T) wa wo) :: (ki, aI g 40 (upd kinds j kd)) :: (el, aI g 40 (upd elders j ed)) :: (nu, aI g 40 (nuF (upd kinds j kd) numbers T)) :: (wa, aJ g 12 (seW (upd kinds j kd) (upd elders j ed) (nuF (upd kinds j kd) numbers T) slots (fiF waf 0 12) T)) :: (wo, aJ g 12 (seO (upd kinds j kd) (upd elders j ed) (nuF (upd kinds j kd) numbers T) slots (fiF wof 0 12) T)) :: rest) [(4, .int (kinds j)), (0, .ref th), (1, .int (nI j)), (2, .int kd), (3, .int ed)] 26 []
  refine X_iload K0 0 dX3_become_26 rfl ?_
  exact hr _ _ _ _ ⟨rfl, rfl⟩ dX3_become_28

set_option maxRecDepth 20000 in
set_option maxHeartbeats 400000 in
theorem c_makeSure (g : Gx) (c0 : Nat × va_E) (rest : va_W) (pl sl th ki el nu wa wo : Nat) (r c o ap rr rd : Int32) (T : Nat) (slots : Nat → Int32) (ch : Int32) (al : Int64) (kinds elders numbers : Nat → Int32) (waf wof : Nat → Int64) (hT : T ≤ 40) : Con g yX3_makeSure cX3_makeSure 1 none 2 45 0 0 [.ref th] (c0 :: (pl, oPlan r c o (nI T) ap rr rd sl) :: (sl, aI g 40 slots) :: (th, oThings pl ki el nu ch al wa wo) :: (ki, aI g 40 kinds) :: (el, aI g 40 elders) :: (nu, aI g 40 numbers) :: (wa, aJ g 12 waf) :: (wo, aJ g 12 wof) :: rest) (Rs none (c0 :: (pl, oPlan r c o (nI T) ap rr rd sl) :: (sl, aI g 40 slots) :: (th, oThings pl ki el nu (nI (ctF (fiF kinds 1 40) T)) (seA (fiF kinds 1 40) slots T) wa wo) :: (ki, aI g 40 (fiF kinds 1 40)) :: (el, aI g 40 (fiF elders (-9) 40)) :: (nu, aI g 40 (nuF (fiF kinds 1 40) numbers T)) :: (wa, aJ g 12 (seW (fiF kinds 1 40) (fiF elders (-9) 40) (nuF (fiF kinds 1 40) numbers T) slots (fiF waf 0 12) T)) :: (wo, aJ g 12 (seO (fiF kinds 1 40) (fiF elders (-9) 40) (nuF (fiF kinds 1 40) numbers T) slots (fiF wof 0 12) T)) :: rest)) := by
  refine Con.ofV (by decide +kernel) (Nat.le_of_ble_eq_true rfl) (fun φ K0 hr => ?_)
  show X φ 0 0 (c0 :: (pl, oPlan r c o (nI T) ap rr rd sl) :: (sl, aI g 40 slots) :: (th, oThings pl ki el nu ch al wa wo) :: (ki, aI g 40 kinds) :: (el, aI g 40 elders) :: (nu, aI g 40 numbers) :: (wa, aJ g 12 waf) :: (wo, aJ g 12 wof) :: rest) [(0, .ref th)] 0 []
  refine X_aload_n K0 0 dX3_makeSure_0 rfl rfl ?_
  refine X_get K0 3 rfl rfl hin3 1 (by decide) fl_RX3_9 rfl dX3_makeSure_1 ?_
  refine X_iconst (v := 1) K0 dX3_makeSure_4 (by decide) ?_
  refine X_callS (As := [.ref ki, .int 1]) (rest := []) K0 (c_fillI g (c0 :: (pl, oPlan r c o (nI T) ap rr rd sl) :: (sl, aI g 40 slots) :: (th, oThings pl ki el nu ch al wa wo) :: (ki, aI g 40 kinds) :: (el, aI g 40 elders) :: (nu, aI g 40 numbers) :: (wa, aJ g 12 waf) :: (wo, aJ g 12 wof) :: rest) 4 ki 40 kinds rfl (by decide) 1) ms_J7_fill_53178 rfl ml_RX3_32 rfl (Nat.le_of_ble_eq_true rfl) (by decide) ⟨Nat.le_of_ble_eq_true rfl, Nat.le_of_ble_eq_true rfl⟩ rfl rfl dX3_makeSure_5 ?_
  intro v w' hr'; obtain ⟨rfl, rfl⟩ := hr'
  show X φ 0 0 (c0 :: (pl, oPlan r c o (nI T) ap rr rd sl) :: (sl, aI g 40 slots) :: (th, oThings pl ki el nu ch al wa wo) :: (ki, aI g 40 (fiF kinds 1 40)) :: (el, aI g 40 elders) :: (nu, aI g 40 numbers) :: (wa, aJ g 12 waf) :: (wo, aJ g 12 wof) :: rest) [(0, .ref th)] 8 []
  refine X_aload_n K0 0 dX3_makeSure_8 rfl rfl ?_
  refine X_get K0 3 rfl rfl hin3 2 (by decide) fl_RX3_15 rfl dX3_makeSure_9 ?_
  refine X_bipush (v := (-9)) K0 dX3_makeSure_12 (by decide) ?_
  refine X_callS (As := [.ref el, .int (-9)]) (rest := []) K0 (c_fillI g (c0 :: (pl, oPlan r c o (nI T) ap rr rd sl) :: (sl, aI g 40 slots) :: (th, oThings pl ki el nu ch al wa wo) :: (ki, aI g 40 (fiF kinds 1 40)) :: (el, aI g 40 elders) :: (nu, aI g 40 numbers) :: (wa, aJ g 12 waf) :: (wo, aJ g 12 wof) :: rest) 5 el 40 elders rfl (by decide) (-9)) ms_J7_fill_53178 rfl ml_RX3_32 rfl (Nat.le_of_ble_eq_true rfl) (by decide) ⟨Nat.le_of_ble_eq_true rfl, Nat.le_of_ble_eq_true rfl⟩ rfl rfl dX3_makeSure_14 ?_
  intro v w' hr'; obtain ⟨rfl, rfl⟩ := hr'
  show X φ 0 0 (c0 :: (pl, oPlan r c o (nI T) ap rr rd sl) :: (sl, aI g 40 slots) :: (th, oThings pl ki el nu ch al wa wo) :: (ki, aI g 40 (fiF kinds 1 40)) :: (el, aI g 40 (fiF elders (-9) 40)) :: (nu, aI g 40 numbers) :: (wa, aJ g 12 waf) :: (wo, aJ g 12 wof) :: rest) [(0, .ref th)] 17 []
  refine X_aload_n K0 0 dX3_makeSure_17 rfl rfl ?_
  refine X_callV (As := []) (rest := []) K0 3 (c_settle g c0 rest pl sl th ki el nu wa wo r c o ap rr rd T slots ch al (fiF kinds 1 40) (fiF elders (-9) 40) numbers waf wof (by omega) (fun t ht => Or.inr (Or.inl (by simp only [fiF]; rw [if_pos (by omega)])))) mi_X3_settle rfl rfl rfl ml_RX3_38 rfl (Nat.le_of_ble_eq_true rfl) (by decide) ⟨Nat.le_of_ble_eq_true rfl, Nat.le_of_ble_eq_true rfl⟩ rfl rfl dX3_makeSure_18 ?_
  intro v w' hr'; obtain ⟨rfl, rfl⟩ := hr'
  show X φ 0 0 (c0 :: (pl, oPlan r c o (nI T) ap rr rd sl) :: (sl, aI g 40 slots) :: (th, oThings pl ki el nu (nI (ctF (fiF kinds 1 40) T)) (seA (fiF kinds 1 40) slots T) wa wo) :: (ki, aI g 40 (fiF kinds 1 40)) :: (el, aI g 40 (fiF elders (-9) 40)) :: (nu, aI g 40 (nuF (fiF kinds 1 40) numbers T)) :: (wa, aJ g 12 (seW (fiF kinds 1 40) (fiF elders (-9) 40) (nuF (fiF kinds 1 40) numbers T) slots (fiF waf 0 12) T)) :: (wo, aJ g 12 (seO (fiF kinds 1 40) (fiF elders (-9) 40) (nuF (fiF kinds 1 40) numbers T) slots (fiF wof 0 12) T)) :: rest) [(0, .ref th)] 21 []
  exact hr _ _ _ ⟨rfl, rfl⟩ dX3_makeSure_21
