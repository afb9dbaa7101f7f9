set_option maxRecDepth 20000 in
set_option maxHeartbeats 400000 in
theorem c_readKinds (g : Gx) (o pl sl th ki el nu wa wo pg ga sh : Nat) (R C : Nat) (op : Bool) (T : Nat) (slots : Nat → Int32) (ap rr rd : Int32) (m : Nat) (al : Int64) (kinds elders numbers : Nat → Int32) (waf wof : Nat → Int64) (sp : Int32 × Int32 × Int32) (sg : Int32 × Int32 × Int32 × Int32 × Int32) (shf : Nat → Option Nat) (asked : Int64) (fi : Int32) (c12 c13 c14 c15 c16 c17 c18 c19 c20 c21 c22 c23 c24 : Nat × va_E) (pool : va_W) (hR : 1 ≤ R ∧ R ≤ 5) (hC : 1 ≤ C ∧ C ≤ 5) (hT : T ≤ 40) (hm : m ≤ 12) (hKI : KI T kinds elders) (hDV : DV T slots kinds elders numbers m al waf wof) (b p3 len : Nat) (row : Nat → Int32) (hlen : len ≤ 40) (hp3 : pool[p3]? = some (b, aI g len row)) : Con g yX4_readKinds cX4_readKinds 5 (some .int) 4 91 0 0 [.ref o, .ref b] ((o, oMain pl th pg ga sh asked fi) :: (pl, oPlan (nI R) (nI C) (bI op) (nI T) ap rr rd sl) :: (sl, aI g 40 slots) :: (th, oThings pl ki el nu (nI m) al wa wo) :: (ki, aI g 40 kinds) :: (el, aI g 40 elders) :: (nu, aI g 40 numbers) :: (wa, aJ g 12 waf) :: (wo, aJ g 12 wof) :: (pg, oGrid (nI R) (nI C) sp.1 sp.2.1 sp.2.2) :: (ga, oGrid sg.1 sg.2.1 sg.2.2.1 sg.2.2.2.1 sg.2.2.2.2) :: (sh, aS g 3 shf) :: c12 :: c13 :: c14 :: c15 :: c16 :: c17 :: c18 :: c19 :: c20 :: c21 :: c22 :: c23 :: c24 :: pool) (fun v' w' => ∃ (i : Nat) (f : Int32) (m2 : Nat) (al2 : Int64) (kinds2 elders2 nu2 : Nat → Int32) (wa2 wo2 : Nat → Int64), v' = some (.int (nI i)) ∧ rkO T (if T < len then T else len) row kinds elders i f ∧ kinds2 = rkK row kinds i ∧ elders2 = rkE elders i ∧ KI T kinds2 elders2 ∧ DV T slots kinds2 elders2 nu2 m2 al2 wa2 wo2 ∧ ((o, oMain pl th pg ga sh asked (if f = 0 then fi else f)) :: (pl, oPlan (nI R) (nI C) (bI op) (nI T) ap rr rd sl) :: (sl, aI g 40 slots) :: (th, oThings pl ki el nu (nI m2) al2 wa wo) :: (ki, aI g 40 kinds2) :: (el, aI g 40 elders2) :: (nu, aI g 40 nu2) :: (wa, aJ g 12 wa2) :: (wo, aJ g 12 wo2) :: (pg, oGrid (nI R) (nI C) sp.1 sp.2.1 sp.2.2) :: (ga, oGrid sg.1 sg.2.1 sg.2.2.1 sg.2.2.2.1 sg.2.2.2.2) :: (sh, aS g 3 shf) :: c12 :: c13 :: c14 :: c15 :: c16 :: c17 :: c18 :: c19 :: c20 :: c21 :: c22 :: c23 :: c24 :: pool) = w') := by
  refine Con.ofI (by decide +kernel) (Nat.le_of_ble_eq_true rfl) (fun φ K0 hr => ?_)
  show X φ 0 0 ((o, oMain pl th pg ga sh asked fi) :: (pl, oPlan (nI R) (nI C) (bI op) (nI T) ap rr rd sl) :: (sl, aI g 40 slots) :: (th, oThings pl ki el nu (nI m) al wa wo) :: (ki, aI g 40 kinds) :: (el, aI g 40 elders) :: (nu, aI g 40 numbers) :: (wa, aJ g 12 waf) :: (wo, aJ g 12 wof) :: (pg, oGrid (nI R) (nI C) sp.1 sp.2.1 sp.2.2) :: (ga, oGrid sg.1 sg.2.1 sg.2.2.1 sg.2.2.2.1 sg.2.2.2.2) :: (sh, aS g 3 shf) :: c12 :: c13 :: c14 :: c15 :: c16 :: c17 :: c18 :: c19 :: c20 :: c21 :: c22 :: c23 :: c24 :: pool) [(0, .ref o), (1, .ref b)] 0 []
  refine X_aload_n K0 1 dX4_readKinds_0 rfl rfl ?_
  refine X_alen (v := (nI len)) K0 (p3 + 25) 0 (lk25 hp3) rfl rfl dX4_readKinds_1 ?_
  refine X_aload_n K0 0 dX4_readKinds_2 rfl rfl ?_
  refine X_get K0 0 rfl rfl hin4 0 (by decide) fl_RX4_10 rfl dX4_readKinds_3 ?_
  refine X_get K0 1 rfl rfl hin1 3 (by decide) fl_RX4_57 rfl dX4_readKinds_6 ?_
  refine X_mmin K0 ml_RX4_260 st_Lib_Math_min_name it_RJ9 co_min (by decide) (Nat.le_of_ble_eq_true rfl) (by decide) (by decide) dX4_readKinds_9 ?_
  refine X_istore_n (L' := [(2, .int (if (nI T) < (nI len) then (nI T) else (nI len))), (0, .ref o), (1, .ref b)]) K0 dX4_readKinds_12 rfl (by decide) rfl ?_
  refine X_iconst (v := 0) K0 dX4_readKinds_13 (by decide) ?_
  refine X_istore_n (L' := [(3, .int 0), (2, .int (if (nI T) < (nI len) then (nI T) else (nI len))), (0, .ref o), (1, .ref b)]) K0 dX4_readKinds_14 rfl (by decide) rfl ?_
  obtain ⟨n, hn, hnT, hnl⟩ : ∃ n, n = (if T < len then T else len) ∧ n ≤ T ∧ n ≤ len := ⟨_, rfl, by split <;> omega, by split <;> omega⟩
  rw [min_nI hT hlen]
  rw [← hn] at hr ⊢
  refine X.sub [2, 3, 1, 0] (L' := [(0, .ref o), (1, .ref b), (2, .int (nI n)), (3, .int 0)]) rfl ?_
  have LOOP : ∀ (dd ii : Nat), ii + dd = n → ∀ (m2 : Nat) (al2 : Int64) (kinds2 elders2 nu2 : Nat → Int32) (wa2 wo2 : Nat → Int64), kinds2 = rkK row kinds ii → elders2 = rkE elders ii → KI T kinds2 elders2 → DV T slots kinds2 elders2 nu2 m2 al2 wa2 wo2 → (∀ t, t < ii → rkD T row kinds elders t = none) → X φ 0 0 ((o, oMain pl th pg ga sh asked fi) :: (pl, oPlan (nI R) (nI C) (bI op) (nI T) ap rr rd sl) :: (sl, aI g 40 slots) :: (th, oThings pl ki el nu (nI m2) al2 wa wo) :: (ki, aI g 40 kinds2) :: (el, aI g 40 elders2) :: (nu, aI g 40 nu2) :: (wa, aJ g 12 wa2) :: (wo, aJ g 12 wo2) :: (pg, oGrid (nI R) (nI C) sp.1 sp.2.1 sp.2.2) :: (ga, oGrid sg.1 sg.2.1 sg.2.2.1 sg.2.2.2.1 sg.2.2.2.2) :: (sh, aS g 3 shf) :: c12 :: c13 :: c14 :: c15 :: c16 :: c17 :: c18 :: c19 :: c20 :: c21 :: c22 :: c23 :: c24 :: pool) [(0, .ref o), (1, .ref b), (2, .int (nI n)), (3, .int (nI ii))] 15 [] := by
    intro dd
    induction dd with
    | zero =>
      intro ii hii m2 al2 kinds2 elders2 nu2 wa2 wo2 hk2 he2 hKI2 hDV2 hno
      have hii2 : n = ii := by omega
      subst hii2
      refine X_iload_n K0 3 dX4_readKinds_15 rfl rfl ?_
      refine X_iload_n K0 2 dX4_readKinds_16 rfl rfl ?_
      refine X_icmp_ge K0 49 dX4_readKinds_17 (by decide) (fun h17 => ?_) (fun h17 => ?_)
      · refine X_iload_n K0 2 dX4_readKinds_49 rfl rfl ?_
        exact hr _ _ _ _ ⟨n, 0, m2, al2, kinds2, elders2, nu2, wa2, wo2, rfl, ⟨Nat.le_refl _, hno, Or.inl ⟨rfl, rfl⟩⟩, hk2, he2, hKI2, hDV2, rfl⟩ dX4_readKinds_50
      · exact absurd (nI_le (Nat.le_refl _) (by omega)) h17
    | succ dd ih =>
      intro ii hii m2 al2 kinds2 elders2 nu2 wa2 wo2 hk2 he2 hKI2 hDV2 hno
      have hlt : ii < n := by omega
      have hm2 : m2 ≤ 12 := by rw [hDV2.1]; exact hKI2.2
      refine X_iload_n K0 3 dX4_readKinds_15 rfl rfl ?_
      refine X_iload_n K0 2 dX4_readKinds_16 rfl rfl ?_
      refine X_icmp_ge K0 49 dX4_readKinds_17 (by decide) (fun h17 => ?_) (fun h17 => ?_)
      · exact absurd h17 (nI_ge hlt (by omega))
      · refine X_aload_n K0 0 dX4_readKinds_20 rfl rfl ?_
        refine X_iload_n K0 3 dX4_readKinds_21 rfl rfl ?_
        refine X_aload_n K0 1 dX4_readKinds_22 rfl rfl ?_
        refine X_iload_n K0 3 dX4_readKinds_23 rfl rfl ?_
        refine X_ialdN K0 (p3 + 25) (lk25 hp3) (by omega) (by first | decide | omega) dX4_readKinds_24 ?_
        refine X_callV (As := [.int (nI ii), .int (row ii)]) (rest := []) K0 0 (c_kind g o pl sl th ki el nu wa wo pg ga sh R C op T slots ap rr rd m2 al2 kinds2 elders2 nu2 wa2 wo2 sp sg shf asked fi (c12 :: c13 :: c14 :: c15 :: c16 :: c17 :: c18 :: c19 :: c20 :: c21 :: c22 :: c23 :: c24 :: pool) hR hC hT hm2 hKI2 hDV2.1 (nI ii) (row ii)) mi_X4_kind rfl rfl rfl ml_RX4_265 rfl (Nat.le_of_ble_eq_true rfl) (by decide) ⟨Nat.le_of_ble_eq_true rfl, Nat.le_of_ble_eq_true rfl⟩ rfl rfl dX4_readKinds_25 ?_
        intro v' w' hr'; rcases hr' with ⟨e, hkd, rfl, rfl⟩ | ⟨hkd, j, hj, hjx, rfl, rfl⟩
        · show X φ 0 0 ((o, oMain pl th pg ga sh asked fi) :: (pl, oPlan (nI R) (nI C) (bI op) (nI T) ap rr rd sl) :: (sl, aI g 40 slots) :: (th, oThings pl ki el nu (nI m2) al2 wa wo) :: (ki, aI g 40 kinds2) :: (el, aI g 40 elders2) :: (nu, aI g 40 nu2) :: (wa, aJ g 12 wa2) :: (wo, aJ g 12 wo2) :: (pg, oGrid (nI R) (nI C) sp.1 sp.2.1 sp.2.2) :: (ga, oGrid sg.1 sg.2.1 sg.2.2.1 sg.2.2.2.1 sg.2.2.2.2) :: (sh, aS g 3 shf) :: c12 :: c13 :: c14 :: c15 :: c16 :: c17 :: c18 :: c19 :: c20 :: c21 :: c22 :: c23 :: c24 :: pool) [(0, .ref o), (1, .ref b), (2, .int (nI n)), (3, .int (nI ii))] 28 [.int e]
          refine X_istore (L' := [(4, .int e), (0, .ref o), (1, .ref b), (2, .int (nI n)), (3, .int (nI ii))]) K0 dX4_readKinds_28 (by decide) rfl ?_
          refine X_iload K0 0 dX4_readKinds_30 rfl ?_
          refine X_if_ge K0 43 dX4_readKinds_32 (by decide) (fun h32 => ?_) (fun h32 => ?_)
          · exact absurd h32 (kd_neg hkd)
          · refine X_aload_n K0 1 dX4_readKinds_35 rfl rfl ?_
            refine X_iload K0 0 dX4_readKinds_36 rfl ?_
            refine X_put (w' := ((o, oMain pl th pg ga sh asked e) :: (pl, oPlan (nI R) (nI C) (bI op) (nI T) ap rr rd sl) :: (sl, aI g 40 slots) :: (th, oThings pl ki el nu (nI m2) al2 wa wo) :: (ki, aI g 40 kinds2) :: (el, aI g 40 elders2) :: (nu, aI g 40 nu2) :: (wa, aJ g 12 wa2) :: (wo, aJ g 12 wo2) :: (pg, oGrid (nI R) (nI C) sp.1 sp.2.1 sp.2.2) :: (ga, oGrid sg.1 sg.2.1 sg.2.2.1 sg.2.2.2.1 sg.2.2.2.2) :: (sh, aS g 3 shf) :: c12 :: c13 :: c14 :: c15 :: c16 :: c17 :: c18 :: c19 :: c20 :: c21 :: c22 :: c23 :: c24 :: pool)) K0 0 rfl rfl hin4 tyX4 tyX4_ok nmX4 6 (by decide) fl_RX4_45 rfl (tyX4_ok 6 (by decide)) rfl rfl (Nat.le_of_ble_eq_true rfl) dX4_readKinds_38 rfl ?_
            refine X_iload_n K0 4 dX4_readKinds_41 rfl rfl ?_
            exact hr _ _ _ _ ⟨ii, e, m2, al2, kinds2, elders2, nu2, wa2, wo2, rfl, ⟨by omega, hno, Or.inr ⟨hlt, by rw [rkD, ← hk2, ← he2, ← hDV2.1]; exact hkd⟩⟩, hk2, he2, hKI2, hDV2, by rw [if_neg (fun q => kd_neg hkd (by rw [q]; decide))]⟩ dX4_readKinds_42
        · have hji : ii = j := (nI_eq (by omega) (by omega)).mp hjx
          subst hji
          show X φ 0 0 ((o, oMain pl th pg ga sh asked fi) :: (pl, oPlan (nI R) (nI C) (bI op) (nI T) ap rr rd sl) :: (sl, aI g 40 slots) :: (th, oThings pl ki el nu (nI (ctF (upd kinds2 ii (row ii)) T)) (seA (upd kinds2 ii (row ii)) slots T) wa wo) :: (ki, aI g 40 (upd kinds2 ii (row ii))) :: (el, aI g 40 (upd elders2 ii (-9))) :: (nu, aI g 40 (nuF (upd kinds2 ii (row ii)) nu2 T)) :: (wa, aJ g 12 (seW (upd kinds2 ii (row ii)) (upd elders2 ii (-9)) (nuF (upd kinds2 ii (row ii)) nu2 T) slots (fiF wa2 0 12) T)) :: (wo, aJ g 12 (seO (upd kinds2 ii (row ii)) (upd elders2 ii (-9)) (nuF (upd kinds2 ii (row ii)) nu2 T) slots (fiF wo2 0 12) T)) :: (pg, oGrid (nI R) (nI C) sp.1 sp.2.1 sp.2.2) :: (ga, oGrid sg.1 sg.2.1 sg.2.2.1 sg.2.2.2.1 sg.2.2.2.2) :: (sh, aS g 3 shf) :: c12 :: c13 :: c14 :: c15 :: c16 :: c17 :: c18 :: c19 :: c20 :: c21 :: c22 :: c23 :: c24 :: pool) [(0, .ref o), (1, .ref b), (2, .int (nI n)), (3, .int (nI ii))] 28 [.int (kinds2 ii)]
          refine X_istore (L' := [(4, .int (kinds2 ii)), (0, .ref o), (1, .ref b), (2, .int (nI n)), (3, .int (nI ii))]) K0 dX4_readKinds_28 (by decide) rfl ?_
          refine X_iload K0 0 dX4_readKinds_30 rfl ?_
          refine X_if_ge K0 43 dX4_readKinds_32 (by decide) (fun h32 => ?_) (fun h32 => ?_)
          · refine X_iinc (v := ((nI ii) + 1)) (L' := [(3, .int ((nI ii) + 1)), (4, .int (kinds2 ii)), (0, .ref o), (1, .ref b), (2, .int (nI n))]) K0 4 dX4_readKinds_43 rfl (by first | rfl | decide) (by decide) rfl ?_
            refine X_goto K0 15 dX4_readKinds_46 (by decide) ?_
            refine X.sub [2, 3, 4, 0] (L' := [(0, .ref o), (1, .ref b), (2, .int (nI n)), (3, .int ((nI ii) + 1))]) rfl ?_
            exact X_eq rfl (by rw [nI_succ] <;> rfl) rfl (ih (ii + 1) (by omega) (ctF (upd kinds2 ii (row ii)) T) (seA (upd kinds2 ii (row ii)) slots T) (upd kinds2 ii (row ii)) (upd elders2 ii (-9)) (nuF (upd kinds2 ii (row ii)) nu2 T) (seW (upd kinds2 ii (row ii)) (upd elders2 ii (-9)) (nuF (upd kinds2 ii (row ii)) nu2 T) slots (fiF wa2 0 12) T) (seO (upd kinds2 ii (row ii)) (upd elders2 ii (-9)) (nuF (upd kinds2 ii (row ii)) nu2 T) slots (fiF wo2 0 12) T) (by rw [hk2]; rfl) (by rw [he2]; rfl) (hKI2.step hT (by omega) (by rw [← hDV2.1]; exact hkd)) ⟨rfl, ⟨_, rfl⟩, rfl, ⟨_, rfl⟩, ⟨_, rfl⟩⟩ (lt_s hno (by rw [rkD, ← hk2, ← he2, ← hDV2.1]; exact hkd)))
          · exact absurd (hKI2.ge0 (by omega)) h32
  exact LOOP n 0 (by omega) m al kinds elders numbers waf wof rfl rfl hKI hDV (fun t h => absurd h (Nat.not_lt_zero t))

set_option maxRecDepth 20000 in
set_option maxHeartbeats 400000 in
theorem c_read (g : Gx) (o pl sl th ki el nu wa wo pg ga sh : Nat) (R C : Nat) (op : Bool) (T : Nat) (slots : Nat → Int32) (ap rr rd : Int32) (m : Nat) (al : Int64) (kinds elders numbers : Nat → Int32) (waf wof : Nat → Int64) (sp : Int32 × Int32 × Int32) (sg : Int32 × Int32 × Int32 × Int32 × Int32) (shf : Nat → Option Nat) (asked : Int64) (fi : Int32) (c12 c13 c14 c15 c16 c17 c18 c19 c20 c21 c22 c23 c24 : Nat × va_E) (pool : va_W) (hR : 1 ≤ R ∧ R ≤ 5) (hC : 1 ≤ C ∧ C ≤ 5) (hT : T ≤ 40) (hm : m ≤ 12) (hKI : KI T kinds elders) (hDV : DV T slots kinds elders numbers m al waf wof) (abs : Nat → SH) (hPO : PO g pool shf abs) (x r : Int32) : Con g yX4_read cX4_read 3 (some .int) 5 115 0 0 [.ref o, .int x, .int r] ((o, oMain pl th pg ga sh asked fi) :: (pl, oPlan (nI R) (nI C) (bI op) (nI T) ap rr rd sl) :: (sl, aI g 40 slots) :: (th, oThings pl ki el nu (nI m) al wa wo) :: (ki, aI g 40 kinds) :: (el, aI g 40 elders) :: (nu, aI g 40 numbers) :: (wa, aJ g 12 waf) :: (wo, aJ g 12 wof) :: (pg, oGrid (nI R) (nI C) sp.1 sp.2.1 sp.2.2) :: (ga, oGrid sg.1 sg.2.1 sg.2.2.1 sg.2.2.2.1 sg.2.2.2.2) :: (sh, aS g 3 shf) :: c12 :: c13 :: c14 :: c15 :: c16 :: c17 :: c18 :: c19 :: c20 :: c21 :: c22 :: c23 :: c24 :: pool) (fun v' w' => (wiB x 0 2 = false ∧ v' = some (.int (-1)) ∧ ((o, oMain pl th pg ga sh asked (-1)) :: (pl, oPlan (nI R) (nI C) (bI op) (nI T) ap rr rd sl) :: (sl, aI g 40 slots) :: (th, oThings pl ki el nu (nI m) al wa wo) :: (ki, aI g 40 kinds) :: (el, aI g 40 elders) :: (nu, aI g 40 numbers) :: (wa, aJ g 12 waf) :: (wo, aJ g 12 wof) :: (pg, oGrid (nI R) (nI C) sp.1 sp.2.1 sp.2.2) :: (ga, oGrid sg.1 sg.2.1 sg.2.2.1 sg.2.2.2.1 sg.2.2.2.2) :: (sh, aS g 3 shf) :: c12 :: c13 :: c14 :: c15 :: c16 :: c17 :: c18 :: c19 :: c20 :: c21 :: c22 :: c23 :: c24 :: pool) = w') ∨ (∃ j, j < 3 ∧ x = nI j ∧ ((¬ rfD (abs j) r = 0 ∧ v' = some (.int 0) ∧ ((o, oMain pl th pg ga sh asked (rfD (abs j) r)) :: (pl, oPlan (nI R) (nI C) (bI op) (nI T) ap rr rd sl) :: (sl, aI g 40 slots) :: (th, oThings pl ki el nu (nI m) al wa wo) :: (ki, aI g 40 kinds) :: (el, aI g 40 elders) :: (nu, aI g 40 numbers) :: (wa, aJ g 12 waf) :: (wo, aJ g 12 wof) :: (pg, oGrid (nI R) (nI C) sp.1 sp.2.1 sp.2.2) :: (ga, oGrid sg.1 sg.2.1 sg.2.2.1 sg.2.2.2.1 sg.2.2.2.2) :: (sh, aS g 3 shf) :: c12 :: c13 :: c14 :: c15 :: c16 :: c17 :: c18 :: c19 :: c20 :: c21 :: c22 :: c23 :: c24 :: pool) = w') ∨ (∃ (so : Int32) (nr : Nat) (rows : Nat → RW) (jr len : Nat) (row : Nat → Int32), abs j = some (so, nr, rows) ∧ jr < nr ∧ r = nI jr ∧ rows jr = some (len, row) ∧ len ≤ 40 ∧ ∃ (i : Nat) (f : Int32) (m2 : Nat) (al2 : Int64) (kinds2 elders2 nu2 : Nat → Int32) (wa2 wo2 : Nat → Int64), v' = some (.int (nI i)) ∧ rkO T (if T < len then T else len) row kinds elders i f ∧ kinds2 = rkK row kinds i ∧ elders2 = rkE elders i ∧ KI T kinds2 elders2 ∧ DV T slots kinds2 elders2 nu2 m2 al2 wa2 wo2 ∧ ((o, oMain pl th pg ga sh asked f) :: (pl, oPlan (nI R) (nI C) (bI op) (nI T) ap rr rd sl) :: (sl, aI g 40 slots) :: (th, oThings pl ki el nu (nI m2) al2 wa wo) :: (ki, aI g 40 kinds2) :: (el, aI g 40 elders2) :: (nu, aI g 40 nu2) :: (wa, aJ g 12 wa2) :: (wo, aJ g 12 wo2) :: (pg, oGrid (nI R) (nI C) sp.1 sp.2.1 sp.2.2) :: (ga, oGrid sg.1 sg.2.1 sg.2.2.1 sg.2.2.2.1 sg.2.2.2.2) :: (sh, aS g 3 shf) :: c12 :: c13 :: c14 :: c15 :: c16 :: c17 :: c18 :: c19 :: c20 :: c21 :: c22 :: c23 :: c24 :: pool) = w')))) := by
  refine Con.ofI (by decide +kernel) (Nat.le_of_ble_eq_true rfl) (fun φ K0 hr => ?_)
  show X φ 0 0 ((o, oMain pl th pg ga sh asked fi) :: (pl, oPlan (nI R) (nI C) (bI op) (nI T) ap rr rd sl) :: (sl, aI g 40 slots) :: (th, oThings pl ki el nu (nI m) al wa wo) :: (ki, aI g 40 kinds) :: (el, aI g 40 elders) :: (nu, aI g 40 numbers) :: (wa, aJ g 12 waf) :: (wo, aJ g 12 wof) :: (pg, oGrid (nI R) (nI C) sp.1 sp.2.1 sp.2.2) :: (ga, oGrid sg.1 sg.2.1 sg.2.2.1 sg.2.2.2.1 sg.2.2.2.2) :: (sh, aS g 3 shf) :: c12 :: c13 :: c14 :: c15 :: c16 :: c17 :: c18 :: c19 :: c20 :: c21 :: c22 :: c23 :: c24 :: pool) [(0, .ref o), (1, .int x), (2, .int r)] 0 []
  refine X_iload_n K0 1 dX4_read_0 rfl rfl ?_
  refine X_callS (As := [.int x]) (rest := []) K0 (c_isSheet g ((o, oMain pl th pg ga sh asked fi) :: (pl, oPlan (nI R) (nI C) (bI op) (nI T) ap rr rd sl) :: (sl, aI g 40 slots) :: (th, oThings pl ki el nu (nI m) al wa wo) :: (ki, aI g 40 kinds) :: (el, aI g 40 elders) :: (nu, aI g 40 numbers) :: (wa, aJ g 12 waf) :: (wo, aJ g 12 wof) :: (pg, oGrid (nI R) (nI C) sp.1 sp.2.1 sp.2.2) :: (ga, oGrid sg.1 sg.2.1 sg.2.2.1 sg.2.2.2.1 sg.2.2.2.2) :: (sh, aS g 3 shf) :: c12 :: c13 :: c14 :: c15 :: c16 :: c17 :: c18 :: c19 :: c20 :: c21 :: c22 :: c23 :: c24 :: pool) x) ms_X4_isSheet rfl ml_RX4_204 rfl (Nat.le_of_ble_eq_true rfl) (by decide) ⟨Nat.le_of_ble_eq_true rfl, Nat.le_of_ble_eq_true rfl⟩ rfl rfl dX4_read_1 ?_
  intro v w' hr'; obtain ⟨rfl, rfl⟩ := hr'
  show X φ 0 0 ((o, oMain pl th pg ga sh asked fi) :: (pl, oPlan (nI R) (nI C) (bI op) (nI T) ap rr rd sl) :: (sl, aI g 40 slots) :: (th, oThings pl ki el nu (nI m) al wa wo) :: (ki, aI g 40 kinds) :: (el, aI g 40 elders) :: (nu, aI g 40 numbers) :: (wa, aJ g 12 waf) :: (wo, aJ g 12 wof) :: (pg, oGrid (nI R) (nI C) sp.1 sp.2.1 sp.2.2) :: (ga, oGrid sg.1 sg.2.1 sg.2.2.1 sg.2.2.2.1 sg.2.2.2.2) :: (sh, aS g 3 shf) :: c12 :: c13 :: c14 :: c15 :: c16 :: c17 :: c18 :: c19 :: c20 :: c21 :: c22 :: c23 :: c24 :: pool) [(0, .ref o), (1, .int x), (2, .int r)] 4 [.int (bI (wiB x 0 2))]
  refine X_if_ne K0 14 dX4_read_4 (by decide) (fun h4 => ?_) (fun h4 => ?_)
  · obtain ⟨j, hj_j, rfl⟩ := wi_3 (bI_n0.mp h4)
    have hcl_j : (nI j).toNatClampNeg = j := nI_clamp (by omega)
    refine X_aload_n K0 0 dX4_read_14 rfl rfl ?_
    refine X_aload_n K0 0 dX4_read_15 rfl rfl ?_
    refine X_get K0 0 rfl rfl hin4 4 (by decide) fl_RX4_37 rfl dX4_read_16 ?_
    refine X_iload_n K0 1 dX4_read_19 rfl rfl ?_
    rcases hs_j : shf j with _ | a_j
    · have hab_j := po_none hPO hj_j hs_j
      refine X_sald (v := .null) K0 11 rfl (by omega) (by decide) (by rw [hs_j]; rfl) dX4_read_20 ?_
      refine X_iload_n K0 2 dX4_read_21 rfl rfl ?_
      refine X_callS (As := [.null, .int r]) (rest := [.ref o]) K0 (c_rowFindingN g ((o, oMain pl th pg ga sh asked fi) :: (pl, oPlan (nI R) (nI C) (bI op) (nI T) ap rr rd sl) :: (sl, aI g 40 slots) :: (th, oThings pl ki el nu (nI m) al wa wo) :: (ki, aI g 40 kinds) :: (el, aI g 40 elders) :: (nu, aI g 40 numbers) :: (wa, aJ g 12 waf) :: (wo, aJ g 12 wof) :: (pg, oGrid (nI R) (nI C) sp.1 sp.2.1 sp.2.2) :: (ga, oGrid sg.1 sg.2.1 sg.2.2.1 sg.2.2.2.1 sg.2.2.2.2) :: (sh, aS g 3 shf) :: c12 :: c13 :: c14 :: c15 :: c16 :: c17 :: c18 :: c19 :: c20 :: c21 :: c22 :: c23 :: c24 :: pool) r) ms_X4_rowFinding rfl ml_RX4_207 rfl (Nat.le_of_ble_eq_true rfl) (by decide) ⟨Nat.le_of_ble_eq_true rfl, Nat.le_of_ble_eq_true rfl⟩ rfl rfl dX4_read_22 ?_
      intro v w' hr'; obtain ⟨rfl, rfl⟩ := hr'
      show X φ 0 0 ((o, oMain pl th pg ga sh asked fi) :: (pl, oPlan (nI R) (nI C) (bI op) (nI T) ap rr rd sl) :: (sl, aI g 40 slots) :: (th, oThings pl ki el nu (nI m) al wa wo) :: (ki, aI g 40 kinds) :: (el, aI g 40 elders) :: (nu, aI g 40 numbers) :: (wa, aJ g 12 waf) :: (wo, aJ g 12 wof) :: (pg, oGrid (nI R) (nI C) sp.1 sp.2.1 sp.2.2) :: (ga, oGrid sg.1 sg.2.1 sg.2.2.1 sg.2.2.2.1 sg.2.2.2.2) :: (sh, aS g 3 shf) :: c12 :: c13 :: c14 :: c15 :: c16 :: c17 :: c18 :: c19 :: c20 :: c21 :: c22 :: c23 :: c24 :: pool) [(0, .ref o), (1, .int (nI j)), (2, .int r)] 25 [.int (-11), .ref o]
      refine X_put (w' := ((o, oMain pl th pg ga sh asked (-11)) :: (pl, oPlan (nI R) (nI C) (bI op) (nI T) ap rr rd sl) :: (sl, aI g 40 slots) :: (th, oThings pl ki el nu (nI m) al wa wo) :: (ki, aI g 40 kinds) :: (el, aI g 40 elders) :: (nu, aI g 40 numbers) :: (wa, aJ g 12 waf) :: (wo, aJ g 12 wof) :: (pg, oGrid (nI R) (nI C) sp.1 sp.2.1 sp.2.2) :: (ga, oGrid sg.1 sg.2.1 sg.2.2.1 sg.2.2.2.1 sg.2.2.2.2) :: (sh, aS g 3 shf) :: c12 :: c13 :: c14 :: c15 :: c16 :: c17 :: c18 :: c19 :: c20 :: c21 :: c22 :: c23 :: c24 :: pool)) K0 0 rfl rfl hin4 tyX4 tyX4_ok nmX4 6 (by decide) fl_RX4_45 rfl (tyX4_ok 6 (by decide)) rfl rfl (Nat.le_of_ble_eq_true rfl) dX4_read_25 rfl ?_
      refine X_aload_n K0 0 dX4_read_28 rfl rfl ?_
      refine X_get K0 0 rfl rfl hin4 6 (by decide) fl_RX4_45 rfl dX4_read_29 ?_
      refine X_if_eq K0 37 dX4_read_32 (by decide) (fun h32 => ?_) (fun h32 => ?_)
      · exact absurd h32 (by decide)
      · refine X_iconst (v := 0) K0 dX4_read_35 (by decide) ?_
        exact hr _ _ _ _ (Or.inr ⟨j, hj_j, rfl, Or.inl ⟨by rw [hab_j]; exact (show ¬ (-11 : Int32) = 0 by decide), rfl, by rw [hab_j]; rfl⟩⟩) dX4_read_36
    · obtain ⟨so_j, nr_j, rows_j, ra_j, rf_j, p1_j, p2_j, hab_j, hso_j, hnr_j, hp1_j, hp2_j, hrw_j⟩ := po_some hPO hj_j hs_j
      refine X_sald (v := .ref a_j) K0 11 rfl (by omega) (by decide) (by rw [hs_j]; rfl) dX4_read_20 ?_
      refine X_iload_n K0 2 dX4_read_21 rfl rfl ?_
      refine X_callS (As := [.ref a_j, .int r]) (rest := [.ref o]) K0 (c_rowFinding g ((o, oMain pl th pg ga sh asked fi) :: (pl, oPlan (nI R) (nI C) (bI op) (nI T) ap rr rd sl) :: (sl, aI g 40 slots) :: (th, oThings pl ki el nu (nI m) al wa wo) :: (ki, aI g 40 kinds) :: (el, aI g 40 elders) :: (nu, aI g 40 numbers) :: (wa, aJ g 12 waf) :: (wo, aJ g 12 wof) :: (pg, oGrid (nI R) (nI C) sp.1 sp.2.1 sp.2.2) :: (ga, oGrid sg.1 sg.2.1 sg.2.2.1 sg.2.2.2.1 sg.2.2.2.2) :: (sh, aS g 3 shf) :: c12 :: c13 :: c14 :: c15 :: c16 :: c17 :: c18 :: c19 :: c20 :: c21 :: c22 :: c23 :: c24 :: pool) (p1_j + 25) (p2_j + 25) a_j so_j ra_j (lk25 hp1_j) nr_j rf_j (lk25 hp2_j) (by omega) rows_j hrw_j r) ms_X4_rowFinding rfl ml_RX4_207 rfl (Nat.le_of_ble_eq_true rfl) (by decide) ⟨Nat.le_of_ble_eq_true rfl, Nat.le_of_ble_eq_true rfl⟩ rfl rfl dX4_read_22 ?_
      intro v w' hr'; obtain ⟨rfl, rfl⟩ := hr'
      show X φ 0 0 ((o, oMain pl th pg ga sh asked fi) :: (pl, oPlan (nI R) (nI C) (bI op) (nI T) ap rr rd sl) :: (sl, aI g 40 slots) :: (th, oThings pl ki el nu (nI m) al wa wo) :: (ki, aI g 40 kinds) :: (el, aI g 40 elders) :: (nu, aI g 40 numbers) :: (wa, aJ g 12 waf) :: (wo, aJ g 12 wof) :: (pg, oGrid (nI R) (nI C) sp.1 sp.2.1 sp.2.2) :: (ga, oGrid sg.1 sg.2.1 sg.2.2.1 sg.2.2.2.1 sg.2.2.2.2) :: (sh, aS g 3 shf) :: c12 :: c13 :: c14 :: c15 :: c16 :: c17 :: c18 :: c19 :: c20 :: c21 :: c22 :: c23 :: c24 :: pool) [(0, .ref o), (1, .int (nI j)), (2, .int r)] 25 [.int (rfD (some (so_j, nr_j, rows_j)) r), .ref o]
      refine X_put (w' := ((o, oMain pl th pg ga sh asked (rfD (some (so_j, nr_j, rows_j)) r)) :: (pl, oPlan (nI R) (nI C) (bI op) (nI T) ap rr rd sl) :: (sl, aI g 40 slots) :: (th, oThings pl ki el nu (nI m) al wa wo) :: (ki, aI g 40 kinds) :: (el, aI g 40 elders) :: (nu, aI g 40 numbers) :: (wa, aJ g 12 waf) :: (wo, aJ g 12 wof) :: (pg, oGrid (nI R) (nI C) sp.1 sp.2.1 sp.2.2) :: (ga, oGrid sg.1 sg.2.1 sg.2.2.1 sg.2.2.2.1 sg.2.2.2.2) :: (sh, aS g 3 shf) :: c12 :: c13 :: c14 :: c15 :: c16 :: c17 :: c18 :: c19 :: c20 :: c21 :: c22 :: c23 :: c24 :: pool)) K0 0 rfl rfl hin4 tyX4 tyX4_ok nmX4 6 (by decide) fl_RX4_45 rfl (tyX4_ok 6 (by decide)) rfl rfl (Nat.le_of_ble_eq_true rfl) dX4_read_25 rfl ?_
      refine X_aload_n K0 0 dX4_read_28 rfl rfl ?_
      refine X_get K0 0 rfl rfl hin4 6 (by decide) fl_RX4_45 rfl dX4_read_29 ?_
      refine X_if_eq K0 37 dX4_read_32 (by decide) (fun h32 => ?_) (fun h32 => ?_)
      · rw [h32]
        obtain ⟨jr, hjr, rfl, hrs⟩ := rf_of h32 hnr_j
        rcases hrw_j jr hjr with ⟨hz, -⟩ | ⟨len, row, b, p3, hrow, hrf, hlen, hp3⟩
        · exact absurd hz hrs
        refine X_aload_n K0 0 dX4_read_37 rfl rfl ?_
        refine X_aload_n K0 0 dX4_read_38 rfl rfl ?_
        refine X_get K0 0 rfl rfl hin4 4 (by decide) fl_RX4_37 rfl dX4_read_39 ?_
        refine X_iload_n K0 1 dX4_read_42 rfl rfl ?_
        refine X_sald (v := .ref a_j) K0 11 rfl (by omega) (by decide) (by rw [hs_j]; rfl) dX4_read_43 ?_
        refine X_get K0 (p1_j + 25) (lk25 hp1_j) rfl hin2 1 (by decide) fl_RX4_187 rfl dX4_read_44 ?_
        refine X_iload_n K0 2 dX4_read_47 rfl rfl ?_
        refine X_rald (v := .ref b) K0 (p2_j + 25) (lk25 hp2_j) (by omega) (by omega) (by rw [hrf]; rfl) dX4_read_48 ?_
        refine X_callV (As := [.ref b]) (rest := []) K0 0 (c_readKinds g o pl sl th ki el nu wa wo pg ga sh R C op T slots ap rr rd m al kinds elders numbers waf wof sp sg shf asked 0 c12 c13 c14 c15 c16 c17 c18 c19 c20 c21 c22 c23 c24 pool hR hC hT hm hKI hDV b p3 len row hlen hp3) mi_X4_readKinds rfl rfl rfl ml_RX4_211 rfl (Nat.le_of_ble_eq_true rfl) (by decide) ⟨Nat.le_of_ble_eq_true rfl, Nat.le_of_ble_eq_true rfl⟩ rfl rfl dX4_read_49 ?_
        intro v' w' hr'; obtain ⟨i, f, m2, al2, kinds2, elders2, nu2, wa2, wo2, rfl, hrk, hk2, he2, hKI2, hDV2, rfl⟩ := hr'
        rw [show (if f = 0 then (0 : Int32) else f) = f by split <;> simp_all]
        show X φ 0 0 ((o, oMain pl th pg ga sh asked f) :: (pl, oPlan (nI R) (nI C) (bI op) (nI T) ap rr rd sl) :: (sl, aI g 40 slots) :: (th, oThings pl ki el nu (nI m2) al2 wa wo) :: (ki, aI g 40 kinds2) :: (el, aI g 40 elders2) :: (nu, aI g 40 nu2) :: (wa, aJ g 12 wa2) :: (wo, aJ g 12 wo2) :: (pg, oGrid (nI R) (nI C) sp.1 sp.2.1 sp.2.2) :: (ga, oGrid sg.1 sg.2.1 sg.2.2.1 sg.2.2.2.1 sg.2.2.2.2) :: (sh, aS g 3 shf) :: c12 :: c13 :: c14 :: c15 :: c16 :: c17 :: c18 :: c19 :: c20 :: c21 :: c22 :: c23 :: c24 :: pool) [(0, .ref o), (1, .int (nI j)), (2, .int (nI jr))] 52 [.int (nI i)]
        exact hr _ _ _ _ (Or.inr ⟨j, hj_j, rfl, Or.inr ⟨so_j, nr_j, rows_j, jr, len, row, hab_j, hjr, rfl, hrow, hlen, i, f, m2, al2, kinds2, elders2, nu2, wa2, wo2, rfl, hrk, hk2, he2, hKI2, hDV2, rfl⟩⟩) dX4_read_52
      · refine X_iconst (v := 0) K0 dX4_read_35 (by decide) ?_
        exact hr _ _ _ _ (Or.inr ⟨j, hj_j, rfl, Or.inl ⟨by rw [hab_j]; exact h32, rfl, by rw [hab_j]⟩⟩) dX4_read_36
  · refine X_aload_n K0 0 dX4_read_7 rfl rfl ?_
    refine X_iconst (v := (-1)) K0 dX4_read_8 (by decide) ?_
    refine X_put (w' := ((o, oMain pl th pg ga sh asked (-1)) :: (pl, oPlan (nI R) (nI C) (bI op) (nI T) ap rr rd sl) :: (sl, aI g 40 slots) :: (th, oThings pl ki el nu (nI m) al wa wo) :: (ki, aI g 40 kinds) :: (el, aI g 40 elders) :: (nu, aI g 40 numbers) :: (wa, aJ g 12 waf) :: (wo, aJ g 12 wof) :: (pg, oGrid (nI R) (nI C) sp.1 sp.2.1 sp.2.2) :: (ga, oGrid sg.1 sg.2.1 sg.2.2.1 sg.2.2.2.1 sg.2.2.2.2) :: (sh, aS g 3 shf) :: c12 :: c13 :: c14 :: c15 :: c16 :: c17 :: c18 :: c19 :: c20 :: c21 :: c22 :: c23 :: c24 :: pool)) K0 0 rfl rfl hin4 tyX4 tyX4_ok nmX4 6 (by decide) fl_RX4_45 rfl (tyX4_ok 6 (by decide)) rfl rfl (Nat.le_of_ble_eq_true rfl) dX4_read_9 rfl ?_
    refine X_iconst (v := (-1)) K0 dX4_read_12 (by decide) ?_
    exact hr _ _ _ _ (Or.inl ⟨bI_0.mp h4, rfl, rfl⟩) dX4_read_13
