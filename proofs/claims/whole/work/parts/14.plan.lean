set_option maxRecDepth 20000 in
set_option maxHeartbeats 400000 in
theorem c_fillI (g : Gx) (w : va_W) (q ar len : Nat) (f : Nat → Int32) (hw : w[q]? = some (ar, aI g len f)) (hlen : len < 2 ^ 31) (x : Int32) : Con g yJ7_fill_53178 cJ7_fill_53178 4 none 0 0 0 0 [.ref ar, .int x] w (Rs none (w.set q (ar, aI g len (fiF f x len)))) := by
  refine Con.ofV (by decide +kernel) (Nat.le_of_ble_eq_true rfl) (fun φ K0 hr => ?_)
  show X φ 0 0 w [(0, .ref ar), (1, .int x)] 0 []
  refine X_iconst (v := 0) K0 dJ7_fill_53178_0 (by decide) ?_
  refine X_istore_n (L' := [(2, .int 0), (0, .ref ar), (1, .int x)]) K0 dJ7_fill_53178_1 rfl (by decide) rfl ?_
  refine X_aload_n K0 1 dJ7_fill_53178_2 rfl rfl ?_
  refine X_alen (v := (nI len)) K0 q 0 hw rfl (by first | rfl | decide) dJ7_fill_53178_3 ?_
  refine X_istore_n (L' := [(3, .int (nI len)), (2, .int 0), (0, .ref ar), (1, .int x)]) K0 dJ7_fill_53178_4 rfl (by decide) rfl ?_
  refine X.sub [2, 3, 1, 0] (L' := [(0, .ref ar), (1, .int x), (2, .int 0), (3, .int (nI len))]) rfl ?_
  have LOOP : ∀ (dd ii : Nat), ii + dd = len → X φ 0 0 (w.set q (ar, aI g len (fiF f x ii))) [(0, .ref ar), (1, .int x), (2, .int (nI ii)), (3, .int (nI len))] 5 [] := by
    intro dd
    induction dd with
    | zero =>
      intro ii hii 
      have hii2 : len = ii := by omega
      subst hii2
      refine X_iload_n K0 2 dJ7_fill_53178_5 rfl rfl ?_
      refine X_iload_n K0 3 dJ7_fill_53178_6 rfl rfl ?_
      refine X_icmp_ge K0 20 dJ7_fill_53178_7 (by decide) (fun h7 => ?_) (fun h7 => ?_)
      · exact hr _ _ _ ⟨rfl, rfl⟩ dJ7_fill_53178_20
      · exact absurd (nI_le (Nat.le_refl _) hlen) h7
    | succ dd ih =>
      intro ii hii 
      have hlt : ii < len := by omega
      refine X_iload_n K0 2 dJ7_fill_53178_5 rfl rfl ?_
      refine X_iload_n K0 3 dJ7_fill_53178_6 rfl rfl ?_
      refine X_icmp_ge K0 20 dJ7_fill_53178_7 (by decide) (fun h7 => ?_) (fun h7 => ?_)
      · exact absurd h7 (nI_ge hlt hlen)
      · refine X_aload_n K0 0 dJ7_fill_53178_10 rfl rfl ?_
        refine X_iload_n K0 2 dJ7_fill_53178_11 rfl rfl ?_
        refine X_iload_n K0 1 dJ7_fill_53178_12 rfl rfl ?_
        refine X_iastN (w' := (w.set q (ar, aI g len (upd (fiF f x ii) ii x)))) K0 q (lw_self _ hw) hlt hlen dJ7_fill_53178_13 (List.set_set ..) ?_
        refine X_iinc (v := ((nI ii) + 1)) (L' := [(2, .int ((nI ii) + 1)), (0, .ref ar), (1, .int x), (3, .int (nI len))]) K0 2 dJ7_fill_53178_14 rfl (by first | rfl | decide) (by decide) rfl ?_
        refine X_goto K0 5 dJ7_fill_53178_17 (by decide) ?_
        refine X.sub [1, 2, 0, 3] (L' := [(0, .ref ar), (1, .int x), (2, .int ((nI ii) + 1)), (3, .int (nI len))]) rfl ?_
        exact X_eq (by rw [fiF_s]) (by rw [nI_succ] <;> rfl) rfl (ih (ii + 1) (by omega))
  exact X_eq (by rw [fiF_0]; exact lw_id hw) rfl rfl (LOOP len 0 (by omega))

set_option maxRecDepth 20000 in
set_option maxHeartbeats 400000 in
theorem c_fillJ (g : Gx) (w : va_W) (q ar len : Nat) (f : Nat → Int64) (hw : w[q]? = some (ar, aJ g len f)) (hlen : len < 2 ^ 31) (x : Int64) : Con g yJ7_fill_d0a16 cJ7_fill_d0a16 5 none 0 0 0 0 [.ref ar, .long x] w (Rs none (w.set q (ar, aJ g len (fiF f x len)))) := by
  refine Con.ofV (by decide +kernel) (Nat.le_of_ble_eq_true rfl) (fun φ K0 hr => ?_)
  show X φ 0 0 w [(0, .ref ar), (1, .long x)] 0 []
  refine X_iconst (v := 0) K0 dJ7_fill_d0a16_0 (by decide) ?_
  refine X_istore_n (L' := [(3, .int 0), (0, .ref ar), (1, .long x)]) K0 dJ7_fill_d0a16_1 rfl (by decide) rfl ?_
  refine X_aload_n K0 1 dJ7_fill_d0a16_2 rfl rfl ?_
  refine X_alen (v := (nI len)) K0 q 1 hw rfl (by first | rfl | decide) dJ7_fill_d0a16_3 ?_
  refine X_istore (L' := [(4, .int (nI len)), (3, .int 0), (0, .ref ar), (1, .long x)]) K0 dJ7_fill_d0a16_4 (by decide) rfl ?_
  refine X.sub [2, 3, 1, 0] (L' := [(0, .ref ar), (1, .long x), (3, .int 0), (4, .int (nI len))]) rfl ?_
  have LOOP : ∀ (dd ii : Nat), ii + dd = len → X φ 0 0 (w.set q (ar, aJ g len (fiF f x ii))) [(0, .ref ar), (1, .long x), (3, .int (nI ii)), (4, .int (nI len))] 6 [] := by
    intro dd
    induction dd with
    | zero =>
      intro ii hii 
      have hii2 : len = ii := by omega
      subst hii2
      refine X_iload_n K0 2 dJ7_fill_d0a16_6 rfl rfl ?_
      refine X_iload K0 3 dJ7_fill_d0a16_7 rfl ?_
      refine X_icmp_ge K0 22 dJ7_fill_d0a16_9 (by decide) (fun h9 => ?_) (fun h9 => ?_)
      · exact hr _ _ _ ⟨rfl, rfl⟩ dJ7_fill_d0a16_22
      · exact absurd (nI_le (Nat.le_refl _) hlen) h9
    | succ dd ih =>
      intro ii hii 
      have hlt : ii < len := by omega
      refine X_iload_n K0 2 dJ7_fill_d0a16_6 rfl rfl ?_
      refine X_iload K0 3 dJ7_fill_d0a16_7 rfl ?_
      refine X_icmp_ge K0 22 dJ7_fill_d0a16_9 (by decide) (fun h9 => ?_) (fun h9 => ?_)
      · exact absurd h9 (nI_ge hlt hlen)
      · refine X_aload_n K0 0 dJ7_fill_d0a16_12 rfl rfl ?_
        refine X_iload_n K0 2 dJ7_fill_d0a16_13 rfl rfl ?_
        refine X_lload_n K0 1 dJ7_fill_d0a16_14 rfl rfl ?_
        refine X_lastN (w' := (w.set q (ar, aJ g len (vp_updL (fiF f x ii) ii x)))) K0 q (lw_self _ hw) hlt hlen dJ7_fill_d0a16_15 (List.set_set ..) ?_
        refine X_iinc (v := ((nI ii) + 1)) (L' := [(3, .int ((nI ii) + 1)), (0, .ref ar), (1, .long x), (4, .int (nI len))]) K0 2 dJ7_fill_d0a16_16 rfl (by first | rfl | decide) (by decide) rfl ?_
        refine X_goto K0 6 dJ7_fill_d0a16_19 (by decide) ?_
        refine X.sub [1, 2, 0, 3] (L' := [(0, .ref ar), (1, .long x), (3, .int ((nI ii) + 1)), (4, .int (nI len))]) rfl ?_
        exact X_eq (by rw [fiF_sL]) (by rw [nI_succ] <;> rfl) rfl (ih (ii + 1) (by omega))
  exact X_eq (by rw [fiF_0]; exact lw_id hw) rfl rfl (LOOP len 0 (by omega))

set_option maxRecDepth 20000 in
set_option maxHeartbeats 400000 in
theorem c_corner (g : Gx) (w : va_W) (q pl : Nat) (r : Int32) (C : Nat) (o t ap rr rd : Int32) (sl : Nat) (hw : w[q]? = some (pl, oPlan r (nI C) o t ap rr rd sl)) (ht wd : Nat) (hht : ht < 2 ^ 31) (hwd : wd < 2 ^ 31) : Con g yX1_corner cX1_corner 6 (some .int) 0 0 0 0 [.ref pl, .int (nI ht), .int (nI wd)] w (Rs (some (.int (coF C wd ht))) w) := by
  refine Con.ofI (by decide +kernel) (Nat.le_of_ble_eq_true rfl) (fun φ K0 hr => ?_)
  show X φ 0 0 w [(0, .ref pl), (1, .int (nI ht)), (2, .int (nI wd))] 0 []
  refine X_iconst (v := 0) K0 dX1_corner_0 (by decide) ?_
  refine X_istore_n (L' := [(3, .int 0), (0, .ref pl), (1, .int (nI ht)), (2, .int (nI wd))]) K0 dX1_corner_1 rfl (by decide) rfl ?_
  refine X_iconst (v := 0) K0 dX1_corner_2 (by decide) ?_
  refine X_istore (L' := [(4, .int 0), (3, .int 0), (0, .ref pl), (1, .int (nI ht)), (2, .int (nI wd))]) K0 dX1_corner_3 (by decide) rfl ?_
  refine X.sub [2, 3, 4, 1, 0] (L' := [(0, .ref pl), (1, .int (nI ht)), (2, .int (nI wd)), (3, .int 0), (4, .int 0)]) rfl ?_
  have LOOP1 : ∀ (dd1 ii1 : Nat), ii1 + dd1 = ht → X φ 0 0 w [(0, .ref pl), (1, .int (nI ht)), (2, .int (nI wd)), (3, .int (coF C wd ii1)), (4, .int (nI ii1))] 5 [] := by
    intro dd1
    induction dd1 with
    | zero =>
      intro ii1 hii1 
      have hii21 : ht = ii1 := by omega
      subst hii21
      refine X_iload K0 4 dX1_corner_5 rfl ?_
      refine X_iload_n K0 1 dX1_corner_7 rfl rfl ?_
      refine X_icmp_ge K0 47 dX1_corner_8 (by decide) (fun h8 => ?_) (fun h8 => ?_)
      · refine X_iload_n K0 3 dX1_corner_47 rfl rfl ?_
        exact hr _ _ _ _ ⟨rfl, rfl⟩ dX1_corner_48
      · exact absurd (nI_le (Nat.le_refl _) (by omega)) h8
    | succ dd1 ih1 =>
      intro ii1 hii1 
      have hlt1 : ii1 < ht := by omega
      refine X_iload K0 4 dX1_corner_5 rfl ?_
      refine X_iload_n K0 1 dX1_corner_7 rfl rfl ?_
      refine X_icmp_ge K0 47 dX1_corner_8 (by decide) (fun h8 => ?_) (fun h8 => ?_)
      · exact absurd h8 (nI_ge hlt1 (by omega))
      · refine X_iconst (v := 0) K0 dX1_corner_11 (by decide) ?_
        refine X_istore (L' := [(5, .int 0), (0, .ref pl), (1, .int (nI ht)), (2, .int (nI wd)), (3, .int (coF C wd ii1)), (4, .int (nI ii1))]) K0 dX1_corner_12 (by decide) rfl ?_
        refine X.sub [1, 2, 3, 4, 5, 0] (L' := [(0, .ref pl), (1, .int (nI ht)), (2, .int (nI wd)), (3, .int (coF C wd ii1)), (4, .int (nI ii1)), (5, .int 0)]) rfl ?_
        have LOOP2 : ∀ (dd2 ii2 : Nat), ii2 + dd2 = wd → X φ 0 0 w [(0, .ref pl), (1, .int (nI ht)), (2, .int (nI wd)), (3, .int (co2 C ii1 (coF C wd ii1) ii2)), (4, .int (nI ii1)), (5, .int (nI ii2))] 14 [] := by
          intro dd2
          induction dd2 with
          | zero =>
            intro ii2 hii2 
            have hii22 : wd = ii2 := by omega
            subst hii22
            refine X_iload K0 5 dX1_corner_14 rfl ?_
            refine X_iload_n K0 2 dX1_corner_16 rfl rfl ?_
            refine X_icmp_ge K0 41 dX1_corner_17 (by decide) (fun h17 => ?_) (fun h17 => ?_)
            · refine X_iinc (v := ((nI ii1) + 1)) (L' := [(4, .int ((nI ii1) + 1)), (0, .ref pl), (1, .int (nI ht)), (2, .int (nI wd)), (3, .int (co2 C ii1 (coF C wd ii1) wd)), (5, .int (nI wd))]) K0 4 dX1_corner_41 rfl (by first | rfl | decide) (by decide) rfl ?_
              refine X_goto K0 5 dX1_corner_44 (by decide) ?_
              refine X.sub [1, 2, 3, 4, 0] (L' := [(0, .ref pl), (1, .int (nI ht)), (2, .int (nI wd)), (3, .int (co2 C ii1 (coF C wd ii1) wd)), (4, .int ((nI ii1) + 1))]) rfl ?_
              exact X_eq rfl (by rw [nI_succ] <;> rfl) rfl (ih1 (ii1 + 1) (by omega))
            · exact absurd (nI_le (Nat.le_refl _) (by omega)) h17
          | succ dd2 ih2 =>
            intro ii2 hii2 
            have hlt2 : ii2 < wd := by omega
            refine X_iload K0 5 dX1_corner_14 rfl ?_
            refine X_iload_n K0 2 dX1_corner_16 rfl rfl ?_
            refine X_icmp_ge K0 41 dX1_corner_17 (by decide) (fun h17 => ?_) (fun h17 => ?_)
            · exact absurd h17 (nI_ge hlt2 (by omega))
            · refine X_iload_n K0 3 dX1_corner_20 rfl rfl ?_
              refine X_iconst (v := 1) K0 dX1_corner_21 (by decide) ?_
              refine X_iload K0 4 dX1_corner_22 rfl ?_
              refine X_aload_n K0 0 dX1_corner_24 rfl rfl ?_
              refine X_get K0 q hw rfl hin1 1 (by decide) fl_RX1_19 rfl dX1_corner_25 ?_
              refine X_imul K0 dX1_corner_28 ?_
              refine X_iload K0 5 dX1_corner_29 rfl ?_
              refine X_iadd K0 dX1_corner_31 ?_
              refine X_ishl K0 dX1_corner_32 ?_
              refine X_ior K0 dX1_corner_33 ?_
              refine X_istore_n (L' := [(3, .int ((co2 C ii1 (coF C wd ii1) ii2) ||| (1 <<< ((((nI ii1) * (nI C)) + (nI ii2)) &&& 31)))), (0, .ref pl), (1, .int (nI ht)), (2, .int (nI wd)), (4, .int (nI ii1)), (5, .int (nI ii2))]) K0 dX1_corner_34 rfl (by decide) rfl ?_
              refine X_iinc (v := ((nI ii2) + 1)) (L' := [(5, .int ((nI ii2) + 1)), (3, .int ((co2 C ii1 (coF C wd ii1) ii2) ||| (1 <<< ((((nI ii1) * (nI C)) + (nI ii2)) &&& 31)))), (0, .ref pl), (1, .int (nI ht)), (2, .int (nI wd)), (4, .int (nI ii1))]) K0 5 dX1_corner_35 rfl (by first | rfl | decide) (by decide) rfl ?_
              refine X_goto K0 14 dX1_corner_38 (by decide) ?_
              refine X.sub [2, 3, 4, 1, 5, 0] (L' := [(0, .ref pl), (1, .int (nI ht)), (2, .int (nI wd)), (3, .int ((co2 C ii1 (coF C wd ii1) ii2) ||| (1 <<< ((((nI ii1) * (nI C)) + (nI ii2)) &&& 31)))), (4, .int (nI ii1)), (5, .int ((nI ii2) + 1))]) rfl ?_
              exact X_eq rfl (by rw [nI_succ] <;> rfl) rfl (ih2 (ii2 + 1) (by omega))
        exact LOOP2 wd 0 (by omega)
  exact LOOP1 ht 0 (by omega)

set_option maxRecDepth 20000 in
set_option maxHeartbeats 400000 in
theorem c_exchanged (g : Gx) (w : va_W) (q pl R C : Nat) (o t ap rr rd : Int32) (sl : Nat) (hw : w[q]? = some (pl, oPlan (nI R) (nI C) o t ap rr rd sl)) (hR : R < 2 ^ 31) (hC : C < 2 ^ 31) (m : Int32) : Con g yX1_exchanged cX1_exchanged 5 (some .int) 1 21 0 0 [.ref pl, .int m] w (Rs (some (.int (exF m R C R))) w) := by
  refine Con.ofI (by decide +kernel) (Nat.le_of_ble_eq_true rfl) (fun φ K0 hr => ?_)
  show X φ 0 0 w [(0, .ref pl), (1, .int m)] 0 []
  refine X_iconst (v := 0) K0 dX1_exchanged_0 (by decide) ?_
  refine X_istore_n (L' := [(2, .int 0), (0, .ref pl), (1, .int m)]) K0 dX1_exchanged_1 rfl (by decide) rfl ?_
  refine X_iconst (v := 0) K0 dX1_exchanged_2 (by decide) ?_
  refine X_istore_n (L' := [(3, .int 0), (2, .int 0), (0, .ref pl), (1, .int m)]) K0 dX1_exchanged_3 rfl (by decide) rfl ?_
  refine X.sub [2, 3, 1, 0] (L' := [(0, .ref pl), (1, .int m), (2, .int 0), (3, .int 0)]) rfl ?_
  have LOOP1 : ∀ (dd1 ii1 : Nat), ii1 + dd1 = R → X φ 0 0 w [(0, .ref pl), (1, .int m), (2, .int (exF m R C ii1)), (3, .int (nI ii1))] 4 [] := by
    intro dd1
    induction dd1 with
    | zero =>
      intro ii1 hii1 
      have hii21 : R = ii1 := by omega
      subst hii21
      refine X_iload_n K0 3 dX1_exchanged_4 rfl rfl ?_
      refine X_aload_n K0 0 dX1_exchanged_5 rfl rfl ?_
      refine X_get K0 q hw rfl hin1 0 (by decide) fl_RX1_15 rfl dX1_exchanged_6 ?_
      refine X_icmp_ge K0 66 dX1_exchanged_9 (by decide) (fun h9 => ?_) (fun h9 => ?_)
      · refine X_iload_n K0 2 dX1_exchanged_66 rfl rfl ?_
        exact hr _ _ _ _ ⟨rfl, rfl⟩ dX1_exchanged_67
      · exact absurd (nI_le (Nat.le_refl _) (by omega)) h9
    | succ dd1 ih1 =>
      intro ii1 hii1 
      have hlt1 : ii1 < R := by omega
      refine X_iload_n K0 3 dX1_exchanged_4 rfl rfl ?_
      refine X_aload_n K0 0 dX1_exchanged_5 rfl rfl ?_
      refine X_get K0 q hw rfl hin1 0 (by decide) fl_RX1_15 rfl dX1_exchanged_6 ?_
      refine X_icmp_ge K0 66 dX1_exchanged_9 (by decide) (fun h9 => ?_) (fun h9 => ?_)
      · exact absurd h9 (nI_ge hlt1 (by omega))
      · refine X_iconst (v := 0) K0 dX1_exchanged_12 (by decide) ?_
        refine X_istore (L' := [(4, .int 0), (0, .ref pl), (1, .int m), (2, .int (exF m R C ii1)), (3, .int (nI ii1))]) K0 dX1_exchanged_13 (by decide) rfl ?_
        refine X.sub [1, 2, 3, 4, 0] (L' := [(0, .ref pl), (1, .int m), (2, .int (exF m R C ii1)), (3, .int (nI ii1)), (4, .int 0)]) rfl ?_
        have LOOP2 : ∀ (dd2 ii2 : Nat), ii2 + dd2 = C → X φ 0 0 w [(0, .ref pl), (1, .int m), (2, .int (ex2 m R C ii1 (exF m R C ii1) ii2)), (3, .int (nI ii1)), (4, .int (nI ii2))] 15 [] := by
          intro dd2
          induction dd2 with
          | zero =>
            intro ii2 hii2 
            have hii22 : C = ii2 := by omega
            subst hii22
            refine X_iload K0 4 dX1_exchanged_15 rfl ?_
            refine X_aload_n K0 0 dX1_exchanged_17 rfl rfl ?_
            refine X_get K0 q hw rfl hin1 1 (by decide) fl_RX1_19 rfl dX1_exchanged_18 ?_
            refine X_icmp_ge K0 60 dX1_exchanged_21 (by decide) (fun h21 => ?_) (fun h21 => ?_)
            · refine X_iinc (v := ((nI ii1) + 1)) (L' := [(3, .int ((nI ii1) + 1)), (0, .ref pl), (1, .int m), (2, .int (ex2 m R C ii1 (exF m R C ii1) C)), (4, .int (nI C))]) K0 3 dX1_exchanged_60 rfl (by first | rfl | decide) (by decide) rfl ?_
              refine X_goto K0 4 dX1_exchanged_63 (by decide) ?_
              refine X.sub [1, 2, 3, 0] (L' := [(0, .ref pl), (1, .int m), (2, .int (ex2 m R C ii1 (exF m R C ii1) C)), (3, .int ((nI ii1) + 1))]) rfl ?_
              exact X_eq rfl (by rw [nI_succ] <;> rfl) rfl (ih1 (ii1 + 1) (by omega))
            · exact absurd (nI_le (Nat.le_refl _) (by omega)) h21
          | succ dd2 ih2 =>
            intro ii2 hii2 
            have hlt2 : ii2 < C := by omega
            refine X_iload K0 4 dX1_exchanged_15 rfl ?_
            refine X_aload_n K0 0 dX1_exchanged_17 rfl rfl ?_
            refine X_get K0 q hw rfl hin1 1 (by decide) fl_RX1_19 rfl dX1_exchanged_18 ?_
            refine X_icmp_ge K0 60 dX1_exchanged_21 (by decide) (fun h21 => ?_) (fun h21 => ?_)
            · exact absurd h21 (nI_ge hlt2 (by omega))
            · refine X_iload_n K0 1 dX1_exchanged_24 rfl rfl ?_
              refine X_iload_n K0 3 dX1_exchanged_25 rfl rfl ?_
              refine X_aload_n K0 0 dX1_exchanged_26 rfl rfl ?_
              refine X_get K0 q hw rfl hin1 1 (by decide) fl_RX1_19 rfl dX1_exchanged_27 ?_
              refine X_imul K0 dX1_exchanged_30 ?_
              refine X_iload K0 4 dX1_exchanged_31 rfl ?_
              refine X_iadd K0 dX1_exchanged_33 ?_
              refine X_callSN (As := [.int m, .int (((nI ii1) * (nI C)) + (nI ii2))]) (rest := []) K0 (c_has g w m (((nI ii1) * (nI C)) + (nI ii2))) ms_X4_has rfl nl_RX1_46 rfl (Nat.le_of_ble_eq_true rfl) (by decide) ⟨Nat.le_of_ble_eq_true rfl, Nat.le_of_ble_eq_true rfl⟩ rfl rfl dX1_exchanged_34 ?_
              intro v w' hr'; obtain ⟨rfl, rfl⟩ := hr'
              show X φ 0 0 w [(0, .ref pl), (1, .int m), (2, .int (ex2 m R C ii1 (exF m R C ii1) ii2)), (3, .int (nI ii1)), (4, .int (nI ii2))] 37 [.int (bI (hasB m (((nI ii1) * (nI C)) + (nI ii2))))]
              refine X_if_eq K0 54 dX1_exchanged_37 (by decide) (fun h37 => ?_) (fun h37 => ?_)
              · refine X_iinc (v := ((nI ii2) + 1)) (L' := [(4, .int ((nI ii2) + 1)), (0, .ref pl), (1, .int m), (2, .int (ex2 m R C ii1 (exF m R C ii1) ii2)), (3, .int (nI ii1))]) K0 4 dX1_exchanged_54 rfl (by first | rfl | decide) (by decide) rfl ?_
                refine X_goto K0 15 dX1_exchanged_57 (by decide) ?_
                refine X.sub [1, 2, 3, 4, 0] (L' := [(0, .ref pl), (1, .int m), (2, .int (ex2 m R C ii1 (exF m R C ii1) ii2)), (3, .int (nI ii1)), (4, .int ((nI ii2) + 1))]) rfl ?_
                exact X_eq rfl (by first | (rw [nI_succ, ex2_n (bI_0.mp h37)]) | (rw [nI_succ, ex2_y (bI_n0.mp h37)])) rfl (ih2 (ii2 + 1) (by omega))
              · refine X_iload_n K0 2 dX1_exchanged_40 rfl rfl ?_
                refine X_iconst (v := 1) K0 dX1_exchanged_41 (by decide) ?_
                refine X_iload K0 4 dX1_exchanged_42 rfl ?_
                refine X_aload_n K0 0 dX1_exchanged_44 rfl rfl ?_
                refine X_get K0 q hw rfl hin1 0 (by decide) fl_RX1_15 rfl dX1_exchanged_45 ?_
                refine X_imul K0 dX1_exchanged_48 ?_
                refine X_iload_n K0 3 dX1_exchanged_49 rfl rfl ?_
                refine X_iadd K0 dX1_exchanged_50 ?_
                refine X_ishl K0 dX1_exchanged_51 ?_
                refine X_ior K0 dX1_exchanged_52 ?_
                refine X_istore_n (L' := [(2, .int ((ex2 m R C ii1 (exF m R C ii1) ii2) ||| (1 <<< ((((nI ii2) * (nI R)) + (nI ii1)) &&& 31)))), (0, .ref pl), (1, .int m), (3, .int (nI ii1)), (4, .int (nI ii2))]) K0 dX1_exchanged_53 rfl (by decide) rfl ?_
                refine X_iinc (v := ((nI ii2) + 1)) (L' := [(4, .int ((nI ii2) + 1)), (2, .int ((ex2 m R C ii1 (exF m R C ii1) ii2) ||| (1 <<< ((((nI ii2) * (nI R)) + (nI ii1)) &&& 31)))), (0, .ref pl), (1, .int m), (3, .int (nI ii1))]) K0 4 dX1_exchanged_54 rfl (by first | rfl | decide) (by decide) rfl ?_
                refine X_goto K0 15 dX1_exchanged_57 (by decide) ?_
                refine X.sub [2, 3, 1, 4, 0] (L' := [(0, .ref pl), (1, .int m), (2, .int ((ex2 m R C ii1 (exF m R C ii1) ii2) ||| (1 <<< ((((nI ii2) * (nI R)) + (nI ii1)) &&& 31)))), (3, .int (nI ii1)), (4, .int ((nI ii2) + 1))]) rfl ?_
                exact X_eq rfl (by first | (rw [nI_succ, ex2_n (bI_0.mp h37)]) | (rw [nI_succ, ex2_y (bI_n0.mp h37)])) rfl (ih2 (ii2 + 1) (by omega))
        exact LOOP2 C 0 (by omega)
  exact LOOP1 R 0 (by omega)

set_option maxRecDepth 20000 in
set_option maxHeartbeats 400000 in
theorem c_placeOf (g : Gx) (w : va_W) (q q2 pl : Nat) (r c o t ap rr rd : Int32) (sl : Nat) (hw : w[q]? = some (pl, oPlan r c o t ap rr rd sl)) (slots : Nat → Int32) (hw2 : w[q2]? = some (sl, aI g 40 slots)) (j : Nat) (hj : j < 40) : Con g yX1_placeOf cX1_placeOf 2 (some .int) 0 0 0 0 [.ref pl, .int (nI j)] w (Rs (some (.int (slots j - slots j / 32 * 32))) w) := by
  refine Con.ofI (by decide +kernel) (Nat.le_of_ble_eq_true rfl) (fun φ K0 hr => ?_)
  show X φ 0 0 w [(0, .ref pl), (1, .int (nI j))] 0 []
  refine X_aload_n K0 0 dX1_placeOf_0 rfl rfl ?_
  refine X_get K0 q hw rfl hin1 7 (by decide) fl_RX1_9 rfl dX1_placeOf_1 ?_
  refine X_iload_n K0 1 dX1_placeOf_4 rfl rfl ?_
  refine X_ialdN K0 q2 hw2 (by omega) (by decide) dX1_placeOf_5 ?_
  refine X_bipush (v := 32) K0 dX1_placeOf_6 (by decide) ?_
  refine X_irem K0 dX1_placeOf_8 (by decide) ?_
  exact hr _ _ _ _ ⟨rfl, rfl⟩ dX1_placeOf_9

set_option maxRecDepth 20000 in
set_option maxHeartbeats 400000 in
theorem c_otherPlaceOf (g : Gx) (w : va_W) (q q2 pl : Nat) (r c : Int32) (op : Bool) (t ap rr rd : Int32) (sl : Nat) (hw : w[q]? = some (pl, oPlan r c (bI op) t ap rr rd sl)) (slots : Nat → Int32) (hw2 : w[q2]? = some (sl, aI g 40 slots)) (j : Nat) (hj : j < 40) : Con g yX1_otherPlaceOf cX1_otherPlaceOf 2 (some .int) 1 21 0 0 [.ref pl, .int (nI j)] w (Rs (some (.int (if op = true then slots j - slots j / 32 * 32 else (slots j - slots j / 32 * 32) + (if slots j < 32 then 1 else c)))) w) := by
  refine Con.ofI (by decide +kernel) (Nat.le_of_ble_eq_true rfl) (fun φ K0 hr => ?_)
  show X φ 0 0 w [(0, .ref pl), (1, .int (nI j))] 0 []
  refine X_aload_n K0 0 dX1_otherPlaceOf_0 rfl rfl ?_
  refine X_get K0 q hw rfl hin1 2 (by decide) fl_RX1_22 rfl dX1_otherPlaceOf_1 ?_
  refine X_if_eq K0 13 dX1_otherPlaceOf_4 (by decide) (fun h4 => ?_) (fun h4 => ?_)
  · refine X_aload_n K0 0 dX1_otherPlaceOf_13 rfl rfl ?_
    refine X_iload_n K0 1 dX1_otherPlaceOf_14 rfl rfl ?_
    refine X_callV (As := [.int (nI j)]) (rest := []) K0 q (c_placeOf g w q q2 pl r c (bI op) t ap rr rd sl hw slots hw2 j (by omega)) mi_X1_placeOf rfl hw rfl ml_RX1_50 rfl (Nat.le_of_ble_eq_true rfl) (by decide) ⟨Nat.le_of_ble_eq_true rfl, Nat.le_of_ble_eq_true rfl⟩ rfl rfl dX1_otherPlaceOf_15 ?_
    intro v w' hr'; obtain ⟨rfl, rfl⟩ := hr'
    show X φ 0 0 w [(0, .ref pl), (1, .int (nI j))] 18 [.int (slots j - slots j / 32 * 32)]
    refine X_aload_n K0 0 dX1_otherPlaceOf_18 rfl rfl ?_
    refine X_get K0 q hw rfl hin1 7 (by decide) fl_RX1_9 rfl dX1_otherPlaceOf_19 ?_
    refine X_iload_n K0 1 dX1_otherPlaceOf_22 rfl rfl ?_
    refine X_ialdN K0 q2 hw2 (by omega) (by decide) dX1_otherPlaceOf_23 ?_
    refine X_bipush (v := 32) K0 dX1_otherPlaceOf_24 (by decide) ?_
    refine X_icmp_ge K0 33 dX1_otherPlaceOf_26 (by decide) (fun h26 => ?_) (fun h26 => ?_)
    · refine X_aload_n K0 0 dX1_otherPlaceOf_33 rfl rfl ?_
      refine X_get K0 q hw rfl hin1 1 (by decide) fl_RX1_19 rfl dX1_otherPlaceOf_34 ?_
      refine X_iadd K0 dX1_otherPlaceOf_37 ?_
      exact hr _ _ _ _ ⟨by first | rw [if_pos (bI_n0.mp h4)] | rw [if_neg (by rw [bI_0.mp h4]; decide), if_neg (Int32.not_lt.mpr h26)] | rw [if_neg (by rw [bI_0.mp h4]; decide), if_pos (Int32.not_le.mp h26)], rfl⟩ dX1_otherPlaceOf_38
    · refine X_iconst (v := 1) K0 dX1_otherPlaceOf_29 (by decide) ?_
      refine X_goto K0 37 dX1_otherPlaceOf_30 (by decide) ?_
      refine X_iadd K0 dX1_otherPlaceOf_37 ?_
      exact hr _ _ _ _ ⟨by first | rw [if_pos (bI_n0.mp h4)] | rw [if_neg (by rw [bI_0.mp h4]; decide), if_neg (Int32.not_lt.mpr h26)] | rw [if_neg (by rw [bI_0.mp h4]; decide), if_pos (Int32.not_le.mp h26)], rfl⟩ dX1_otherPlaceOf_38
  · refine X_aload_n K0 0 dX1_otherPlaceOf_7 rfl rfl ?_
    refine X_iload_n K0 1 dX1_otherPlaceOf_8 rfl rfl ?_
    refine X_callV (As := [.int (nI j)]) (rest := []) K0 q (c_placeOf g w q q2 pl r c (bI op) t ap rr rd sl hw slots hw2 j (by omega)) mi_X1_placeOf rfl hw rfl ml_RX1_50 rfl (Nat.le_of_ble_eq_true rfl) (by decide) ⟨Nat.le_of_ble_eq_true rfl, Nat.le_of_ble_eq_true rfl⟩ rfl rfl dX1_otherPlaceOf_9 ?_
    intro v w' hr'; obtain ⟨rfl, rfl⟩ := hr'
    show X φ 0 0 w [(0, .ref pl), (1, .int (nI j))] 12 [.int (slots j - slots j / 32 * 32)]
    exact hr _ _ _ _ ⟨by first | rw [if_pos (bI_n0.mp h4)] | rw [if_neg (by rw [bI_0.mp h4]; decide), if_neg (Int32.not_lt.mpr h26)] | rw [if_neg (by rw [bI_0.mp h4]; decide), if_pos (Int32.not_le.mp h26)], rfl⟩ dX1_otherPlaceOf_12

set_option maxRecDepth 20000 in
set_option maxHeartbeats 400000 in
theorem c_addThings (g : Gx) (c0 : Nat × va_E) (rest : va_W) (pl sl : Nat) (r c o ap rr rd : Int32) (slots : Nat → Int32) (T : Nat) (hT : T ≤ 40) (m b : Int32) : Con g yX1_addThings cX1_addThings 4 none 1 21 0 0 [.ref pl, .int m, .int b] (c0 :: (pl, oPlan r c o (nI T) ap rr rd sl) :: (sl, aI g 40 slots) :: rest) (Rs none (c0 :: (pl, oPlan r c o (nI (adF m b slots T 25).2) ap rr rd sl) :: (sl, aI g 40 (adF m b slots T 25).1) :: rest)) := by
  refine Con.ofV (by decide +kernel) (Nat.le_of_ble_eq_true rfl) (fun φ K0 hr => ?_)
  show X φ 0 0 (c0 :: (pl, oPlan r c o (nI T) ap rr rd sl) :: (sl, aI g 40 slots) :: rest) [(0, .ref pl), (1, .int m), (2, .int b)] 0 []
  refine X_iconst (v := 0) K0 dX1_addThings_0 (by decide) ?_
  refine X_istore_n (L' := [(3, .int 0), (0, .ref pl), (1, .int m), (2, .int b)]) K0 dX1_addThings_1 rfl (by decide) rfl ?_
  refine X.sub [1, 2, 3, 0] (L' := [(0, .ref pl), (1, .int m), (2, .int b), (3, .int 0)]) rfl ?_
  have LOOP : ∀ (dd ii : Nat), ii + dd = 25 → X φ 0 0 (c0 :: (pl, oPlan r c o (nI (adF m b slots T ii).2) ap rr rd sl) :: (sl, aI g 40 (adF m b slots T ii).1) :: rest) [(0, .ref pl), (1, .int m), (2, .int b), (3, .int (nI ii))] 2 [] := by
    intro dd
    induction dd with
    | zero =>
      intro ii hii 
      have hii2 : 25 = ii := by omega
      subst hii2
      refine X_iload_n K0 3 dX1_addThings_2 rfl rfl ?_
      refine X_bipush (v := 25) K0 dX1_addThings_3 (by decide) ?_
      refine X_icmp_ge K0 53 dX1_addThings_5 (by decide) (fun h5 => ?_) (fun h5 => ?_)
      · exact hr _ _ _ ⟨rfl, rfl⟩ dX1_addThings_53
      · exact absurd (nI_le (Nat.le_refl 25) (by decide)) h5
    | succ dd ih =>
      intro ii hii 
      have hlt : ii < 25 := by omega
      have had := ad_le (mask := m) (base := b) (s0 := slots) hT ii
      refine X_iload_n K0 3 dX1_addThings_2 rfl rfl ?_
      refine X_bipush (v := 25) K0 dX1_addThings_3 (by decide) ?_
      refine X_icmp_ge K0 53 dX1_addThings_5 (by decide) (fun h5 => ?_) (fun h5 => ?_)
      · exact absurd h5 (nI_ge (b := 25) hlt (by decide))
      · refine X_iload_n K0 1 dX1_addThings_8 rfl rfl ?_
        refine X_iload_n K0 3 dX1_addThings_9 rfl rfl ?_
        refine X_callSN (As := [.int m, .int (nI ii)]) (rest := []) K0 (c_has g (c0 :: (pl, oPlan r c o (nI (adF m b slots T ii).2) ap rr rd sl) :: (sl, aI g 40 (adF m b slots T ii).1) :: rest) m (nI ii)) ms_X4_has rfl nl_RX1_46 rfl (Nat.le_of_ble_eq_true rfl) (by decide) ⟨Nat.le_of_ble_eq_true rfl, Nat.le_of_ble_eq_true rfl⟩ rfl rfl dX1_addThings_10 ?_
        intro v w' hr'; obtain ⟨rfl, rfl⟩ := hr'
        show X φ 0 0 (c0 :: (pl, oPlan r c o (nI (adF m b slots T ii).2) ap rr rd sl) :: (sl, aI g 40 (adF m b slots T ii).1) :: rest) [(0, .ref pl), (1, .int m), (2, .int b), (3, .int (nI ii))] 13 [.int (bI (hasB m (nI ii)))]
        refine X_if_eq K0 47 dX1_addThings_13 (by decide) (fun h13 => ?_) (fun h13 => ?_)
        · refine X_iinc (v := ((nI ii) + 1)) (L' := [(3, .int ((nI ii) + 1)), (0, .ref pl), (1, .int m), (2, .int b)]) K0 3 dX1_addThings_47 rfl (by first | rfl | decide) (by decide) rfl ?_
          refine X_goto K0 2 dX1_addThings_50 (by decide) ?_
          refine X.sub [1, 2, 3, 0] (L' := [(0, .ref pl), (1, .int m), (2, .int b), (3, .int ((nI ii) + 1))]) rfl ?_
          exact X_eq (by first | (rw [ad_n (bI_0.mp h13)]) | (rw [ad_o (by have := h22; intro q; exact absurd this (nI_ge (b := 40) q (by decide)))]) | (rw [ad_y (bI_n0.mp h13) (by have := h22; rcases Nat.lt_or_ge (adF m b slots T ii).2 40 with q | q; exact q; exact absurd (nI_le q (by omega)) this)])) (by rw [nI_succ] <;> rfl) rfl (ih (ii + 1) (by omega))
        · refine X_aload_n K0 0 dX1_addThings_16 rfl rfl ?_
          refine X_get K0 1 rfl rfl hin1 3 (by decide) fl_RX1_39 rfl dX1_addThings_17 ?_
          refine X_bipush (v := 40) K0 dX1_addThings_20 (by decide) ?_
          refine X_icmp_ge K0 47 dX1_addThings_22 (by decide) (fun h22 => ?_) (fun h22 => ?_)
          · refine X_iinc (v := ((nI ii) + 1)) (L' := [(3, .int ((nI ii) + 1)), (0, .ref pl), (1, .int m), (2, .int b)]) K0 3 dX1_addThings_47 rfl (by first | rfl | decide) (by decide) rfl ?_
            refine X_goto K0 2 dX1_addThings_50 (by decide) ?_
            refine X.sub [1, 2, 3, 0] (L' := [(0, .ref pl), (1, .int m), (2, .int b), (3, .int ((nI ii) + 1))]) rfl ?_
            exact X_eq (by first | (rw [ad_n (bI_0.mp h13)]) | (rw [ad_o (by have := h22; intro q; exact absurd this (nI_ge (b := 40) q (by decide)))]) | (rw [ad_y (bI_n0.mp h13) (by have := h22; rcases Nat.lt_or_ge (adF m b slots T ii).2 40 with q | q; exact q; exact absurd (nI_le q (by omega)) this)])) (by rw [nI_succ] <;> rfl) rfl (ih (ii + 1) (by omega))
          · refine X_aload_n K0 0 dX1_addThings_25 rfl rfl ?_
            refine X_get K0 1 rfl rfl hin1 7 (by decide) fl_RX1_9 rfl dX1_addThings_26 ?_
            refine X_aload_n K0 0 dX1_addThings_29 rfl rfl ?_
            refine X_get K0 1 rfl rfl hin1 3 (by decide) fl_RX1_39 rfl dX1_addThings_30 ?_
            refine X_iload_n K0 2 dX1_addThings_33 rfl rfl ?_
            refine X_iload_n K0 3 dX1_addThings_34 rfl rfl ?_
            refine X_iadd K0 dX1_addThings_35 ?_
            refine X_iastN (w' := (c0 :: (pl, oPlan r c o (nI (adF m b slots T ii).2) ap rr rd sl) :: (sl, aI g 40 (upd (adF m b slots T ii).1 ((adF m b slots T ii).2) (b + (nI ii)))) :: rest)) K0 2 rfl (by have := h22; rcases Nat.lt_or_ge (adF m b slots T ii).2 40 with q | q; exact q; exact absurd (nI_le q (by omega)) this) (by decide) dX1_addThings_36 rfl ?_
            refine X_aload_n K0 0 dX1_addThings_37 rfl rfl ?_
            refine X_dup K0 dX1_addThings_38 rfl ?_
            refine X_get K0 1 rfl rfl hin1 3 (by decide) fl_RX1_39 rfl dX1_addThings_39 ?_
            refine X_iconst (v := 1) K0 dX1_addThings_42 (by decide) ?_
            refine X_iadd K0 dX1_addThings_43 ?_
            refine X_v (z := (nI ((adF m b slots T ii).2 + 1))) (nI_1 _) ?_
            refine X_put (w' := (c0 :: (pl, oPlan r c o (nI ((adF m b slots T ii).2 + 1)) ap rr rd sl) :: (sl, aI g 40 (upd (adF m b slots T ii).1 ((adF m b slots T ii).2) (b + (nI ii)))) :: rest)) K0 1 rfl rfl hin1 tyX1 tyX1_ok nmX1 3 (by decide) fl_RX1_39 rfl (tyX1_ok 3 (by decide)) rfl rfl (Nat.le_of_ble_eq_true rfl) dX1_addThings_44 rfl ?_
            refine X_iinc (v := ((nI ii) + 1)) (L' := [(3, .int ((nI ii) + 1)), (0, .ref pl), (1, .int m), (2, .int b)]) K0 3 dX1_addThings_47 rfl (by first | rfl | decide) (by decide) rfl ?_
            refine X_goto K0 2 dX1_addThings_50 (by decide) ?_
            refine X.sub [1, 2, 3, 0] (L' := [(0, .ref pl), (1, .int m), (2, .int b), (3, .int ((nI ii) + 1))]) rfl ?_
            exact X_eq (by first | (rw [ad_n (bI_0.mp h13)]) | (rw [ad_o (by have := h22; intro q; exact absurd this (nI_ge (b := 40) q (by decide)))]) | (rw [ad_y (bI_n0.mp h13) (by have := h22; rcases Nat.lt_or_ge (adF m b slots T ii).2 40 with q | q; exact q; exact absurd (nI_le q (by omega)) this)])) (by rw [nI_succ] <;> rfl) rfl (ih (ii + 1) (by omega))
  exact LOOP 25 0 (by omega)

set_option maxRecDepth 20000 in
set_option maxHeartbeats 400000 in
theorem c_lay (g : Gx) (c0 : Nat × va_E) (rest : va_W) (pl sl : Nat) (r c o t ap rr rd : Int32) (slots : Nat → Int32) (R C : Nat) (hR : 1 ≤ R) (hR2 : R ≤ 5) (hC : 1 ≤ C) (hC2 : C ≤ 5) (op : Bool) : Con g yX1_lay cX1_lay 4 none 2 44 0 0 [.ref pl, .int (nI R), .int (nI C), .int (bI op)] (c0 :: (pl, oPlan r c o t ap rr rd sl) :: (sl, aI g 40 slots) :: rest) (Rs none (c0 :: (pl, oPlan (nI R) (nI C) (bI op) (nI (plF R C op slots).2) (coF C C R) (coF C (C - 1) R) (coF C C (R - 1)) sl) :: (sl, aI g 40 (plF R C op slots).1) :: rest)) := by
  refine Con.ofV (by decide +kernel) (Nat.le_of_ble_eq_true rfl) (fun φ K0 hr => ?_)
  show X φ 0 0 (c0 :: (pl, oPlan r c o t ap rr rd sl) :: (sl, aI g 40 slots) :: rest) [(0, .ref pl), (1, .int (nI R)), (2, .int (nI C)), (3, .int (bI op))] 0 []
  refine X_aload_n K0 0 dX1_lay_0 rfl rfl ?_
  refine X_iload_n K0 1 dX1_lay_1 rfl rfl ?_
  refine X_put (w' := (c0 :: (pl, oPlan (nI R) c o t ap rr rd sl) :: (sl, aI g 40 slots) :: rest)) K0 1 rfl rfl hin1 tyX1 tyX1_ok nmX1 0 (by decide) fl_RX1_15 rfl (tyX1_ok 0 (by decide)) rfl rfl (Nat.le_of_ble_eq_true rfl) dX1_lay_2 rfl ?_
  refine X_aload_n K0 0 dX1_lay_5 rfl rfl ?_
  refine X_iload_n K0 2 dX1_lay_6 rfl rfl ?_
  refine X_put (w' := (c0 :: (pl, oPlan (nI R) (nI C) o t ap rr rd sl) :: (sl, aI g 40 slots) :: rest)) K0 1 rfl rfl hin1 tyX1 tyX1_ok nmX1 1 (by decide) fl_RX1_19 rfl (tyX1_ok 1 (by decide)) rfl rfl (Nat.le_of_ble_eq_true rfl) dX1_lay_7 rfl ?_
  refine X_aload_n K0 0 dX1_lay_10 rfl rfl ?_
  refine X_iload_n K0 3 dX1_lay_11 rfl rfl ?_
  refine X_put (w' := (c0 :: (pl, oPlan (nI R) (nI C) (bI op) t ap rr rd sl) :: (sl, aI g 40 slots) :: rest)) K0 1 rfl rfl hin1 tyX1 tyX1_ok nmX1 2 (by decide) fl_RX1_22 rfl (tyX1_ok 2 (by decide)) (by cases op <;> rfl) (by cases op <;> rfl) (Nat.le_of_ble_eq_true rfl) dX1_lay_12 rfl ?_
  refine X_aload_n K0 0 dX1_lay_15 rfl rfl ?_
  refine X_aload_n K0 0 dX1_lay_16 rfl rfl ?_
  refine X_aload_n K0 0 dX1_lay_17 rfl rfl ?_
  refine X_get K0 1 rfl rfl hin1 0 (by decide) fl_RX1_15 rfl dX1_lay_18 ?_
  refine X_aload_n K0 0 dX1_lay_21 rfl rfl ?_
  refine X_get K0 1 rfl rfl hin1 1 (by decide) fl_RX1_19 rfl dX1_lay_22 ?_
  refine X_callV (As := [.int (nI R), .int (nI C)]) (rest := [.ref pl]) K0 1 (c_corner g (c0 :: (pl, oPlan (nI R) (nI C) (bI op) t ap rr rd sl) :: (sl, aI g 40 slots) :: rest) 1 pl (nI R) C (bI op) t ap rr rd sl rfl R C (by omega) (by omega)) mi_X1_corner rfl rfl rfl ml_RX1_26 rfl (Nat.le_of_ble_eq_true rfl) (by decide) ⟨Nat.le_of_ble_eq_true rfl, Nat.le_of_ble_eq_true rfl⟩ rfl rfl dX1_lay_25 ?_
  intro v w' hr'; obtain ⟨rfl, rfl⟩ := hr'
  show X φ 0 0 (c0 :: (pl, oPlan (nI R) (nI C) (bI op) t ap rr rd sl) :: (sl, aI g 40 slots) :: rest) [(0, .ref pl), (1, .int (nI R)), (2, .int (nI C)), (3, .int (bI op))] 28 [.int (coF C C R), .ref pl]
  refine X_put (w' := (c0 :: (pl, oPlan (nI R) (nI C) (bI op) t (coF C C R) rr rd sl) :: (sl, aI g 40 slots) :: rest)) K0 1 rfl rfl hin1 tyX1 tyX1_ok nmX1 4 (by decide) fl_RX1_30 rfl (tyX1_ok 4 (by decide)) rfl rfl (Nat.le_of_ble_eq_true rfl) dX1_lay_28 rfl ?_
  refine X_aload_n K0 0 dX1_lay_31 rfl rfl ?_
  refine X_aload_n K0 0 dX1_lay_32 rfl rfl ?_
  refine X_aload_n K0 0 dX1_lay_33 rfl rfl ?_
  refine X_get K0 1 rfl rfl hin1 0 (by decide) fl_RX1_15 rfl dX1_lay_34 ?_
  refine X_aload_n K0 0 dX1_lay_37 rfl rfl ?_
  refine X_get K0 1 rfl rfl hin1 1 (by decide) fl_RX1_19 rfl dX1_lay_38 ?_
  refine X_iconst (v := 1) K0 dX1_lay_41 (by decide) ?_
  refine X_isub K0 dX1_lay_42 ?_
  refine X_v (z := (nI (C - 1))) (nI_sub1 hC) ?_
  refine X_callV (As := [.int (nI R), .int (nI (C - 1))]) (rest := [.ref pl]) K0 1 (c_corner g (c0 :: (pl, oPlan (nI R) (nI C) (bI op) t (coF C C R) rr rd sl) :: (sl, aI g 40 slots) :: rest) 1 pl (nI R) C (bI op) t (coF C C R) rr rd sl rfl R (C - 1) (by omega) (by omega)) mi_X1_corner rfl rfl rfl ml_RX1_26 rfl (Nat.le_of_ble_eq_true rfl) (by decide) ⟨Nat.le_of_ble_eq_true rfl, Nat.le_of_ble_eq_true rfl⟩ rfl rfl dX1_lay_43 ?_
  intro v w' hr'; obtain ⟨rfl, rfl⟩ := hr'
  show X φ 0 0 (c0 :: (pl, oPlan (nI R) (nI C) (bI op) t (coF C C R) rr rd sl) :: (sl, aI g 40 slots) :: rest) [(0, .ref pl), (1, .int (nI R)), (2, .int (nI C)), (3, .int (bI op))] 46 [.int (coF C (C - 1) R), .ref pl]
  refine X_put (w' := (c0 :: (pl, oPlan (nI R) (nI C) (bI op) t (coF C C R) (coF C (C - 1) R) rd sl) :: (sl, aI g 40 slots) :: rest)) K0 1 rfl rfl hin1 tyX1 tyX1_ok nmX1 5 (by decide) fl_RX1_33 rfl (tyX1_ok 5 (by decide)) rfl rfl (Nat.le_of_ble_eq_true rfl) dX1_lay_46 rfl ?_
  refine X_aload_n K0 0 dX1_lay_49 rfl rfl ?_
  refine X_aload_n K0 0 dX1_lay_50 rfl rfl ?_
  refine X_aload_n K0 0 dX1_lay_51 rfl rfl ?_
  refine X_get K0 1 rfl rfl hin1 0 (by decide) fl_RX1_15 rfl dX1_lay_52 ?_
  refine X_iconst (v := 1) K0 dX1_lay_55 (by decide) ?_
  refine X_isub K0 dX1_lay_56 ?_
  refine X_v (z := (nI (R - 1))) (nI_sub1 hR) ?_
  refine X_aload_n K0 0 dX1_lay_57 rfl rfl ?_
  refine X_get K0 1 rfl rfl hin1 1 (by decide) fl_RX1_19 rfl dX1_lay_58 ?_
  refine X_callV (As := [.int (nI (R - 1)), .int (nI C)]) (rest := [.ref pl]) K0 1 (c_corner g (c0 :: (pl, oPlan (nI R) (nI C) (bI op) t (coF C C R) (coF C (C - 1) R) rd sl) :: (sl, aI g 40 slots) :: rest) 1 pl (nI R) C (bI op) t (coF C C R) (coF C (C - 1) R) rd sl rfl (R - 1) C (by omega) (by omega)) mi_X1_corner rfl rfl rfl ml_RX1_26 rfl (Nat.le_of_ble_eq_true rfl) (by decide) ⟨Nat.le_of_ble_eq_true rfl, Nat.le_of_ble_eq_true rfl⟩ rfl rfl dX1_lay_61 ?_
  intro v w' hr'; obtain ⟨rfl, rfl⟩ := hr'
  show X φ 0 0 (c0 :: (pl, oPlan (nI R) (nI C) (bI op) t (coF C C R) (coF C (C - 1) R) rd sl) :: (sl, aI g 40 slots) :: rest) [(0, .ref pl), (1, .int (nI R)), (2, .int (nI C)), (3, .int (bI op))] 64 [.int (coF C C (R - 1)), .ref pl]
  refine X_put (w' := (c0 :: (pl, oPlan (nI R) (nI C) (bI op) t (coF C C R) (coF C (C - 1) R) (coF C C (R - 1)) sl) :: (sl, aI g 40 slots) :: rest)) K0 1 rfl rfl hin1 tyX1 tyX1_ok nmX1 6 (by decide) fl_RX1_36 rfl (tyX1_ok 6 (by decide)) rfl rfl (Nat.le_of_ble_eq_true rfl) dX1_lay_64 rfl ?_
  refine X_aload_n K0 0 dX1_lay_67 rfl rfl ?_
  refine X_iconst (v := 0) K0 dX1_lay_68 (by decide) ?_
  refine X_v (z := (nI 0)) nI_0.symm ?_
  refine X_put (w' := (c0 :: (pl, oPlan (nI R) (nI C) (bI op) (nI 0) (coF C C R) (coF C (C - 1) R) (coF C C (R - 1)) sl) :: (sl, aI g 40 slots) :: rest)) K0 1 rfl rfl hin1 tyX1 tyX1_ok nmX1 3 (by decide) fl_RX1_39 rfl (tyX1_ok 3 (by decide)) rfl rfl (Nat.le_of_ble_eq_true rfl) dX1_lay_69 rfl ?_
  refine X_aload_n K0 0 dX1_lay_72 rfl rfl ?_
  refine X_get K0 1 rfl rfl hin1 2 (by decide) fl_RX1_22 rfl dX1_lay_73 ?_
  refine X_if_eq K0 91 dX1_lay_76 (by decide) (fun h76 => ?_) (fun h76 => ?_)
  · refine X_aload_n K0 0 dX1_lay_91 rfl rfl ?_
    refine X_aload_n K0 0 dX1_lay_92 rfl rfl ?_
    refine X_get K0 1 rfl rfl hin1 5 (by decide) fl_RX1_33 rfl dX1_lay_93 ?_
    refine X_iconst (v := 0) K0 dX1_lay_96 (by decide) ?_
    refine X_callV (As := [.int (coF C (C - 1) R), .int 0]) (rest := []) K0 1 (c_addThings g c0 rest pl sl (nI R) (nI C) (bI op) (coF C C R) (coF C (C - 1) R) (coF C C (R - 1)) slots 0 (by omega) (coF C (C - 1) R) 0) mi_X1_addThings rfl rfl rfl ml_RX1_42 rfl (Nat.le_of_ble_eq_true rfl) (by decide) ⟨Nat.le_of_ble_eq_true rfl, Nat.le_of_ble_eq_true rfl⟩ rfl rfl dX1_lay_97 ?_
    intro v w' hr'; obtain ⟨rfl, rfl⟩ := hr'
    show X φ 0 0 (c0 :: (pl, oPlan (nI R) (nI C) (bI op) (nI (adF (coF C (C - 1) R) 0 slots 0 25).2) (coF C C R) (coF C (C - 1) R) (coF C C (R - 1)) sl) :: (sl, aI g 40 (adF (coF C (C - 1) R) 0 slots 0 25).1) :: rest) [(0, .ref pl), (1, .int (nI R)), (2, .int (nI C)), (3, .int (bI op))] 100 []
    refine X_aload_n K0 0 dX1_lay_100 rfl rfl ?_
    refine X_aload_n K0 0 dX1_lay_101 rfl rfl ?_
    refine X_get K0 1 rfl rfl hin1 6 (by decide) fl_RX1_36 rfl dX1_lay_102 ?_
    refine X_bipush (v := 32) K0 dX1_lay_105 (by decide) ?_
    refine X_callV (As := [.int (coF C C (R - 1)), .int 32]) (rest := []) K0 1 (c_addThings g c0 rest pl sl (nI R) (nI C) (bI op) (coF C C R) (coF C (C - 1) R) (coF C C (R - 1)) (adF (coF C (C - 1) R) 0 slots 0 25).1 ((adF (coF C (C - 1) R) 0 slots 0 25).2) (ad_le (by omega) 25) (coF C C (R - 1)) 32) mi_X1_addThings rfl rfl rfl ml_RX1_42 rfl (Nat.le_of_ble_eq_true rfl) (by decide) ⟨Nat.le_of_ble_eq_true rfl, Nat.le_of_ble_eq_true rfl⟩ rfl rfl dX1_lay_107 ?_
    intro v w' hr'; obtain ⟨rfl, rfl⟩ := hr'
    show X φ 0 0 (c0 :: (pl, oPlan (nI R) (nI C) (bI op) (nI (adF (coF C C (R - 1)) 32 (adF (coF C (C - 1) R) 0 slots 0 25).1 ((adF (coF C (C - 1) R) 0 slots 0 25).2) 25).2) (coF C C R) (coF C (C - 1) R) (coF C C (R - 1)) sl) :: (sl, aI g 40 (adF (coF C C (R - 1)) 32 (adF (coF C (C - 1) R) 0 slots 0 25).1 ((adF (coF C (C - 1) R) 0 slots 0 25).2) 25).1) :: rest) [(0, .ref pl), (1, .int (nI R)), (2, .int (nI C)), (3, .int (bI op))] 110 []
    exact hr _ _ _ ⟨rfl, by first | rw [plF_t (bI_n0.mp h76)] | rw [plF_f (bI_0.mp h76)]⟩ dX1_lay_110
  · refine X_aload_n K0 0 dX1_lay_79 rfl rfl ?_
    refine X_aload_n K0 0 dX1_lay_80 rfl rfl ?_
    refine X_get K0 1 rfl rfl hin1 4 (by decide) fl_RX1_30 rfl dX1_lay_81 ?_
    refine X_iconst (v := 0) K0 dX1_lay_84 (by decide) ?_
    refine X_callV (As := [.int (coF C C R), .int 0]) (rest := []) K0 1 (c_addThings g c0 rest pl sl (nI R) (nI C) (bI op) (coF C C R) (coF C (C - 1) R) (coF C C (R - 1)) slots 0 (by omega) (coF C C R) 0) mi_X1_addThings rfl rfl rfl ml_RX1_42 rfl (Nat.le_of_ble_eq_true rfl) (by decide) ⟨Nat.le_of_ble_eq_true rfl, Nat.le_of_ble_eq_true rfl⟩ rfl rfl dX1_lay_85 ?_
    intro v w' hr'; obtain ⟨rfl, rfl⟩ := hr'
    show X φ 0 0 (c0 :: (pl, oPlan (nI R) (nI C) (bI op) (nI (adF (coF C C R) 0 slots 0 25).2) (coF C C R) (coF C (C - 1) R) (coF C C (R - 1)) sl) :: (sl, aI g 40 (adF (coF C C R) 0 slots 0 25).1) :: rest) [(0, .ref pl), (1, .int (nI R)), (2, .int (nI C)), (3, .int (bI op))] 88 []
    refine X_goto K0 110 dX1_lay_88 (by decide) ?_
    exact hr _ _ _ ⟨rfl, by first | rw [plF_t (bI_n0.mp h76)] | rw [plF_f (bI_0.mp h76)]⟩ dX1_lay_110
