set_option maxRecDepth 20000 in
set_option maxHeartbeats 400000 in
theorem c_isWithin (g : Gx) (w : va_W) (x a b : Int32) : Con g yX4_isWithin cX4_isWithin 3 (some .boolean) 0 0 0 0 [.int x, .int a, .int b] w (Rs (some (.int (bI (wiB x a b)))) w) := by
  refine Con.ofZ (by decide +kernel) (Nat.le_of_ble_eq_true rfl) (fun φ K0 hr => ?_)
  show X φ 0 0 w [(0, .int x), (1, .int a), (2, .int b)] 0 []
  refine X_iload_n K0 1 dX4_isWithin_0 rfl rfl ?_
  refine X_iload_n K0 0 dX4_isWithin_1 rfl rfl ?_
  refine X_icmp_gt K0 14 dX4_isWithin_2 (by decide) (fun h2 => ?_) (fun h2 => ?_)
  · refine X_iconst (v := 0) K0 dX4_isWithin_14 (by decide) ?_
    exact hr _ _ _ _ ⟨by first | (rw [wi_lo (by assumption)]; rfl) | (rw [wi_hi (by assumption)]; rfl) | (rw [wi_yes (by assumption) (by assumption)]; rfl), rfl⟩ (by first | exact Or.inl rfl | exact Or.inr rfl) dX4_isWithin_15
  · refine X_iload_n K0 0 dX4_isWithin_5 rfl rfl ?_
    refine X_iload_n K0 2 dX4_isWithin_6 rfl rfl ?_
    refine X_icmp_gt K0 14 dX4_isWithin_7 (by decide) (fun h7 => ?_) (fun h7 => ?_)
    · refine X_iconst (v := 0) K0 dX4_isWithin_14 (by decide) ?_
      exact hr _ _ _ _ ⟨by first | (rw [wi_lo (by assumption)]; rfl) | (rw [wi_hi (by assumption)]; rfl) | (rw [wi_yes (by assumption) (by assumption)]; rfl), rfl⟩ (by first | exact Or.inl rfl | exact Or.inr rfl) dX4_isWithin_15
    · refine X_iconst (v := 1) K0 dX4_isWithin_10 (by decide) ?_
      refine X_goto K0 15 dX4_isWithin_11 (by decide) ?_
      exact hr _ _ _ _ ⟨by first | (rw [wi_lo (by assumption)]; rfl) | (rw [wi_hi (by assumption)]; rfl) | (rw [wi_yes (by assumption) (by assumption)]; rfl), rfl⟩ (by first | exact Or.inl rfl | exact Or.inr rfl) dX4_isWithin_15

set_option maxRecDepth 20000 in
set_option maxHeartbeats 400000 in
theorem c_isWay (g : Gx) (w : va_W) (x : Int32) : Con g yX4_isWay cX4_isWay 1 (some .boolean) 1 22 0 0 [.int x] w (Rs (some (.int (bI (wiB x 0 3)))) w) := by
  refine Con.ofZ (by decide +kernel) (Nat.le_of_ble_eq_true rfl) (fun φ K0 hr => ?_)
  show X φ 0 0 w [(0, .int x)] 0 []
  refine X_iload_n K0 0 dX4_isWay_0 rfl rfl ?_
  refine X_iconst (v := 0) K0 dX4_isWay_1 (by decide) ?_
  refine X_iconst (v := 3) K0 dX4_isWay_2 (by decide) ?_
  refine X_callS (As := [.int x, .int 0, .int 3]) (rest := []) K0 (c_isWithin g w x 0 3) ms_X4_isWithin rfl ml_RX4_53 rfl (Nat.le_of_ble_eq_true rfl) (by decide) ⟨Nat.le_of_ble_eq_true rfl, Nat.le_of_ble_eq_true rfl⟩ rfl rfl dX4_isWay_3 ?_
  intro v w' hr'; obtain ⟨rfl, rfl⟩ := hr'
  show X φ 0 0 w [(0, .int x)] 6 [.int (bI (wiB x 0 3))]
  exact hr _ _ _ _ ⟨rfl, rfl⟩ (bI_01 _) dX4_isWay_6

set_option maxRecDepth 20000 in
set_option maxHeartbeats 400000 in
theorem c_has (g : Gx) (w : va_W) (x m : Int32) : Con g yX4_has cX4_has 2 (some .boolean) 0 0 0 0 [.int x, .int m] w (Rs (some (.int (bI (hasB x m)))) w) := by
  refine Con.ofZ (by decide +kernel) (Nat.le_of_ble_eq_true rfl) (fun φ K0 hr => ?_)
  show X φ 0 0 w [(0, .int x), (1, .int m)] 0 []
  refine X_iload_n K0 0 dX4_has_0 rfl rfl ?_
  refine X_iload_n K0 1 dX4_has_1 rfl rfl ?_
  refine X_iushr (v := (ush x m)) K0 dX4_has_2 rfl ?_
  refine X_iconst (v := 1) K0 dX4_has_3 (by decide) ?_
  refine X_iand K0 dX4_has_4 ?_
  refine X_iconst (v := 1) K0 dX4_has_5 (by decide) ?_
  refine X_icmp_ne K0 13 dX4_has_6 (by decide) (fun h6 => ?_) (fun h6 => ?_)
  · refine X_iconst (v := 0) K0 dX4_has_13 (by decide) ?_
    exact hr _ _ _ _ ⟨by simp_all [bI, hasB], rfl⟩ (by first | exact Or.inl rfl | exact Or.inr rfl) dX4_has_14
  · refine X_iconst (v := 1) K0 dX4_has_9 (by decide) ?_
    refine X_goto K0 14 dX4_has_10 (by decide) ?_
    exact hr _ _ _ _ ⟨by simp_all [bI, hasB], rfl⟩ (by first | exact Or.inl rfl | exact Or.inr rfl) dX4_has_14

set_option maxRecDepth 20000 in
set_option maxHeartbeats 400000 in
theorem c_oneIf (g : Gx) (w : va_W) (b : Bool) : Con g yX4_oneIf cX4_oneIf 1 (some .int) 0 0 0 0 [.int (bI b)] w (Rs (some (.int (bI b))) w) := by
  refine Con.ofI (by decide +kernel) (Nat.le_of_ble_eq_true rfl) (fun φ K0 hr => ?_)
  show X φ 0 0 w [(0, .int (bI b))] 0 []
  refine X_iload_n K0 0 dX4_oneIf_0 rfl rfl ?_
  refine X_if_eq K0 8 dX4_oneIf_1 (by decide) (fun h1 => ?_) (fun h1 => ?_)
  · refine X_iconst (v := 0) K0 dX4_oneIf_8 (by decide) ?_
    exact hr _ _ _ _ ⟨by simp_all [bI_0]; try rfl, rfl⟩ dX4_oneIf_9
  · refine X_iconst (v := 1) K0 dX4_oneIf_4 (by decide) ?_
    refine X_goto K0 9 dX4_oneIf_5 (by decide) ?_
    exact hr _ _ _ _ ⟨by simp_all [bI_0]; try rfl, rfl⟩ dX4_oneIf_9

set_option maxRecDepth 20000 in
set_option maxHeartbeats 400000 in
theorem c_bitCount (g : Gx) (w : va_W) (x : Int32) : Con g yJ6_bitCount_0f7a4 cJ6_bitCount_0f7a4 1 (some .int) 0 0 0 0 [.int x] w (Rs (some (.int (bcJ x))) w) := by
  refine Con.ofI (by decide +kernel) (Nat.le_of_ble_eq_true rfl) (fun φ K0 hr => ?_)
  show X φ 0 0 w [(0, .int x)] 0 []
  refine X_iload_n K0 0 dJ6_bitCount_0f7a4_0 rfl rfl ?_
  refine X_iload_n K0 0 dJ6_bitCount_0f7a4_1 rfl rfl ?_
  refine X_iconst (v := 1) K0 dJ6_bitCount_0f7a4_2 (by decide) ?_
  refine X_iushr (v := (ush x 1)) K0 dJ6_bitCount_0f7a4_3 rfl ?_
  refine X_ldcw K0 co_RJ6_265 dJ6_bitCount_0f7a4_4 ?_
  refine X_iand K0 dJ6_bitCount_0f7a4_7 ?_
  refine X_isub K0 dJ6_bitCount_0f7a4_8 ?_
  refine X_istore_n (L' := [(0, .int (x - ((ush x 1) &&& 1431655765)))]) K0 dJ6_bitCount_0f7a4_9 rfl (by decide) rfl ?_
  refine X_iload_n K0 0 dJ6_bitCount_0f7a4_10 rfl rfl ?_
  refine X_ldcw K0 co_RJ6_266 dJ6_bitCount_0f7a4_11 ?_
  refine X_iand K0 dJ6_bitCount_0f7a4_14 ?_
  refine X_iload_n K0 0 dJ6_bitCount_0f7a4_15 rfl rfl ?_
  refine X_iconst (v := 2) K0 dJ6_bitCount_0f7a4_16 (by decide) ?_
  refine X_iushr (v := (ush (x - ((ush x 1) &&& 1431655765)) 2)) K0 dJ6_bitCount_0f7a4_17 rfl ?_
  refine X_ldcw K0 co_RJ6_266 dJ6_bitCount_0f7a4_18 ?_
  refine X_iand K0 dJ6_bitCount_0f7a4_21 ?_
  refine X_iadd K0 dJ6_bitCount_0f7a4_22 ?_
  refine X_istore_n (L' := [(0, .int (((x - ((ush x 1) &&& 1431655765)) &&& 858993459) + ((ush (x - ((ush x 1) &&& 1431655765)) 2) &&& 858993459)))]) K0 dJ6_bitCount_0f7a4_23 rfl (by decide) rfl ?_
  refine X_iload_n K0 0 dJ6_bitCount_0f7a4_24 rfl rfl ?_
  refine X_iload_n K0 0 dJ6_bitCount_0f7a4_25 rfl rfl ?_
  refine X_iconst (v := 4) K0 dJ6_bitCount_0f7a4_26 (by decide) ?_
  refine X_iushr (v := (ush (((x - ((ush x 1) &&& 1431655765)) &&& 858993459) + ((ush (x - ((ush x 1) &&& 1431655765)) 2) &&& 858993459)) 4)) K0 dJ6_bitCount_0f7a4_27 rfl ?_
  refine X_iadd K0 dJ6_bitCount_0f7a4_28 ?_
  refine X_ldcw K0 co_RJ6_267 dJ6_bitCount_0f7a4_29 ?_
  refine X_iand K0 dJ6_bitCount_0f7a4_32 ?_
  refine X_istore_n (L' := [(0, .int (((((x - ((ush x 1) &&& 1431655765)) &&& 858993459) + ((ush (x - ((ush x 1) &&& 1431655765)) 2) &&& 858993459)) + (ush (((x - ((ush x 1) &&& 1431655765)) &&& 858993459) + ((ush (x - ((ush x 1) &&& 1431655765)) 2) &&& 858993459)) 4)) &&& 252645135))]) K0 dJ6_bitCount_0f7a4_33 rfl (by decide) rfl ?_
  refine X_iload_n K0 0 dJ6_bitCount_0f7a4_34 rfl rfl ?_
  refine X_iload_n K0 0 dJ6_bitCount_0f7a4_35 rfl rfl ?_
  refine X_bipush (v := 8) K0 dJ6_bitCount_0f7a4_36 (by decide) ?_
  refine X_iushr (v := (ush (((((x - ((ush x 1) &&& 1431655765)) &&& 858993459) + ((ush (x - ((ush x 1) &&& 1431655765)) 2) &&& 858993459)) + (ush (((x - ((ush x 1) &&& 1431655765)) &&& 858993459) + ((ush (x - ((ush x 1) &&& 1431655765)) 2) &&& 858993459)) 4)) &&& 252645135) 8)) K0 dJ6_bitCount_0f7a4_38 rfl ?_
  refine X_iadd K0 dJ6_bitCount_0f7a4_39 ?_
  refine X_istore_n (L' := [(0, .int ((((((x - ((ush x 1) &&& 1431655765)) &&& 858993459) + ((ush (x - ((ush x 1) &&& 1431655765)) 2) &&& 858993459)) + (ush (((x - ((ush x 1) &&& 1431655765)) &&& 858993459) + ((ush (x - ((ush x 1) &&& 1431655765)) 2) &&& 858993459)) 4)) &&& 252645135) + (ush (((((x - ((ush x 1) &&& 1431655765)) &&& 858993459) + ((ush (x - ((ush x 1) &&& 1431655765)) 2) &&& 858993459)) + (ush (((x - ((ush x 1) &&& 1431655765)) &&& 858993459) + ((ush (x - ((ush x 1) &&& 1431655765)) 2) &&& 858993459)) 4)) &&& 252645135) 8)))]) K0 dJ6_bitCount_0f7a4_40 rfl (by decide) rfl ?_
  refine X_iload_n K0 0 dJ6_bitCount_0f7a4_41 rfl rfl ?_
  refine X_iload_n K0 0 dJ6_bitCount_0f7a4_42 rfl rfl ?_
  refine X_bipush (v := 16) K0 dJ6_bitCount_0f7a4_43 (by decide) ?_
  refine X_iushr (v := (ush ((((((x - ((ush x 1) &&& 1431655765)) &&& 858993459) + ((ush (x - ((ush x 1) &&& 1431655765)) 2) &&& 858993459)) + (ush (((x - ((ush x 1) &&& 1431655765)) &&& 858993459) + ((ush (x - ((ush x 1) &&& 1431655765)) 2) &&& 858993459)) 4)) &&& 252645135) + (ush (((((x - ((ush x 1) &&& 1431655765)) &&& 858993459) + ((ush (x - ((ush x 1) &&& 1431655765)) 2) &&& 858993459)) + (ush (((x - ((ush x 1) &&& 1431655765)) &&& 858993459) + ((ush (x - ((ush x 1) &&& 1431655765)) 2) &&& 858993459)) 4)) &&& 252645135) 8)) 16)) K0 dJ6_bitCount_0f7a4_45 rfl ?_
  refine X_iadd K0 dJ6_bitCount_0f7a4_46 ?_
  refine X_istore_n (L' := [(0, .int (((((((x - ((ush x 1) &&& 1431655765)) &&& 858993459) + ((ush (x - ((ush x 1) &&& 1431655765)) 2) &&& 858993459)) + (ush (((x - ((ush x 1) &&& 1431655765)) &&& 858993459) + ((ush (x - ((ush x 1) &&& 1431655765)) 2) &&& 858993459)) 4)) &&& 252645135) + (ush (((((x - ((ush x 1) &&& 1431655765)) &&& 858993459) + ((ush (x - ((ush x 1) &&& 1431655765)) 2) &&& 858993459)) + (ush (((x - ((ush x 1) &&& 1431655765)) &&& 858993459) + ((ush (x - ((ush x 1) &&& 1431655765)) 2) &&& 858993459)) 4)) &&& 252645135) 8)) + (ush ((((((x - ((ush x 1) &&& 1431655765)) &&& 858993459) + ((ush (x - ((ush x 1) &&& 1431655765)) 2) &&& 858993459)) + (ush (((x - ((ush x 1) &&& 1431655765)) &&& 858993459) + ((ush (x - ((ush x 1) &&& 1431655765)) 2) &&& 858993459)) 4)) &&& 252645135) + (ush (((((x - ((ush x 1) &&& 1431655765)) &&& 858993459) + ((ush (x - ((ush x 1) &&& 1431655765)) 2) &&& 858993459)) + (ush (((x - ((ush x 1) &&& 1431655765)) &&& 858993459) + ((ush (x - ((ush x 1) &&& 1431655765)) 2) &&& 858993459)) 4)) &&& 252645135) 8)) 16)))]) K0 dJ6_bitCount_0f7a4_47 rfl (by decide) rfl ?_
  refine X_iload_n K0 0 dJ6_bitCount_0f7a4_48 rfl rfl ?_
  refine X_bipush (v := 63) K0 dJ6_bitCount_0f7a4_49 (by decide) ?_
  refine X_iand K0 dJ6_bitCount_0f7a4_51 ?_
  exact hr _ _ _ _ ⟨rfl, rfl⟩ dJ6_bitCount_0f7a4_52

set_option maxRecDepth 20000 in
set_option maxHeartbeats 400000 in
theorem c_line (g : Gx) (w : va_W) (a b : Int32) (len : Nat) (hlen : len < 2 ^ 31) : Con g yX0_line cX0_line 5 (some .int) 0 0 0 0 [.int a, .int b, .int (nI len)] w (Rs (some (.int (lineF a b len))) w) := by
  refine Con.ofI (by decide +kernel) (Nat.le_of_ble_eq_true rfl) (fun φ K0 hr => ?_)
  show X φ 0 0 w [(0, .int a), (1, .int b), (2, .int (nI len))] 0 []
  refine X_iconst (v := 0) K0 dX0_line_0 (by decide) ?_
  refine X_istore_n (L' := [(3, .int 0), (0, .int a), (1, .int b), (2, .int (nI len))]) K0 dX0_line_1 rfl (by decide) rfl ?_
  refine X_iconst (v := 0) K0 dX0_line_2 (by decide) ?_
  refine X_istore (L' := [(4, .int 0), (3, .int 0), (0, .int a), (1, .int b), (2, .int (nI len))]) K0 dX0_line_3 (by decide) rfl ?_
  refine X.sub [2, 3, 4, 1, 0] (L' := [(0, .int a), (1, .int b), (2, .int (nI len)), (3, .int 0), (4, .int 0)]) rfl ?_
  have LOOP : ∀ (dd ii : Nat), ii + dd = len → X φ 0 0 w [(0, .int a), (1, .int b), (2, .int (nI len)), (3, .int (lineF a b ii)), (4, .int (nI ii))] 5 [] := by
    intro dd
    induction dd with
    | zero =>
      intro ii hii 
      have hii2 : len = ii := by omega
      subst hii2
      refine X_iload K0 4 dX0_line_5 rfl ?_
      refine X_iload_n K0 2 dX0_line_7 rfl rfl ?_
      refine X_icmp_ge K0 28 dX0_line_8 (by decide) (fun h8 => ?_) (fun h8 => ?_)
      · refine X_iload_n K0 3 dX0_line_28 rfl rfl ?_
        exact hr _ _ _ _ ⟨rfl, rfl⟩ dX0_line_29
      · exact absurd (nI_le (Nat.le_refl _) hlen) h8
    | succ dd ih =>
      intro ii hii 
      have hlt : ii < len := by omega
      refine X_iload K0 4 dX0_line_5 rfl ?_
      refine X_iload_n K0 2 dX0_line_7 rfl rfl ?_
      refine X_icmp_ge K0 28 dX0_line_8 (by decide) (fun h8 => ?_) (fun h8 => ?_)
      · exact absurd h8 (nI_ge hlt hlen)
      · refine X_iload_n K0 3 dX0_line_11 rfl rfl ?_
        refine X_iconst (v := 1) K0 dX0_line_12 (by decide) ?_
        refine X_iload_n K0 0 dX0_line_13 rfl rfl ?_
        refine X_iload K0 4 dX0_line_14 rfl ?_
        refine X_iload_n K0 1 dX0_line_16 rfl rfl ?_
        refine X_imul K0 dX0_line_17 ?_
        refine X_iadd K0 dX0_line_18 ?_
        refine X_ishl K0 dX0_line_19 ?_
        refine X_ior K0 dX0_line_20 ?_
        refine X_istore_n (L' := [(3, .int ((lineF a b ii) ||| (1 <<< ((a + ((nI ii) * b)) &&& 31)))), (0, .int a), (1, .int b), (2, .int (nI len)), (4, .int (nI ii))]) K0 dX0_line_21 rfl (by decide) rfl ?_
        refine X_iinc (v := ((nI ii) + 1)) (L' := [(4, .int ((nI ii) + 1)), (3, .int ((lineF a b ii) ||| (1 <<< ((a + ((nI ii) * b)) &&& 31)))), (0, .int a), (1, .int b), (2, .int (nI len))]) K0 4 dX0_line_22 rfl (by first | rfl | decide) (by decide) rfl ?_
        refine X_goto K0 5 dX0_line_25 (by decide) ?_
        refine X.sub [2, 3, 4, 1, 0] (L' := [(0, .int a), (1, .int b), (2, .int (nI len)), (3, .int ((lineF a b ii) ||| (1 <<< ((a + ((nI ii) * b)) &&& 31)))), (4, .int ((nI ii) + 1))]) rfl ?_
        exact X_eq rfl (by rw [nI_succ] <;> rfl) rfl (ih (ii + 1) (by omega))
  exact LOOP len 0 (by omega)
