set_option maxRecDepth 20000 in
set_option maxHeartbeats 400000 in
theorem c_isWithin (g : Gx) (w : va_W) (x a b : Int32) : Con g yX4_isWithin cX4_isWithin 3 (some .boolean) 0 0 0 0 [.int x, .int a, .int b] w (Rs (some (.int (bI (wiB x a b)))) w) := by
  refine Con.ofZ (by decide +kernel) (Nat.le_of_ble_eq_true rfl) (fun φ C hr => ?_)
  show X φ 0 0 w [(0, .int x), (1, .int a), (2, .int b)] 0 []
  refine X_iload_n C 1 dX4_isWithin_0 rfl rfl ?_
  refine X_iload_n C 0 dX4_isWithin_1 rfl rfl ?_
  refine X_icmp_gt C 14 dX4_isWithin_2 (by decide) (fun h2 => ?_) (fun h2 => ?_)
  · refine X_iconst (v := 0) C dX4_isWithin_14 (by decide) ?_
    exact hr _ _ _ _ ⟨by first | (rw [wi_lo (by assumption)]; rfl) | (rw [wi_hi (by assumption)]; rfl) | (rw [wi_yes (by assumption) (by assumption)]; rfl), rfl⟩ (by first | exact Or.inl rfl | exact Or.inr rfl) dX4_isWithin_15
  · refine X_iload_n C 0 dX4_isWithin_5 rfl rfl ?_
    refine X_iload_n C 2 dX4_isWithin_6 rfl rfl ?_
    refine X_icmp_gt C 14 dX4_isWithin_7 (by decide) (fun h7 => ?_) (fun h7 => ?_)
    · refine X_iconst (v := 0) C dX4_isWithin_14 (by decide) ?_
      exact hr _ _ _ _ ⟨by first | (rw [wi_lo (by assumption)]; rfl) | (rw [wi_hi (by assumption)]; rfl) | (rw [wi_yes (by assumption) (by assumption)]; rfl), rfl⟩ (by first | exact Or.inl rfl | exact Or.inr rfl) dX4_isWithin_15
    · refine X_iconst (v := 1) C dX4_isWithin_10 (by decide) ?_
      refine X_goto C 15 dX4_isWithin_11 (by decide) ?_
      exact hr _ _ _ _ ⟨by first | (rw [wi_lo (by assumption)]; rfl) | (rw [wi_hi (by assumption)]; rfl) | (rw [wi_yes (by assumption) (by assumption)]; rfl), rfl⟩ (by first | exact Or.inl rfl | exact Or.inr rfl) dX4_isWithin_15

set_option maxRecDepth 20000 in
set_option maxHeartbeats 400000 in
theorem c_isWay (g : Gx) (w : va_W) (x : Int32) : Con g yX4_isWay cX4_isWay 1 (some .boolean) 1 22 0 0 [.int x] w (Rs (some (.int (bI (wiB x 0 3)))) w) := by
  refine Con.ofZ (by decide +kernel) (Nat.le_of_ble_eq_true rfl) (fun φ C hr => ?_)
  show X φ 0 0 w [(0, .int x)] 0 []
  refine X_iload_n C 0 dX4_isWay_0 rfl rfl ?_
  refine X_iconst (v := 0) C dX4_isWay_1 (by decide) ?_
  refine X_iconst (v := 3) C dX4_isWay_2 (by decide) ?_
  refine X_callS (As := [.int x, .int 0, .int 3]) (rest := []) C (c_isWithin g w x 0 3) ms_X4_isWithin rfl ml_RX4_53 rfl (by decide) (by decide) ⟨Nat.le_of_ble_eq_true rfl, Nat.le_of_ble_eq_true rfl⟩ rfl rfl dX4_isWay_3 ?_
  intro v w' hr'; obtain ⟨rfl, rfl⟩ := hr'
  show X φ 0 0 w [(0, .int x)] 6 [.int (bI (wiB x 0 3))]
  exact hr _ _ _ _ ⟨rfl, rfl⟩ (bI_01 _) dX4_isWay_6

set_option maxRecDepth 20000 in
set_option maxHeartbeats 400000 in
theorem c_has (g : Gx) (w : va_W) (x m : Int32) : Con g yX4_has cX4_has 2 (some .boolean) 0 0 0 0 [.int x, .int m] w (Rs (some (.int (bI (hasB x m)))) w) := by
  refine Con.ofZ (by decide +kernel) (Nat.le_of_ble_eq_true rfl) (fun φ C hr => ?_)
  show X φ 0 0 w [(0, .int x), (1, .int m)] 0 []
  refine X_iload_n C 0 dX4_has_0 rfl rfl ?_
  refine X_iload_n C 1 dX4_has_1 rfl rfl ?_
  refine X_iushr (v := (ush x m)) C dX4_has_2 rfl ?_
  refine X_iconst (v := 1) C dX4_has_3 (by decide) ?_
  refine X_iand C dX4_has_4 ?_
  refine X_iconst (v := 1) C dX4_has_5 (by decide) ?_
  refine X_icmp_ne C 13 dX4_has_6 (by decide) (fun h6 => ?_) (fun h6 => ?_)
  · refine X_iconst (v := 0) C dX4_has_13 (by decide) ?_
    exact hr _ _ _ _ ⟨by simp_all [bI, hasB], rfl⟩ (by first | exact Or.inl rfl | exact Or.inr rfl) dX4_has_14
  · refine X_iconst (v := 1) C dX4_has_9 (by decide) ?_
    refine X_goto C 14 dX4_has_10 (by decide) ?_
    exact hr _ _ _ _ ⟨by simp_all [bI, hasB], rfl⟩ (by first | exact Or.inl rfl | exact Or.inr rfl) dX4_has_14

set_option maxRecDepth 20000 in
set_option maxHeartbeats 400000 in
theorem c_oneIf (g : Gx) (w : va_W) (b : Bool) : Con g yX4_oneIf cX4_oneIf 1 (some .int) 0 0 0 0 [.int (bI b)] w (Rs (some (.int (bI b))) w) := by
  refine Con.ofI (by decide +kernel) (Nat.le_of_ble_eq_true rfl) (fun φ C hr => ?_)
  show X φ 0 0 w [(0, .int (bI b))] 0 []
  refine X_iload_n C 0 dX4_oneIf_0 rfl rfl ?_
  refine X_if_eq C 8 dX4_oneIf_1 (by decide) (fun h1 => ?_) (fun h1 => ?_)
  · refine X_iconst (v := 0) C dX4_oneIf_8 (by decide) ?_
    exact hr _ _ _ _ ⟨by simp_all [bI_0]; try rfl, rfl⟩ dX4_oneIf_9
  · refine X_iconst (v := 1) C dX4_oneIf_4 (by decide) ?_
    refine X_goto C 9 dX4_oneIf_5 (by decide) ?_
    exact hr _ _ _ _ ⟨by simp_all [bI_0]; try rfl, rfl⟩ dX4_oneIf_9
