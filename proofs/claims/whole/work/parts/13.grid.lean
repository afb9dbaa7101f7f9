set_option maxRecDepth 20000 in
set_option maxHeartbeats 400000 in
theorem c_spread (g : Gx) (w : va_W) (q gr : Nat) (r c ce ri dn : Int32) (hw : w[q]? = some (gr, oGrid r c ce ri dn)) (fr : Int32) : Con g yX0_spread cX0_spread 5 (some .int) 0 0 0 0 [.ref gr, .int fr] w (Rs (some (.int (spF c ce ri dn fr))) w) := by
  refine Con.ofI (by decide +kernel) (Nat.le_of_ble_eq_true rfl) (fun φ K0 hr => ?_)
  show X φ 0 0 w [(0, .ref gr), (1, .int fr)] 0 []
  refine X_iload_n K0 1 dX0_spread_0 rfl rfl ?_
  refine X_aload_n K0 0 dX0_spread_1 rfl rfl ?_
  refine X_get K0 q hw rfl hin0 2 (by decide) fl_RX0_18 rfl dX0_spread_2 ?_
  refine X_iand K0 dX0_spread_5 ?_
  refine X_istore_n (L' := [(2, .int (fr &&& ce)), (0, .ref gr), (1, .int fr)]) K0 dX0_spread_6 rfl (by decide) rfl ?_
  refine X_iconst (v := 0) K0 dX0_spread_7 (by decide) ?_
  refine X_istore_n (L' := [(3, .int 0), (2, .int (fr &&& ce)), (0, .ref gr), (1, .int fr)]) K0 dX0_spread_8 rfl (by decide) rfl ?_
  refine X.sub [2, 1, 0] (L' := [(0, .ref gr), (2, .int (fr &&& ce)), (3, .int 0)]) rfl ?_
  have LOOP : ∀ (dd ii : Nat), ii + dd = 25 → X φ 0 0 w [(0, .ref gr), (2, .int (itF (wdF ri dn c) ii (fr &&& ce))), (3, .int (nI ii))] 9 [] := by
    intro dd
    induction dd with
    | zero =>
      intro ii hii 
      have hii2 : 25 = ii := by omega
      subst hii2
      refine X_iload_n K0 2 dX0_spread_9 rfl rfl ?_
      refine X_bipush (v := 25) K0 dX0_spread_10 (by decide) ?_
      refine X_icmp_ge K0 78 dX0_spread_12 (by decide) (fun h12 => ?_) (fun h12 => ?_)
      · refine X_iload_n K0 1 dX0_spread_78 rfl rfl ?_
        exact hr _ _ _ _ ⟨by first | rfl | (rw [spF, itF_stop (N := 25) (f := wdF ri dn c) (i := ii) (x := fr &&& ce) h63 (by omega)]), rfl⟩ dX0_spread_79
      · exact absurd (nI_le (Nat.le_refl 25) (by decide)) h12
    | succ dd ih =>
      intro ii hii 
      have hlt : ii < 25 := by omega
      refine X_iload_n K0 2 dX0_spread_9 rfl rfl ?_
      refine X_bipush (v := 25) K0 dX0_spread_10 (by decide) ?_
      refine X_icmp_ge K0 78 dX0_spread_12 (by decide) (fun h12 => ?_) (fun h12 => ?_)
      · exact absurd h12 (nI_ge (b := 25) hlt (by decide))
      · refine X_iload_n K0 1 dX0_spread_15 rfl rfl ?_
        refine X_iload_n K0 1 dX0_spread_16 rfl rfl ?_
        refine X_aload_n K0 0 dX0_spread_17 rfl rfl ?_
        refine X_get K0 q hw rfl hin0 3 (by decide) fl_RX0_21 rfl dX0_spread_18 ?_
        refine X_iand K0 dX0_spread_21 ?_
        refine X_iconst (v := 1) K0 dX0_spread_22 (by decide) ?_
        refine X_ishl K0 dX0_spread_23 ?_
        refine X_ior K0 dX0_spread_24 ?_
        refine X_iload_n K0 1 dX0_spread_25 rfl rfl ?_
        refine X_iconst (v := 1) K0 dX0_spread_26 (by decide) ?_
        refine X_iushr (v := (ush (itF (wdF ri dn c) ii (fr &&& ce)) 1)) K0 dX0_spread_27 rfl ?_
        refine X_aload_n K0 0 dX0_spread_28 rfl rfl ?_
        refine X_get K0 q hw rfl hin0 3 (by decide) fl_RX0_21 rfl dX0_spread_29 ?_
        refine X_iand K0 dX0_spread_32 ?_
        refine X_ior K0 dX0_spread_33 ?_
        refine X_iload_n K0 1 dX0_spread_34 rfl rfl ?_
        refine X_aload_n K0 0 dX0_spread_35 rfl rfl ?_
        refine X_get K0 q hw rfl hin0 4 (by decide) fl_RX0_24 rfl dX0_spread_36 ?_
        refine X_iand K0 dX0_spread_39 ?_
        refine X_aload_n K0 0 dX0_spread_40 rfl rfl ?_
        refine X_get K0 q hw rfl hin0 1 (by decide) fl_RX0_15 rfl dX0_spread_41 ?_
        refine X_ishl K0 dX0_spread_44 ?_
        refine X_ior K0 dX0_spread_45 ?_
        refine X_iload_n K0 1 dX0_spread_46 rfl rfl ?_
        refine X_aload_n K0 0 dX0_spread_47 rfl rfl ?_
        refine X_get K0 q hw rfl hin0 1 (by decide) fl_RX0_15 rfl dX0_spread_48 ?_
        refine X_iushr (v := (ush (itF (wdF ri dn c) ii (fr &&& ce)) c)) K0 dX0_spread_51 rfl ?_
        refine X_aload_n K0 0 dX0_spread_52 rfl rfl ?_
        refine X_get K0 q hw rfl hin0 4 (by decide) fl_RX0_24 rfl dX0_spread_53 ?_
        refine X_iand K0 dX0_spread_56 ?_
        refine X_ior K0 dX0_spread_57 ?_
        refine X_istore (L' := [(4, .int (((((itF (wdF ri dn c) ii (fr &&& ce)) ||| (((itF (wdF ri dn c) ii (fr &&& ce)) &&& ri) <<< (1 &&& 31))) ||| ((ush (itF (wdF ri dn c) ii (fr &&& ce)) 1) &&& ri)) ||| (((itF (wdF ri dn c) ii (fr &&& ce)) &&& dn) <<< (c &&& 31))) ||| ((ush (itF (wdF ri dn c) ii (fr &&& ce)) c) &&& dn))), (0, .ref gr), (2, .int (itF (wdF ri dn c) ii (fr &&& ce))), (3, .int (nI ii))]) K0 dX0_spread_58 (by decide) rfl ?_
        refine X_iload K0 0 dX0_spread_60 rfl ?_
        refine X_iload_n K0 2 dX0_spread_62 rfl rfl ?_
        refine X_icmp_ne K0 69 dX0_spread_63 (by decide) (fun h63 => ?_) (fun h63 => ?_)
        · refine X_iload K0 0 dX0_spread_69 rfl ?_
          refine X_istore_n (L' := [(2, .int (((((itF (wdF ri dn c) ii (fr &&& ce)) ||| (((itF (wdF ri dn c) ii (fr &&& ce)) &&& ri) <<< (1 &&& 31))) ||| ((ush (itF (wdF ri dn c) ii (fr &&& ce)) 1) &&& ri)) ||| (((itF (wdF ri dn c) ii (fr &&& ce)) &&& dn) <<< (c &&& 31))) ||| ((ush (itF (wdF ri dn c) ii (fr &&& ce)) c) &&& dn))), (4, .int (((((itF (wdF ri dn c) ii (fr &&& ce)) ||| (((itF (wdF ri dn c) ii (fr &&& ce)) &&& ri) <<< (1 &&& 31))) ||| ((ush (itF (wdF ri dn c) ii (fr &&& ce)) 1) &&& ri)) ||| (((itF (wdF ri dn c) ii (fr &&& ce)) &&& dn) <<< (c &&& 31))) ||| ((ush (itF (wdF ri dn c) ii (fr &&& ce)) c) &&& dn))), (0, .ref gr), (3, .int (nI ii))]) K0 dX0_spread_71 rfl (by decide) rfl ?_
          refine X_iinc (v := ((nI ii) + 1)) (L' := [(3, .int ((nI ii) + 1)), (2, .int (((((itF (wdF ri dn c) ii (fr &&& ce)) ||| (((itF (wdF ri dn c) ii (fr &&& ce)) &&& ri) <<< (1 &&& 31))) ||| ((ush (itF (wdF ri dn c) ii (fr &&& ce)) 1) &&& ri)) ||| (((itF (wdF ri dn c) ii (fr &&& ce)) &&& dn) <<< (c &&& 31))) ||| ((ush (itF (wdF ri dn c) ii (fr &&& ce)) c) &&& dn))), (4, .int (((((itF (wdF ri dn c) ii (fr &&& ce)) ||| (((itF (wdF ri dn c) ii (fr &&& ce)) &&& ri) <<< (1 &&& 31))) ||| ((ush (itF (wdF ri dn c) ii (fr &&& ce)) 1) &&& ri)) ||| (((itF (wdF ri dn c) ii (fr &&& ce)) &&& dn) <<< (c &&& 31))) ||| ((ush (itF (wdF ri dn c) ii (fr &&& ce)) c) &&& dn))), (0, .ref gr)]) K0 3 dX0_spread_72 rfl (by first | rfl | decide) (by decide) rfl ?_
          refine X_goto K0 9 dX0_spread_75 (by decide) ?_
          refine X.sub [3, 1, 0] (L' := [(0, .ref gr), (2, .int (((((itF (wdF ri dn c) ii (fr &&& ce)) ||| (((itF (wdF ri dn c) ii (fr &&& ce)) &&& ri) <<< (1 &&& 31))) ||| ((ush (itF (wdF ri dn c) ii (fr &&& ce)) 1) &&& ri)) ||| (((itF (wdF ri dn c) ii (fr &&& ce)) &&& dn) <<< (c &&& 31))) ||| ((ush (itF (wdF ri dn c) ii (fr &&& ce)) c) &&& dn))), (3, .int ((nI ii) + 1))]) rfl ?_
          exact X_eq rfl (by rw [nI_succ, itF_succ] <;> rfl) rfl (ih (ii + 1) (by omega))
        · refine X_goto K0 78 dX0_spread_66 (by decide) ?_
          refine X_iload_n K0 2 dX0_spread_78 rfl rfl ?_
          exact hr _ _ _ _ ⟨by first | rfl | (rw [spF, itF_stop (N := 25) (f := wdF ri dn c) (i := ii) (x := fr &&& ce) h63 (by omega)]), rfl⟩ dX0_spread_79
  exact LOOP 25 0 (by omega)

set_option maxRecDepth 20000 in
set_option maxHeartbeats 400000 in
theorem c_heapAt (g : Gx) (w : va_W) (q gr : Nat) (r c ce ri dn : Int32) (hw : w[q]? = some (gr, oGrid r c ce ri dn)) (x : Int32) : Con g yX0_heapAt cX0_heapAt 2 (some .int) 1 24 0 0 [.ref gr, .int x] w (Rs (some (.int (haF c ce ri dn x))) w) := by
  refine Con.ofI (by decide +kernel) (Nat.le_of_ble_eq_true rfl) (fun φ K0 hr => ?_)
  show X φ 0 0 w [(0, .ref gr), (1, .int x)] 0 []
  refine X_aload_n K0 0 dX0_heapAt_0 rfl rfl ?_
  refine X_iconst (v := 1) K0 dX0_heapAt_1 (by decide) ?_
  refine X_iload_n K0 1 dX0_heapAt_2 rfl rfl ?_
  refine X_ishl K0 dX0_heapAt_3 ?_
  refine X_callV (As := [.int (1 <<< (x &&& 31))]) (rest := []) K0 q (c_spread g w q gr r c ce ri dn hw (1 <<< (x &&& 31))) mi_X0_spread rfl hw rfl ml_RX0_35 rfl (Nat.le_of_ble_eq_true rfl) (by decide) ⟨Nat.le_of_ble_eq_true rfl, Nat.le_of_ble_eq_true rfl⟩ rfl rfl dX0_heapAt_4 ?_
  intro v w' hr'; obtain ⟨rfl, rfl⟩ := hr'
  show X φ 0 0 w [(0, .ref gr), (1, .int x)] 7 [.int (spF c ce ri dn (1 <<< (x &&& 31)))]
  exact hr _ _ _ _ ⟨rfl, rfl⟩ dX0_heapAt_7

set_option maxRecDepth 20000 in
set_option maxHeartbeats 400000 in
theorem c_heapCount (g : Gx) (w : va_W) (q gr : Nat) (r c ce ri dn : Int32) (hw : w[q]? = some (gr, oGrid r c ce ri dn)) : Con g yX0_heapCount cX0_heapCount 4 (some .int) 2 45 0 0 [.ref gr] w (Rs (some (.int (hcF c ce ri dn 25).2)) w) := by
  refine Con.ofI (by decide +kernel) (Nat.le_of_ble_eq_true rfl) (fun φ K0 hr => ?_)
  show X φ 0 0 w [(0, .ref gr)] 0 []
  refine X_iconst (v := 0) K0 dX0_heapCount_0 (by decide) ?_
  refine X_istore_n (L' := [(1, .int 0), (0, .ref gr)]) K0 dX0_heapCount_1 rfl (by decide) rfl ?_
  refine X_aload_n K0 1 dX0_heapCount_2 rfl rfl ?_
  refine X_get K0 q hw rfl hin0 2 (by decide) fl_RX0_18 rfl dX0_heapCount_3 ?_
  refine X_istore_n (L' := [(2, .int ce), (1, .int 0), (0, .ref gr)]) K0 dX0_heapCount_6 rfl (by decide) rfl ?_
  refine X_iconst (v := 0) K0 dX0_heapCount_7 (by decide) ?_
  refine X_istore_n (L' := [(3, .int 0), (2, .int ce), (1, .int 0), (0, .ref gr)]) K0 dX0_heapCount_8 rfl (by decide) rfl ?_
  refine X.sub [3, 2, 1, 0] (L' := [(0, .ref gr), (1, .int 0), (2, .int ce), (3, .int 0)]) rfl ?_
  have LOOP : ∀ (dd ii : Nat), ii + dd = 25 → X φ 0 0 w [(0, .ref gr), (1, .int (hcF c ce ri dn ii).2), (2, .int (hcF c ce ri dn ii).1), (3, .int (nI ii))] 9 [] := by
    intro dd
    induction dd with
    | zero =>
      intro ii hii 
      have hii2 : 25 = ii := by omega
      subst hii2
      refine X_iload_n K0 3 dX0_heapCount_9 rfl rfl ?_
      refine X_bipush (v := 25) K0 dX0_heapCount_10 (by decide) ?_
      refine X_icmp_ge K0 42 dX0_heapCount_12 (by decide) (fun h12 => ?_) (fun h12 => ?_)
      · refine X_iload_n K0 1 dX0_heapCount_42 rfl rfl ?_
        exact hr _ _ _ _ ⟨rfl, rfl⟩ dX0_heapCount_43
      · exact absurd (nI_le (Nat.le_refl 25) (by decide)) h12
    | succ dd ih =>
      intro ii hii 
      have hlt : ii < 25 := by omega
      refine X_iload_n K0 3 dX0_heapCount_9 rfl rfl ?_
      refine X_bipush (v := 25) K0 dX0_heapCount_10 (by decide) ?_
      refine X_icmp_ge K0 42 dX0_heapCount_12 (by decide) (fun h12 => ?_) (fun h12 => ?_)
      · exact absurd h12 (nI_ge (b := 25) hlt (by decide))
      · refine X_iload_n K0 2 dX0_heapCount_15 rfl rfl ?_
        refine X_iload_n K0 3 dX0_heapCount_16 rfl rfl ?_
        refine X_callSN (As := [.int (hcF c ce ri dn ii).1, .int (nI ii)]) (rest := []) K0 (c_has g w (hcF c ce ri dn ii).1 (nI ii)) ms_X4_has rfl nl_RX0_27 rfl (Nat.le_of_ble_eq_true rfl) (by decide) ⟨Nat.le_of_ble_eq_true rfl, Nat.le_of_ble_eq_true rfl⟩ rfl rfl dX0_heapCount_17 ?_
        intro v w' hr'; obtain ⟨rfl, rfl⟩ := hr'
        show X φ 0 0 w [(0, .ref gr), (1, .int (hcF c ce ri dn ii).2), (2, .int (hcF c ce ri dn ii).1), (3, .int (nI ii))] 20 [.int (bI (hasB (hcF c ce ri dn ii).1 (nI ii)))]
        refine X_if_eq K0 36 dX0_heapCount_20 (by decide) (fun h20 => ?_) (fun h20 => ?_)
        · refine X_iinc (v := ((nI ii) + 1)) (L' := [(3, .int ((nI ii) + 1)), (0, .ref gr), (1, .int (hcF c ce ri dn ii).2), (2, .int (hcF c ce ri dn ii).1)]) K0 3 dX0_heapCount_36 rfl (by first | rfl | decide) (by decide) rfl ?_
          refine X_goto K0 9 dX0_heapCount_39 (by decide) ?_
          refine X.sub [1, 2, 3, 0] (L' := [(0, .ref gr), (1, .int (hcF c ce ri dn ii).2), (2, .int (hcF c ce ri dn ii).1), (3, .int ((nI ii) + 1))]) rfl ?_
          exact X_eq rfl (by first | (rw [nI_succ, hc_n (bI_0.mp h20)]) | (rw [nI_succ, hc_y (bI_n0.mp h20)])) rfl (ih (ii + 1) (by omega))
        · refine X_iload_n K0 2 dX0_heapCount_23 rfl rfl ?_
          refine X_aload_n K0 0 dX0_heapCount_24 rfl rfl ?_
          refine X_iload_n K0 3 dX0_heapCount_25 rfl rfl ?_
          refine X_callV (As := [.int (nI ii)]) (rest := [.int (hcF c ce ri dn ii).1]) K0 q (c_heapAt g w q gr r c ce ri dn hw (nI ii)) mi_X0_heapAt rfl hw rfl ml_RX0_39 rfl (Nat.le_of_ble_eq_true rfl) (by decide) ⟨Nat.le_of_ble_eq_true rfl, Nat.le_of_ble_eq_true rfl⟩ rfl rfl dX0_heapCount_26 ?_
          intro v w' hr'; obtain ⟨rfl, rfl⟩ := hr'
          show X φ 0 0 w [(0, .ref gr), (1, .int (hcF c ce ri dn ii).2), (2, .int (hcF c ce ri dn ii).1), (3, .int (nI ii))] 29 [.int (haF c ce ri dn (nI ii)), .int (hcF c ce ri dn ii).1]
          refine X_iconst (v := (-1)) K0 dX0_heapCount_29 (by decide) ?_
          refine X_ixor K0 dX0_heapCount_30 ?_
          refine X_iand K0 dX0_heapCount_31 ?_
          refine X_istore_n (L' := [(2, .int ((hcF c ce ri dn ii).1 &&& ((haF c ce ri dn (nI ii)) ^^^ (-1)))), (0, .ref gr), (1, .int (hcF c ce ri dn ii).2), (3, .int (nI ii))]) K0 dX0_heapCount_32 rfl (by decide) rfl ?_
          refine X_iinc (v := ((hcF c ce ri dn ii).2 + 1)) (L' := [(1, .int ((hcF c ce ri dn ii).2 + 1)), (2, .int ((hcF c ce ri dn ii).1 &&& ((haF c ce ri dn (nI ii)) ^^^ (-1)))), (0, .ref gr), (3, .int (nI ii))]) K0 2 dX0_heapCount_33 rfl (by first | rfl | decide) (by decide) rfl ?_
          refine X_iinc (v := ((nI ii) + 1)) (L' := [(3, .int ((nI ii) + 1)), (1, .int ((hcF c ce ri dn ii).2 + 1)), (2, .int ((hcF c ce ri dn ii).1 &&& ((haF c ce ri dn (nI ii)) ^^^ (-1)))), (0, .ref gr)]) K0 3 dX0_heapCount_36 rfl (by first | rfl | decide) (by decide) rfl ?_
          refine X_goto K0 9 dX0_heapCount_39 (by decide) ?_
          refine X.sub [3, 1, 2, 0] (L' := [(0, .ref gr), (1, .int ((hcF c ce ri dn ii).2 + 1)), (2, .int ((hcF c ce ri dn ii).1 &&& ((haF c ce ri dn (nI ii)) ^^^ (-1)))), (3, .int ((nI ii) + 1))]) rfl ?_
          exact X_eq rfl (by first | (rw [nI_succ, hc_n (bI_0.mp h20)]) | (rw [nI_succ, hc_y (bI_n0.mp h20)])) rfl (ih (ii + 1) (by omega))
  exact LOOP 25 0 (by omega)

set_option maxRecDepth 20000 in
set_option maxHeartbeats 400000 in
theorem c_greatestHeap (g : Gx) (w : va_W) (q gr : Nat) (r c ce ri dn : Int32) (hw : w[q]? = some (gr, oGrid r c ce ri dn)) : Con g yX0_greatestHeap cX0_greatestHeap 3 (some .int) 2 45 0 0 [.ref gr] w (Rs (some (.int (ghF c ce ri dn 25))) w) := by
  refine Con.ofI (by decide +kernel) (Nat.le_of_ble_eq_true rfl) (fun φ K0 hr => ?_)
  show X φ 0 0 w [(0, .ref gr)] 0 []
  refine X_iconst (v := 0) K0 dX0_greatestHeap_0 (by decide) ?_
  refine X_istore_n (L' := [(1, .int 0), (0, .ref gr)]) K0 dX0_greatestHeap_1 rfl (by decide) rfl ?_
  refine X_iconst (v := 0) K0 dX0_greatestHeap_2 (by decide) ?_
  refine X_istore_n (L' := [(2, .int 0), (1, .int 0), (0, .ref gr)]) K0 dX0_greatestHeap_3 rfl (by decide) rfl ?_
  refine X.sub [2, 1, 0] (L' := [(0, .ref gr), (1, .int 0), (2, .int 0)]) rfl ?_
  have LOOP : ∀ (dd ii : Nat), ii + dd = 25 → X φ 0 0 w [(0, .ref gr), (1, .int (ghF c ce ri dn ii)), (2, .int (nI ii))] 4 [] := by
    intro dd
    induction dd with
    | zero =>
      intro ii hii 
      have hii2 : 25 = ii := by omega
      subst hii2
      refine X_iload_n K0 2 dX0_greatestHeap_4 rfl rfl ?_
      refine X_bipush (v := 25) K0 dX0_greatestHeap_5 (by decide) ?_
      refine X_icmp_ge K0 29 dX0_greatestHeap_7 (by decide) (fun h7 => ?_) (fun h7 => ?_)
      · refine X_iload_n K0 1 dX0_greatestHeap_29 rfl rfl ?_
        exact hr _ _ _ _ ⟨rfl, rfl⟩ dX0_greatestHeap_30
      · exact absurd (nI_le (Nat.le_refl 25) (by decide)) h7
    | succ dd ih =>
      intro ii hii 
      have hlt : ii < 25 := by omega
      refine X_iload_n K0 2 dX0_greatestHeap_4 rfl rfl ?_
      refine X_bipush (v := 25) K0 dX0_greatestHeap_5 (by decide) ?_
      refine X_icmp_ge K0 29 dX0_greatestHeap_7 (by decide) (fun h7 => ?_) (fun h7 => ?_)
      · exact absurd h7 (nI_ge (b := 25) hlt (by decide))
      · refine X_iload_n K0 1 dX0_greatestHeap_10 rfl rfl ?_
        refine X_aload_n K0 0 dX0_greatestHeap_11 rfl rfl ?_
        refine X_iload_n K0 2 dX0_greatestHeap_12 rfl rfl ?_
        refine X_callV (As := [.int (nI ii)]) (rest := [.int (ghF c ce ri dn ii)]) K0 q (c_heapAt g w q gr r c ce ri dn hw (nI ii)) mi_X0_heapAt rfl hw rfl ml_RX0_39 rfl (Nat.le_of_ble_eq_true rfl) (by decide) ⟨Nat.le_of_ble_eq_true rfl, Nat.le_of_ble_eq_true rfl⟩ rfl rfl dX0_greatestHeap_13 ?_
        intro v w' hr'; obtain ⟨rfl, rfl⟩ := hr'
        show X φ 0 0 w [(0, .ref gr), (1, .int (ghF c ce ri dn ii)), (2, .int (nI ii))] 16 [.int (haF c ce ri dn (nI ii)), .int (ghF c ce ri dn ii)]
        refine X_callS (As := [.int (haF c ce ri dn (nI ii))]) (rest := [.int (ghF c ce ri dn ii)]) K0 (c_bitCount g w (haF c ce ri dn (nI ii))) ms_J6_bitCount_0f7a4 rfl ml_RX0_42 rfl (Nat.le_of_ble_eq_true rfl) (by decide) ⟨Nat.le_of_ble_eq_true rfl, Nat.le_of_ble_eq_true rfl⟩ rfl rfl dX0_greatestHeap_16 ?_
        intro v w' hr'; obtain ⟨rfl, rfl⟩ := hr'
        show X φ 0 0 w [(0, .ref gr), (1, .int (ghF c ce ri dn ii)), (2, .int (nI ii))] 19 [.int (bcJ (haF c ce ri dn (nI ii))), .int (ghF c ce ri dn ii)]
        refine X_mmax K0 ml_RX0_47 st_Lib_Math_max_name it_RJ9 co_max (by decide) (Nat.le_of_ble_eq_true rfl) (by decide) (by decide) dX0_greatestHeap_19 ?_
        refine X_istore_n (L' := [(1, .int (if (ghF c ce ri dn ii) < (bcJ (haF c ce ri dn (nI ii))) then (bcJ (haF c ce ri dn (nI ii))) else (ghF c ce ri dn ii))), (0, .ref gr), (2, .int (nI ii))]) K0 dX0_greatestHeap_22 rfl (by decide) rfl ?_
        refine X_iinc (v := ((nI ii) + 1)) (L' := [(2, .int ((nI ii) + 1)), (1, .int (if (ghF c ce ri dn ii) < (bcJ (haF c ce ri dn (nI ii))) then (bcJ (haF c ce ri dn (nI ii))) else (ghF c ce ri dn ii))), (0, .ref gr)]) K0 2 dX0_greatestHeap_23 rfl (by first | rfl | decide) (by decide) rfl ?_
        refine X_goto K0 4 dX0_greatestHeap_26 (by decide) ?_
        refine X.sub [2, 1, 0] (L' := [(0, .ref gr), (1, .int (if (ghF c ce ri dn ii) < (bcJ (haF c ce ri dn (nI ii))) then (bcJ (haF c ce ri dn (nI ii))) else (ghF c ce ri dn ii))), (2, .int ((nI ii) + 1))]) rfl ?_
        exact X_eq rfl (by rw [nI_succ] <;> rfl) rfl (ih (ii + 1) (by omega))
  exact LOOP 25 0 (by omega)

set_option maxRecDepth 20000 in
set_option maxHeartbeats 400000 in
theorem c_isCrossed (g : Gx) (w : va_W) (q gr R C : Nat) (ce ri dn : Int32) (hw : w[q]? = some (gr, oGrid (nI R) (nI C) ce ri dn)) (hR : R < 2 ^ 31) (hC : C < 2 ^ 31) (way : Int32) : Con g yX0_isCrossed cX0_isCrossed 2 (some .boolean) 1 24 0 0 [.ref gr, .int way] w (Rs (some (.int (bI (crF R C ce ri dn way)))) w) := by
  refine Con.ofZ (by decide +kernel) (Nat.le_of_ble_eq_true rfl) (fun φ K0 hr => ?_)
  show X φ 0 0 w [(0, .ref gr), (1, .int way)] 0 []
  refine X_iload_n K0 1 dX0_isCrossed_0 rfl rfl ?_
  refine X_if_ne K0 47 dX0_isCrossed_1 (by decide) (fun h1 => ?_) (fun h1 => ?_)
  · refine X_aload_n K0 0 dX0_isCrossed_47 rfl rfl ?_
    refine X_iconst (v := 0) K0 dX0_isCrossed_48 (by decide) ?_
    refine X_iconst (v := 1) K0 dX0_isCrossed_49 (by decide) ?_
    refine X_aload_n K0 0 dX0_isCrossed_50 rfl rfl ?_
    refine X_get K0 q hw rfl hin0 1 (by decide) fl_RX0_15 rfl dX0_isCrossed_51 ?_
    refine X_callS (As := [.int 0, .int 1, .int (nI C)]) (rest := [.ref gr]) K0 (c_line g w 0 1 C (by omega)) ms_X0_line rfl ml_RX0_31 rfl (Nat.le_of_ble_eq_true rfl) (by decide) ⟨Nat.le_of_ble_eq_true rfl, Nat.le_of_ble_eq_true rfl⟩ rfl rfl dX0_isCrossed_54 ?_
    intro v w' hr'; obtain ⟨rfl, rfl⟩ := hr'
    show X φ 0 0 w [(0, .ref gr), (1, .int way)] 57 [.int (lineF 0 1 C), .ref gr]
    refine X_callV (As := [.int (lineF 0 1 C)]) (rest := []) K0 q (c_spread g w q gr (nI R) (nI C) ce ri dn hw (lineF 0 1 C)) mi_X0_spread rfl hw rfl ml_RX0_35 rfl (Nat.le_of_ble_eq_true rfl) (by decide) ⟨Nat.le_of_ble_eq_true rfl, Nat.le_of_ble_eq_true rfl⟩ rfl rfl dX0_isCrossed_57 ?_
    intro v w' hr'; obtain ⟨rfl, rfl⟩ := hr'
    show X φ 0 0 w [(0, .ref gr), (1, .int way)] 60 [.int (spF (nI C) ce ri dn (lineF 0 1 C))]
    refine X_aload_n K0 0 dX0_isCrossed_60 rfl rfl ?_
    refine X_get K0 q hw rfl hin0 0 (by decide) fl_RX0_9 rfl dX0_isCrossed_61 ?_
    refine X_iconst (v := 1) K0 dX0_isCrossed_64 (by decide) ?_
    refine X_isub K0 dX0_isCrossed_65 ?_
    refine X_aload_n K0 0 dX0_isCrossed_66 rfl rfl ?_
    refine X_get K0 q hw rfl hin0 1 (by decide) fl_RX0_15 rfl dX0_isCrossed_67 ?_
    refine X_imul K0 dX0_isCrossed_70 ?_
    refine X_iconst (v := 1) K0 dX0_isCrossed_71 (by decide) ?_
    refine X_aload_n K0 0 dX0_isCrossed_72 rfl rfl ?_
    refine X_get K0 q hw rfl hin0 1 (by decide) fl_RX0_15 rfl dX0_isCrossed_73 ?_
    refine X_callS (As := [.int (((nI R) - 1) * (nI C)), .int 1, .int (nI C)]) (rest := [.int (spF (nI C) ce ri dn (lineF 0 1 C))]) K0 (c_line g w (((nI R) - 1) * (nI C)) 1 C (by omega)) ms_X0_line rfl ml_RX0_31 rfl (Nat.le_of_ble_eq_true rfl) (by decide) ⟨Nat.le_of_ble_eq_true rfl, Nat.le_of_ble_eq_true rfl⟩ rfl rfl dX0_isCrossed_76 ?_
    intro v w' hr'; obtain ⟨rfl, rfl⟩ := hr'
    show X φ 0 0 w [(0, .ref gr), (1, .int way)] 79 [.int (lineF (((nI R) - 1) * (nI C)) 1 C), .int (spF (nI C) ce ri dn (lineF 0 1 C))]
    refine X_iand K0 dX0_isCrossed_79 ?_
    refine X_if_eq K0 87 dX0_isCrossed_80 (by decide) (fun h80 => ?_) (fun h80 => ?_)
    · refine X_iconst (v := 0) K0 dX0_isCrossed_87 (by decide) ?_
      exact hr _ _ _ _ ⟨by first | (rw [crF, if_pos (by assumption), decide_eq_true (by assumption)]; rfl) | (rw [crF, if_pos (by assumption), decide_eq_false (not_not_intro (by assumption))]; rfl) | (rw [crF, if_neg (by assumption), decide_eq_true (by assumption)]; rfl) | (rw [crF, if_neg (by assumption), decide_eq_false (not_not_intro (by assumption))]; rfl), rfl⟩ (by first | exact Or.inl rfl | exact Or.inr rfl) dX0_isCrossed_88
    · refine X_iconst (v := 1) K0 dX0_isCrossed_83 (by decide) ?_
      refine X_goto K0 88 dX0_isCrossed_84 (by decide) ?_
      exact hr _ _ _ _ ⟨by first | (rw [crF, if_pos (by assumption), decide_eq_true (by assumption)]; rfl) | (rw [crF, if_pos (by assumption), decide_eq_false (not_not_intro (by assumption))]; rfl) | (rw [crF, if_neg (by assumption), decide_eq_true (by assumption)]; rfl) | (rw [crF, if_neg (by assumption), decide_eq_false (not_not_intro (by assumption))]; rfl), rfl⟩ (by first | exact Or.inl rfl | exact Or.inr rfl) dX0_isCrossed_88
  · refine X_aload_n K0 0 dX0_isCrossed_4 rfl rfl ?_
    refine X_iconst (v := 0) K0 dX0_isCrossed_5 (by decide) ?_
    refine X_aload_n K0 0 dX0_isCrossed_6 rfl rfl ?_
    refine X_get K0 q hw rfl hin0 1 (by decide) fl_RX0_15 rfl dX0_isCrossed_7 ?_
    refine X_aload_n K0 0 dX0_isCrossed_10 rfl rfl ?_
    refine X_get K0 q hw rfl hin0 0 (by decide) fl_RX0_9 rfl dX0_isCrossed_11 ?_
    refine X_callS (As := [.int 0, .int (nI C), .int (nI R)]) (rest := [.ref gr]) K0 (c_line g w 0 (nI C) R (by omega)) ms_X0_line rfl ml_RX0_31 rfl (Nat.le_of_ble_eq_true rfl) (by decide) ⟨Nat.le_of_ble_eq_true rfl, Nat.le_of_ble_eq_true rfl⟩ rfl rfl dX0_isCrossed_14 ?_
    intro v w' hr'; obtain ⟨rfl, rfl⟩ := hr'
    show X φ 0 0 w [(0, .ref gr), (1, .int way)] 17 [.int (lineF 0 (nI C) R), .ref gr]
    refine X_callV (As := [.int (lineF 0 (nI C) R)]) (rest := []) K0 q (c_spread g w q gr (nI R) (nI C) ce ri dn hw (lineF 0 (nI C) R)) mi_X0_spread rfl hw rfl ml_RX0_35 rfl (Nat.le_of_ble_eq_true rfl) (by decide) ⟨Nat.le_of_ble_eq_true rfl, Nat.le_of_ble_eq_true rfl⟩ rfl rfl dX0_isCrossed_17 ?_
    intro v w' hr'; obtain ⟨rfl, rfl⟩ := hr'
    show X φ 0 0 w [(0, .ref gr), (1, .int way)] 20 [.int (spF (nI C) ce ri dn (lineF 0 (nI C) R))]
    refine X_aload_n K0 0 dX0_isCrossed_20 rfl rfl ?_
    refine X_get K0 q hw rfl hin0 1 (by decide) fl_RX0_15 rfl dX0_isCrossed_21 ?_
    refine X_iconst (v := 1) K0 dX0_isCrossed_24 (by decide) ?_
    refine X_isub K0 dX0_isCrossed_25 ?_
    refine X_aload_n K0 0 dX0_isCrossed_26 rfl rfl ?_
    refine X_get K0 q hw rfl hin0 1 (by decide) fl_RX0_15 rfl dX0_isCrossed_27 ?_
    refine X_aload_n K0 0 dX0_isCrossed_30 rfl rfl ?_
    refine X_get K0 q hw rfl hin0 0 (by decide) fl_RX0_9 rfl dX0_isCrossed_31 ?_
    refine X_callS (As := [.int ((nI C) - 1), .int (nI C), .int (nI R)]) (rest := [.int (spF (nI C) ce ri dn (lineF 0 (nI C) R))]) K0 (c_line g w ((nI C) - 1) (nI C) R (by omega)) ms_X0_line rfl ml_RX0_31 rfl (Nat.le_of_ble_eq_true rfl) (by decide) ⟨Nat.le_of_ble_eq_true rfl, Nat.le_of_ble_eq_true rfl⟩ rfl rfl dX0_isCrossed_34 ?_
    intro v w' hr'; obtain ⟨rfl, rfl⟩ := hr'
    show X φ 0 0 w [(0, .ref gr), (1, .int way)] 37 [.int (lineF ((nI C) - 1) (nI C) R), .int (spF (nI C) ce ri dn (lineF 0 (nI C) R))]
    refine X_iand K0 dX0_isCrossed_37 ?_
    refine X_if_eq K0 45 dX0_isCrossed_38 (by decide) (fun h38 => ?_) (fun h38 => ?_)
    · refine X_iconst (v := 0) K0 dX0_isCrossed_45 (by decide) ?_
      exact hr _ _ _ _ ⟨by first | (rw [crF, if_pos (by assumption), decide_eq_true (by assumption)]; rfl) | (rw [crF, if_pos (by assumption), decide_eq_false (not_not_intro (by assumption))]; rfl) | (rw [crF, if_neg (by assumption), decide_eq_true (by assumption)]; rfl) | (rw [crF, if_neg (by assumption), decide_eq_false (not_not_intro (by assumption))]; rfl), rfl⟩ (by first | exact Or.inl rfl | exact Or.inr rfl) dX0_isCrossed_46
    · refine X_iconst (v := 1) K0 dX0_isCrossed_41 (by decide) ?_
      refine X_goto K0 46 dX0_isCrossed_42 (by decide) ?_
      exact hr _ _ _ _ ⟨by first | (rw [crF, if_pos (by assumption), decide_eq_true (by assumption)]; rfl) | (rw [crF, if_pos (by assumption), decide_eq_false (not_not_intro (by assumption))]; rfl) | (rw [crF, if_neg (by assumption), decide_eq_true (by assumption)]; rfl) | (rw [crF, if_neg (by assumption), decide_eq_false (not_not_intro (by assumption))]; rfl), rfl⟩ (by first | exact Or.inl rfl | exact Or.inr rfl) dX0_isCrossed_46

set_option maxRecDepth 20000 in
set_option maxHeartbeats 400000 in
theorem c_layBetween (g : Gx) (c0 c1 c2 c3 c4 c5 c6 c7 c8 c9 : Nat × va_E) (rest : va_W) (ga : Nat) (r c ce ri dn : Int32) (gr gc : Nat) (hgr : gr < 100) (hgc : 1 ≤ gc) (hgc2 : gc < 100) (sr sd : Int32) : Con g yX0_layBetween cX0_layBetween 8 none 1 21 0 0 [.ref ga, .int (nI gr), .int (nI gc), .int sr, .int sd] (c0 :: c1 :: c2 :: c3 :: c4 :: c5 :: c6 :: c7 :: c8 :: c9 :: (ga, oGrid r c ce ri dn) :: rest) (Rs none (c0 :: c1 :: c2 :: c3 :: c4 :: c5 :: c6 :: c7 :: c8 :: c9 :: (ga, oGrid (nI (gr + 1)) (nI (gc - 1)) (((1 : Int32) <<< (((nI (gr + 1)) * (nI (gc - 1))) &&& 31)) - 1) (lbR sd gc gr) (lbD sr gc gr)) :: rest)) := by
  refine Con.ofV (by decide +kernel) (Nat.le_of_ble_eq_true rfl) (fun φ K0 hr => ?_)
  show X φ 0 0 (c0 :: c1 :: c2 :: c3 :: c4 :: c5 :: c6 :: c7 :: c8 :: c9 :: (ga, oGrid r c ce ri dn) :: rest) [(0, .ref ga), (1, .int (nI gr)), (2, .int (nI gc)), (3, .int sr), (4, .int sd)] 0 []
  refine X_aload_n K0 0 dX0_layBetween_0 rfl rfl ?_
  refine X_iload_n K0 1 dX0_layBetween_1 rfl rfl ?_
  refine X_iconst (v := 1) K0 dX0_layBetween_2 (by decide) ?_
  refine X_iadd K0 dX0_layBetween_3 ?_
  refine X_v (z := (nI (gr + 1))) (nI_1 gr) ?_
  refine X_put (w' := (c0 :: c1 :: c2 :: c3 :: c4 :: c5 :: c6 :: c7 :: c8 :: c9 :: (ga, oGrid (nI (gr + 1)) c ce ri dn) :: rest)) K0 10 rfl rfl hin0 tyX0 tyX0_ok nmX0 0 (by decide) fl_RX0_9 rfl (tyX0_ok 0 (by decide)) rfl rfl (Nat.le_of_ble_eq_true rfl) dX0_layBetween_4 rfl ?_
  refine X_aload_n K0 0 dX0_layBetween_7 rfl rfl ?_
  refine X_iload_n K0 2 dX0_layBetween_8 rfl rfl ?_
  refine X_iconst (v := 1) K0 dX0_layBetween_9 (by decide) ?_
  refine X_isub K0 dX0_layBetween_10 ?_
  refine X_v (z := (nI (gc - 1))) (nI_sub1 hgc) ?_
  refine X_put (w' := (c0 :: c1 :: c2 :: c3 :: c4 :: c5 :: c6 :: c7 :: c8 :: c9 :: (ga, oGrid (nI (gr + 1)) (nI (gc - 1)) ce ri dn) :: rest)) K0 10 rfl rfl hin0 tyX0 tyX0_ok nmX0 1 (by decide) fl_RX0_15 rfl (tyX0_ok 1 (by decide)) rfl rfl (Nat.le_of_ble_eq_true rfl) dX0_layBetween_11 rfl ?_
  refine X_aload_n K0 0 dX0_layBetween_14 rfl rfl ?_
  refine X_iconst (v := 1) K0 dX0_layBetween_15 (by decide) ?_
  refine X_aload_n K0 0 dX0_layBetween_16 rfl rfl ?_
  refine X_get K0 10 rfl rfl hin0 0 (by decide) fl_RX0_9 rfl dX0_layBetween_17 ?_
  refine X_aload_n K0 0 dX0_layBetween_20 rfl rfl ?_
  refine X_get K0 10 rfl rfl hin0 1 (by decide) fl_RX0_15 rfl dX0_layBetween_21 ?_
  refine X_imul K0 dX0_layBetween_24 ?_
  refine X_ishl K0 dX0_layBetween_25 ?_
  refine X_iconst (v := 1) K0 dX0_layBetween_26 (by decide) ?_
  refine X_isub K0 dX0_layBetween_27 ?_
  refine X_put (w' := (c0 :: c1 :: c2 :: c3 :: c4 :: c5 :: c6 :: c7 :: c8 :: c9 :: (ga, oGrid (nI (gr + 1)) (nI (gc - 1)) ((1 <<< (((nI (gr + 1)) * (nI (gc - 1))) &&& 31)) - 1) ri dn) :: rest)) K0 10 rfl rfl hin0 tyX0 tyX0_ok nmX0 2 (by decide) fl_RX0_18 rfl (tyX0_ok 2 (by decide)) rfl rfl (Nat.le_of_ble_eq_true rfl) dX0_layBetween_28 rfl ?_
  refine X_aload_n K0 0 dX0_layBetween_31 rfl rfl ?_
  refine X_iconst (v := 0) K0 dX0_layBetween_32 (by decide) ?_
  refine X_put (w' := (c0 :: c1 :: c2 :: c3 :: c4 :: c5 :: c6 :: c7 :: c8 :: c9 :: (ga, oGrid (nI (gr + 1)) (nI (gc - 1)) ((1 <<< (((nI (gr + 1)) * (nI (gc - 1))) &&& 31)) - 1) 0 dn) :: rest)) K0 10 rfl rfl hin0 tyX0 tyX0_ok nmX0 3 (by decide) fl_RX0_21 rfl (tyX0_ok 3 (by decide)) rfl rfl (Nat.le_of_ble_eq_true rfl) dX0_layBetween_33 rfl ?_
  refine X_aload_n K0 0 dX0_layBetween_36 rfl rfl ?_
  refine X_iconst (v := 0) K0 dX0_layBetween_37 (by decide) ?_
  refine X_put (w' := (c0 :: c1 :: c2 :: c3 :: c4 :: c5 :: c6 :: c7 :: c8 :: c9 :: (ga, oGrid (nI (gr + 1)) (nI (gc - 1)) ((1 <<< (((nI (gr + 1)) * (nI (gc - 1))) &&& 31)) - 1) 0 0) :: rest)) K0 10 rfl rfl hin0 tyX0 tyX0_ok nmX0 4 (by decide) fl_RX0_24 rfl (tyX0_ok 4 (by decide)) rfl rfl (Nat.le_of_ble_eq_true rfl) dX0_layBetween_38 rfl ?_
  refine X_iconst (v := 0) K0 dX0_layBetween_41 (by decide) ?_
  refine X_istore (L' := [(5, .int 0), (0, .ref ga), (1, .int (nI gr)), (2, .int (nI gc)), (3, .int sr), (4, .int sd)]) K0 dX0_layBetween_42 (by decide) rfl ?_
  refine X.sub [1, 2, 3, 4, 5, 0] (L' := [(0, .ref ga), (1, .int (nI gr)), (2, .int (nI gc)), (3, .int sr), (4, .int sd), (5, .int 0)]) rfl ?_
  have LOOP1 : ∀ (dd1 ii1 : Nat), ii1 + dd1 = gr → X φ 0 0 (c0 :: c1 :: c2 :: c3 :: c4 :: c5 :: c6 :: c7 :: c8 :: c9 :: (ga, oGrid (nI (gr + 1)) (nI (gc - 1)) (((1 : Int32) <<< (((nI (gr + 1)) * (nI (gc - 1))) &&& 31)) - 1) (lbR sd gc ii1) (lbD sr gc ii1)) :: rest) [(0, .ref ga), (1, .int (nI gr)), (2, .int (nI gc)), (3, .int sr), (4, .int sd), (5, .int (nI ii1))] 44 [] := by
    intro dd1
    induction dd1 with
    | zero =>
      intro ii1 hii1 
      have hii21 : gr = ii1 := by omega
      subst hii21
      refine X_iload K0 5 dX0_layBetween_44 rfl ?_
      refine X_iload_n K0 1 dX0_layBetween_46 rfl rfl ?_
      refine X_icmp_ge K0 159 dX0_layBetween_47 (by decide) (fun h47 => ?_) (fun h47 => ?_)
      · exact hr _ _ _ ⟨rfl, rfl⟩ dX0_layBetween_159
      · exact absurd (nI_le (Nat.le_refl _) (by omega)) h47
    | succ dd1 ih1 =>
      intro ii1 hii1 
      have hlt1 : ii1 < gr := by omega
      refine X_iload K0 5 dX0_layBetween_44 rfl ?_
      refine X_iload_n K0 1 dX0_layBetween_46 rfl rfl ?_
      refine X_icmp_ge K0 159 dX0_layBetween_47 (by decide) (fun h47 => ?_) (fun h47 => ?_)
      · exact absurd h47 (nI_ge hlt1 (by omega))
      · refine X_iconst (v := 0) K0 dX0_layBetween_50 (by decide) ?_
        refine X_istore (L' := [(6, .int 0), (0, .ref ga), (1, .int (nI gr)), (2, .int (nI gc)), (3, .int sr), (4, .int sd), (5, .int (nI ii1))]) K0 dX0_layBetween_51 (by decide) rfl ?_
        refine X.sub [1, 2, 3, 4, 5, 6, 0] (L' := [(0, .ref ga), (1, .int (nI gr)), (2, .int (nI gc)), (3, .int sr), (4, .int sd), (5, .int (nI ii1)), (6, .int 0)]) rfl ?_
        have LOOP2 : ∀ (dd2 ii2 : Nat), ii2 + dd2 = (gc - 1) → X φ 0 0 (c0 :: c1 :: c2 :: c3 :: c4 :: c5 :: c6 :: c7 :: c8 :: c9 :: (ga, oGrid (nI (gr + 1)) (nI (gc - 1)) (((1 : Int32) <<< (((nI (gr + 1)) * (nI (gc - 1))) &&& 31)) - 1) (lbRc sd gc ii1 (lbR sd gc ii1) ii2) (lbDc sr gc ii1 (lbD sr gc ii1) ii2)) :: rest) [(0, .ref ga), (1, .int (nI gr)), (2, .int (nI gc)), (3, .int sr), (4, .int sd), (5, .int (nI ii1)), (6, .int (nI ii2))] 53 [] := by
          intro dd2
          induction dd2 with
          | zero =>
            intro ii2 hii2 
            have hii22 : (gc - 1) = ii2 := by omega
            subst hii22
            refine X_iload K0 6 dX0_layBetween_53 rfl ?_
            refine X_aload_n K0 0 dX0_layBetween_55 rfl rfl ?_
            refine X_get K0 10 rfl rfl hin0 1 (by decide) fl_RX0_15 rfl dX0_layBetween_56 ?_
            refine X_icmp_ge K0 153 dX0_layBetween_59 (by decide) (fun h59 => ?_) (fun h59 => ?_)
            · refine X_iinc (v := ((nI ii1) + 1)) (L' := [(5, .int ((nI ii1) + 1)), (0, .ref ga), (1, .int (nI gr)), (2, .int (nI gc)), (3, .int sr), (4, .int sd), (6, .int (nI (gc - 1)))]) K0 5 dX0_layBetween_153 rfl (by first | rfl | decide) (by decide) rfl ?_
              refine X_goto K0 44 dX0_layBetween_156 (by decide) ?_
              refine X.sub [1, 2, 3, 4, 5, 0] (L' := [(0, .ref ga), (1, .int (nI gr)), (2, .int (nI gc)), (3, .int sr), (4, .int sd), (5, .int ((nI ii1) + 1))]) rfl ?_
              exact X_eq rfl (by rw [nI_succ] <;> rfl) rfl (ih1 (ii1 + 1) (by omega))
            · exact absurd (nI_le (Nat.le_refl _) (by omega)) h59
          | succ dd2 ih2 =>
            intro ii2 hii2 
            have hlt2 : ii2 < (gc - 1) := by omega
            refine X_iload K0 6 dX0_layBetween_53 rfl ?_
            refine X_aload_n K0 0 dX0_layBetween_55 rfl rfl ?_
            refine X_get K0 10 rfl rfl hin0 1 (by decide) fl_RX0_15 rfl dX0_layBetween_56 ?_
            refine X_icmp_ge K0 153 dX0_layBetween_59 (by decide) (fun h59 => ?_) (fun h59 => ?_)
            · exact absurd h59 (nI_ge hlt2 (by omega))
            · refine X_iload K0 5 dX0_layBetween_62 rfl ?_
              refine X_iload_n K0 2 dX0_layBetween_64 rfl rfl ?_
              refine X_imul K0 dX0_layBetween_65 ?_
              refine X_iload K0 6 dX0_layBetween_66 rfl ?_
              refine X_iadd K0 dX0_layBetween_68 ?_
              refine X_istore (L' := [(7, .int (((nI ii1) * (nI gc)) + (nI ii2))), (0, .ref ga), (1, .int (nI gr)), (2, .int (nI gc)), (3, .int sr), (4, .int sd), (5, .int (nI ii1)), (6, .int (nI ii2))]) K0 dX0_layBetween_69 (by decide) rfl ?_
              refine X_iload_n K0 4 dX0_layBetween_71 rfl rfl ?_
              refine X_iload K0 0 dX0_layBetween_72 rfl ?_
              refine X_callSN (As := [.int sr, .int (((nI ii1) * (nI gc)) + (nI ii2))]) (rest := []) K0 (c_has g (c0 :: c1 :: c2 :: c3 :: c4 :: c5 :: c6 :: c7 :: c8 :: c9 :: (ga, oGrid (nI (gr + 1)) (nI (gc - 1)) (((1 : Int32) <<< (((nI (gr + 1)) * (nI (gc - 1))) &&& 31)) - 1) (lbRc sd gc ii1 (lbR sd gc ii1) ii2) (lbDc sr gc ii1 (lbD sr gc ii1) ii2)) :: rest) sr (((nI ii1) * (nI gc)) + (nI ii2))) ms_X4_has rfl nl_RX0_27 rfl (Nat.le_of_ble_eq_true rfl) (by decide) ⟨Nat.le_of_ble_eq_true rfl, Nat.le_of_ble_eq_true rfl⟩ rfl rfl dX0_layBetween_74 ?_
              intro v w' hr'; obtain ⟨rfl, rfl⟩ := hr'
              show X φ 0 0 (c0 :: c1 :: c2 :: c3 :: c4 :: c5 :: c6 :: c7 :: c8 :: c9 :: (ga, oGrid (nI (gr + 1)) (nI (gc - 1)) (((1 : Int32) <<< (((nI (gr + 1)) * (nI (gc - 1))) &&& 31)) - 1) (lbRc sd gc ii1 (lbR sd gc ii1) ii2) (lbDc sr gc ii1 (lbD sr gc ii1) ii2)) :: rest) [(7, .int (((nI ii1) * (nI gc)) + (nI ii2))), (0, .ref ga), (1, .int (nI gr)), (2, .int (nI gc)), (3, .int sr), (4, .int sd), (5, .int (nI ii1)), (6, .int (nI ii2))] 77 [.int (bI (hasB sr (((nI ii1) * (nI gc)) + (nI ii2))))]
              refine X_if_eq K0 101 dX0_layBetween_77 (by decide) (fun h77 => ?_) (fun h77 => ?_)
              · refine X_iload K0 7 dX0_layBetween_101 rfl ?_
                refine X_aload_n K0 1 dX0_layBetween_103 rfl rfl ?_
                refine X_get K0 10 rfl rfl hin0 1 (by decide) fl_RX0_15 rfl dX0_layBetween_104 ?_
                refine X_iconst (v := 1) K0 dX0_layBetween_107 (by decide) ?_
                refine X_isub K0 dX0_layBetween_108 ?_
                refine X_icmp_ge K0 147 dX0_layBetween_109 (by decide) (fun h109 => ?_) (fun h109 => ?_)
                · refine X_iinc (v := ((nI ii2) + 1)) (L' := [(6, .int ((nI ii2) + 1)), (7, .int (((nI ii1) * (nI gc)) + (nI ii2))), (0, .ref ga), (1, .int (nI gr)), (2, .int (nI gc)), (3, .int sr), (4, .int sd), (5, .int (nI ii1))]) K0 7 dX0_layBetween_147 rfl (by first | rfl | decide) (by decide) rfl ?_
                  refine X_goto K0 53 dX0_layBetween_150 (by decide) ?_
                  refine X.sub [2, 3, 4, 5, 6, 7, 0] (L' := [(0, .ref ga), (1, .int (nI gr)), (2, .int (nI gc)), (3, .int sr), (4, .int sd), (5, .int (nI ii1)), (6, .int ((nI ii2) + 1))]) rfl ?_
                  exact X_eq (by first | rw [lbD_y (bI_n0.mp h77), lbR_y (by have := h109; rw [nI_sub1 (by omega), nI_leI (by omega) (by omega)] at this; omega) (bI_n0.mp h121)] | rw [lbD_n (bI_0.mp h77), lbR_y (by have := h109; rw [nI_sub1 (by omega), nI_leI (by omega) (by omega)] at this; omega) (bI_n0.mp h121)] | rw [lbD_y (bI_n0.mp h77), lbR_n (bI_0.mp h121)] | rw [lbD_n (bI_0.mp h77), lbR_n (bI_0.mp h121)] | rw [lbD_y (bI_n0.mp h77), lbR_o (by have := h109; rw [nI_sub1 (by omega), nI_leI (by omega) (by omega)] at this; omega)] | rw [lbD_n (bI_0.mp h77), lbR_o (by have := h109; rw [nI_sub1 (by omega), nI_leI (by omega) (by omega)] at this; omega)]) (by rw [nI_succ] <;> rfl) rfl (ih2 (ii2 + 1) (by omega))
                · refine X_iload K0 5 dX0_layBetween_112 rfl ?_
                  refine X_iload K0 0 dX0_layBetween_114 rfl ?_
                  refine X_iconst (v := 1) K0 dX0_layBetween_116 (by decide) ?_
                  refine X_iadd K0 dX0_layBetween_117 ?_
                  refine X_callSN (As := [.int sd, .int ((((nI ii1) * (nI gc)) + (nI ii2)) + 1)]) (rest := []) K0 (c_has g (c0 :: c1 :: c2 :: c3 :: c4 :: c5 :: c6 :: c7 :: c8 :: c9 :: (ga, oGrid (nI (gr + 1)) (nI (gc - 1)) (((1 : Int32) <<< (((nI (gr + 1)) * (nI (gc - 1))) &&& 31)) - 1) (lbRc sd gc ii1 (lbR sd gc ii1) ii2) (lbDc sr gc ii1 (lbD sr gc ii1) ii2)) :: rest) sd ((((nI ii1) * (nI gc)) + (nI ii2)) + 1)) ms_X4_has rfl nl_RX0_27 rfl (Nat.le_of_ble_eq_true rfl) (by decide) ⟨Nat.le_of_ble_eq_true rfl, Nat.le_of_ble_eq_true rfl⟩ rfl rfl dX0_layBetween_118 ?_
                  intro v w' hr'; obtain ⟨rfl, rfl⟩ := hr'
                  show X φ 0 0 (c0 :: c1 :: c2 :: c3 :: c4 :: c5 :: c6 :: c7 :: c8 :: c9 :: (ga, oGrid (nI (gr + 1)) (nI (gc - 1)) (((1 : Int32) <<< (((nI (gr + 1)) * (nI (gc - 1))) &&& 31)) - 1) (lbRc sd gc ii1 (lbR sd gc ii1) ii2) (lbDc sr gc ii1 (lbD sr gc ii1) ii2)) :: rest) [(7, .int (((nI ii1) * (nI gc)) + (nI ii2))), (0, .ref ga), (1, .int (nI gr)), (2, .int (nI gc)), (3, .int sr), (4, .int sd), (5, .int (nI ii1)), (6, .int (nI ii2))] 121 [.int (bI (hasB sd ((((nI ii1) * (nI gc)) + (nI ii2)) + 1)))]
                  refine X_if_eq K0 147 dX0_layBetween_121 (by decide) (fun h121 => ?_) (fun h121 => ?_)
                  · refine X_iinc (v := ((nI ii2) + 1)) (L' := [(6, .int ((nI ii2) + 1)), (7, .int (((nI ii1) * (nI gc)) + (nI ii2))), (0, .ref ga), (1, .int (nI gr)), (2, .int (nI gc)), (3, .int sr), (4, .int sd), (5, .int (nI ii1))]) K0 7 dX0_layBetween_147 rfl (by first | rfl | decide) (by decide) rfl ?_
                    refine X_goto K0 53 dX0_layBetween_150 (by decide) ?_
                    refine X.sub [2, 3, 4, 5, 6, 7, 0] (L' := [(0, .ref ga), (1, .int (nI gr)), (2, .int (nI gc)), (3, .int sr), (4, .int sd), (5, .int (nI ii1)), (6, .int ((nI ii2) + 1))]) rfl ?_
                    exact X_eq (by first | rw [lbD_y (bI_n0.mp h77), lbR_y (by have := h109; rw [nI_sub1 (by omega), nI_leI (by omega) (by omega)] at this; omega) (bI_n0.mp h121)] | rw [lbD_n (bI_0.mp h77), lbR_y (by have := h109; rw [nI_sub1 (by omega), nI_leI (by omega) (by omega)] at this; omega) (bI_n0.mp h121)] | rw [lbD_y (bI_n0.mp h77), lbR_n (bI_0.mp h121)] | rw [lbD_n (bI_0.mp h77), lbR_n (bI_0.mp h121)] | rw [lbD_y (bI_n0.mp h77), lbR_o (by have := h109; rw [nI_sub1 (by omega), nI_leI (by omega) (by omega)] at this; omega)] | rw [lbD_n (bI_0.mp h77), lbR_o (by have := h109; rw [nI_sub1 (by omega), nI_leI (by omega) (by omega)] at this; omega)]) (by rw [nI_succ] <;> rfl) rfl (ih2 (ii2 + 1) (by omega))
                  · refine X_aload_n K0 1 dX0_layBetween_124 rfl rfl ?_
                    refine X_dup K0 dX0_layBetween_125 rfl ?_
                    refine X_get K0 10 rfl rfl hin0 3 (by decide) fl_RX0_21 rfl dX0_layBetween_126 ?_
                    refine X_iconst (v := 1) K0 dX0_layBetween_129 (by decide) ?_
                    refine X_iload K0 6 dX0_layBetween_130 rfl ?_
                    refine X_iconst (v := 1) K0 dX0_layBetween_132 (by decide) ?_
                    refine X_iadd K0 dX0_layBetween_133 ?_
                    refine X_aload_n K0 1 dX0_layBetween_134 rfl rfl ?_
                    refine X_get K0 10 rfl rfl hin0 1 (by decide) fl_RX0_15 rfl dX0_layBetween_135 ?_
                    refine X_imul K0 dX0_layBetween_138 ?_
                    refine X_iload K0 7 dX0_layBetween_139 rfl ?_
                    refine X_iadd K0 dX0_layBetween_141 ?_
                    refine X_ishl K0 dX0_layBetween_142 ?_
                    refine X_ior K0 dX0_layBetween_143 ?_
                    refine X_put (w' := (c0 :: c1 :: c2 :: c3 :: c4 :: c5 :: c6 :: c7 :: c8 :: c9 :: (ga, oGrid (nI (gr + 1)) (nI (gc - 1)) (((1 : Int32) <<< (((nI (gr + 1)) * (nI (gc - 1))) &&& 31)) - 1) ((lbRc sd gc ii1 (lbR sd gc ii1) ii2) ||| (1 <<< (((((nI ii1) + 1) * (nI (gc - 1))) + (nI ii2)) &&& 31))) (lbDc sr gc ii1 (lbD sr gc ii1) ii2)) :: rest)) K0 10 rfl rfl hin0 tyX0 tyX0_ok nmX0 3 (by decide) fl_RX0_21 rfl (tyX0_ok 3 (by decide)) rfl rfl (Nat.le_of_ble_eq_true rfl) dX0_layBetween_144 rfl ?_
                    refine X_iinc (v := ((nI ii2) + 1)) (L' := [(6, .int ((nI ii2) + 1)), (7, .int (((nI ii1) * (nI gc)) + (nI ii2))), (0, .ref ga), (1, .int (nI gr)), (2, .int (nI gc)), (3, .int sr), (4, .int sd), (5, .int (nI ii1))]) K0 7 dX0_layBetween_147 rfl (by first | rfl | decide) (by decide) rfl ?_
                    refine X_goto K0 53 dX0_layBetween_150 (by decide) ?_
                    refine X.sub [2, 3, 4, 5, 6, 7, 0] (L' := [(0, .ref ga), (1, .int (nI gr)), (2, .int (nI gc)), (3, .int sr), (4, .int sd), (5, .int (nI ii1)), (6, .int ((nI ii2) + 1))]) rfl ?_
                    exact X_eq (by first | rw [lbD_y (bI_n0.mp h77), lbR_y (by have := h109; rw [nI_sub1 (by omega), nI_leI (by omega) (by omega)] at this; omega) (bI_n0.mp h121)] | rw [lbD_n (bI_0.mp h77), lbR_y (by have := h109; rw [nI_sub1 (by omega), nI_leI (by omega) (by omega)] at this; omega) (bI_n0.mp h121)] | rw [lbD_y (bI_n0.mp h77), lbR_n (bI_0.mp h121)] | rw [lbD_n (bI_0.mp h77), lbR_n (bI_0.mp h121)] | rw [lbD_y (bI_n0.mp h77), lbR_o (by have := h109; rw [nI_sub1 (by omega), nI_leI (by omega) (by omega)] at this; omega)] | rw [lbD_n (bI_0.mp h77), lbR_o (by have := h109; rw [nI_sub1 (by omega), nI_leI (by omega) (by omega)] at this; omega)]) (by rw [nI_succ] <;> rfl) rfl (ih2 (ii2 + 1) (by omega))
              · refine X_aload_n K0 1 dX0_layBetween_80 rfl rfl ?_
                refine X_dup K0 dX0_layBetween_81 rfl ?_
                refine X_get K0 10 rfl rfl hin0 4 (by decide) fl_RX0_24 rfl dX0_layBetween_82 ?_
                refine X_iconst (v := 1) K0 dX0_layBetween_85 (by decide) ?_
                refine X_iload K0 6 dX0_layBetween_86 rfl ?_
                refine X_aload_n K0 1 dX0_layBetween_88 rfl rfl ?_
                refine X_get K0 10 rfl rfl hin0 1 (by decide) fl_RX0_15 rfl dX0_layBetween_89 ?_
                refine X_imul K0 dX0_layBetween_92 ?_
                refine X_iload K0 7 dX0_layBetween_93 rfl ?_
                refine X_iadd K0 dX0_layBetween_95 ?_
                refine X_ishl K0 dX0_layBetween_96 ?_
                refine X_ior K0 dX0_layBetween_97 ?_
                refine X_put (w' := (c0 :: c1 :: c2 :: c3 :: c4 :: c5 :: c6 :: c7 :: c8 :: c9 :: (ga, oGrid (nI (gr + 1)) (nI (gc - 1)) (((1 : Int32) <<< (((nI (gr + 1)) * (nI (gc - 1))) &&& 31)) - 1) (lbRc sd gc ii1 (lbR sd gc ii1) ii2) ((lbDc sr gc ii1 (lbD sr gc ii1) ii2) ||| (1 <<< ((((nI ii1) * (nI (gc - 1))) + (nI ii2)) &&& 31)))) :: rest)) K0 10 rfl rfl hin0 tyX0 tyX0_ok nmX0 4 (by decide) fl_RX0_24 rfl (tyX0_ok 4 (by decide)) rfl rfl (Nat.le_of_ble_eq_true rfl) dX0_layBetween_98 rfl ?_
                refine X_iload K0 7 dX0_layBetween_101 rfl ?_
                refine X_aload_n K0 1 dX0_layBetween_103 rfl rfl ?_
                refine X_get K0 10 rfl rfl hin0 1 (by decide) fl_RX0_15 rfl dX0_layBetween_104 ?_
                refine X_iconst (v := 1) K0 dX0_layBetween_107 (by decide) ?_
                refine X_isub K0 dX0_layBetween_108 ?_
                refine X_icmp_ge K0 147 dX0_layBetween_109 (by decide) (fun h109 => ?_) (fun h109 => ?_)
                · refine X_iinc (v := ((nI ii2) + 1)) (L' := [(6, .int ((nI ii2) + 1)), (7, .int (((nI ii1) * (nI gc)) + (nI ii2))), (0, .ref ga), (1, .int (nI gr)), (2, .int (nI gc)), (3, .int sr), (4, .int sd), (5, .int (nI ii1))]) K0 7 dX0_layBetween_147 rfl (by first | rfl | decide) (by decide) rfl ?_
                  refine X_goto K0 53 dX0_layBetween_150 (by decide) ?_
                  refine X.sub [2, 3, 4, 5, 6, 7, 0] (L' := [(0, .ref ga), (1, .int (nI gr)), (2, .int (nI gc)), (3, .int sr), (4, .int sd), (5, .int (nI ii1)), (6, .int ((nI ii2) + 1))]) rfl ?_
                  exact X_eq (by first | rw [lbD_y (bI_n0.mp h77), lbR_y (by have := h109; rw [nI_sub1 (by omega), nI_leI (by omega) (by omega)] at this; omega) (bI_n0.mp h121)] | rw [lbD_n (bI_0.mp h77), lbR_y (by have := h109; rw [nI_sub1 (by omega), nI_leI (by omega) (by omega)] at this; omega) (bI_n0.mp h121)] | rw [lbD_y (bI_n0.mp h77), lbR_n (bI_0.mp h121)] | rw [lbD_n (bI_0.mp h77), lbR_n (bI_0.mp h121)] | rw [lbD_y (bI_n0.mp h77), lbR_o (by have := h109; rw [nI_sub1 (by omega), nI_leI (by omega) (by omega)] at this; omega)] | rw [lbD_n (bI_0.mp h77), lbR_o (by have := h109; rw [nI_sub1 (by omega), nI_leI (by omega) (by omega)] at this; omega)]) (by rw [nI_succ] <;> rfl) rfl (ih2 (ii2 + 1) (by omega))
                · refine X_iload K0 5 dX0_layBetween_112 rfl ?_
                  refine X_iload K0 0 dX0_layBetween_114 rfl ?_
                  refine X_iconst (v := 1) K0 dX0_layBetween_116 (by decide) ?_
                  refine X_iadd K0 dX0_layBetween_117 ?_
                  refine X_callSN (As := [.int sd, .int ((((nI ii1) * (nI gc)) + (nI ii2)) + 1)]) (rest := []) K0 (c_has g (c0 :: c1 :: c2 :: c3 :: c4 :: c5 :: c6 :: c7 :: c8 :: c9 :: (ga, oGrid (nI (gr + 1)) (nI (gc - 1)) (((1 : Int32) <<< (((nI (gr + 1)) * (nI (gc - 1))) &&& 31)) - 1) (lbRc sd gc ii1 (lbR sd gc ii1) ii2) ((lbDc sr gc ii1 (lbD sr gc ii1) ii2) ||| (1 <<< ((((nI ii1) * (nI (gc - 1))) + (nI ii2)) &&& 31)))) :: rest) sd ((((nI ii1) * (nI gc)) + (nI ii2)) + 1)) ms_X4_has rfl nl_RX0_27 rfl (Nat.le_of_ble_eq_true rfl) (by decide) ⟨Nat.le_of_ble_eq_true rfl, Nat.le_of_ble_eq_true rfl⟩ rfl rfl dX0_layBetween_118 ?_
                  intro v w' hr'; obtain ⟨rfl, rfl⟩ := hr'
                  show X φ 0 0 (c0 :: c1 :: c2 :: c3 :: c4 :: c5 :: c6 :: c7 :: c8 :: c9 :: (ga, oGrid (nI (gr + 1)) (nI (gc - 1)) (((1 : Int32) <<< (((nI (gr + 1)) * (nI (gc - 1))) &&& 31)) - 1) (lbRc sd gc ii1 (lbR sd gc ii1) ii2) ((lbDc sr gc ii1 (lbD sr gc ii1) ii2) ||| (1 <<< ((((nI ii1) * (nI (gc - 1))) + (nI ii2)) &&& 31)))) :: rest) [(7, .int (((nI ii1) * (nI gc)) + (nI ii2))), (0, .ref ga), (1, .int (nI gr)), (2, .int (nI gc)), (3, .int sr), (4, .int sd), (5, .int (nI ii1)), (6, .int (nI ii2))] 121 [.int (bI (hasB sd ((((nI ii1) * (nI gc)) + (nI ii2)) + 1)))]
                  refine X_if_eq K0 147 dX0_layBetween_121 (by decide) (fun h121 => ?_) (fun h121 => ?_)
                  · refine X_iinc (v := ((nI ii2) + 1)) (L' := [(6, .int ((nI ii2) + 1)), (7, .int (((nI ii1) * (nI gc)) + (nI ii2))), (0, .ref ga), (1, .int (nI gr)), (2, .int (nI gc)), (3, .int sr), (4, .int sd), (5, .int (nI ii1))]) K0 7 dX0_layBetween_147 rfl (by first | rfl | decide) (by decide) rfl ?_
                    refine X_goto K0 53 dX0_layBetween_150 (by decide) ?_
                    refine X.sub [2, 3, 4, 5, 6, 7, 0] (L' := [(0, .ref ga), (1, .int (nI gr)), (2, .int (nI gc)), (3, .int sr), (4, .int sd), (5, .int (nI ii1)), (6, .int ((nI ii2) + 1))]) rfl ?_
                    exact X_eq (by first | rw [lbD_y (bI_n0.mp h77), lbR_y (by have := h109; rw [nI_sub1 (by omega), nI_leI (by omega) (by omega)] at this; omega) (bI_n0.mp h121)] | rw [lbD_n (bI_0.mp h77), lbR_y (by have := h109; rw [nI_sub1 (by omega), nI_leI (by omega) (by omega)] at this; omega) (bI_n0.mp h121)] | rw [lbD_y (bI_n0.mp h77), lbR_n (bI_0.mp h121)] | rw [lbD_n (bI_0.mp h77), lbR_n (bI_0.mp h121)] | rw [lbD_y (bI_n0.mp h77), lbR_o (by have := h109; rw [nI_sub1 (by omega), nI_leI (by omega) (by omega)] at this; omega)] | rw [lbD_n (bI_0.mp h77), lbR_o (by have := h109; rw [nI_sub1 (by omega), nI_leI (by omega) (by omega)] at this; omega)]) (by rw [nI_succ] <;> rfl) rfl (ih2 (ii2 + 1) (by omega))
                  · refine X_aload_n K0 1 dX0_layBetween_124 rfl rfl ?_
                    refine X_dup K0 dX0_layBetween_125 rfl ?_
                    refine X_get K0 10 rfl rfl hin0 3 (by decide) fl_RX0_21 rfl dX0_layBetween_126 ?_
                    refine X_iconst (v := 1) K0 dX0_layBetween_129 (by decide) ?_
                    refine X_iload K0 6 dX0_layBetween_130 rfl ?_
                    refine X_iconst (v := 1) K0 dX0_layBetween_132 (by decide) ?_
                    refine X_iadd K0 dX0_layBetween_133 ?_
                    refine X_aload_n K0 1 dX0_layBetween_134 rfl rfl ?_
                    refine X_get K0 10 rfl rfl hin0 1 (by decide) fl_RX0_15 rfl dX0_layBetween_135 ?_
                    refine X_imul K0 dX0_layBetween_138 ?_
                    refine X_iload K0 7 dX0_layBetween_139 rfl ?_
                    refine X_iadd K0 dX0_layBetween_141 ?_
                    refine X_ishl K0 dX0_layBetween_142 ?_
                    refine X_ior K0 dX0_layBetween_143 ?_
                    refine X_put (w' := (c0 :: c1 :: c2 :: c3 :: c4 :: c5 :: c6 :: c7 :: c8 :: c9 :: (ga, oGrid (nI (gr + 1)) (nI (gc - 1)) (((1 : Int32) <<< (((nI (gr + 1)) * (nI (gc - 1))) &&& 31)) - 1) ((lbRc sd gc ii1 (lbR sd gc ii1) ii2) ||| (1 <<< (((((nI ii1) + 1) * (nI (gc - 1))) + (nI ii2)) &&& 31))) ((lbDc sr gc ii1 (lbD sr gc ii1) ii2) ||| (1 <<< ((((nI ii1) * (nI (gc - 1))) + (nI ii2)) &&& 31)))) :: rest)) K0 10 rfl rfl hin0 tyX0 tyX0_ok nmX0 3 (by decide) fl_RX0_21 rfl (tyX0_ok 3 (by decide)) rfl rfl (Nat.le_of_ble_eq_true rfl) dX0_layBetween_144 rfl ?_
                    refine X_iinc (v := ((nI ii2) + 1)) (L' := [(6, .int ((nI ii2) + 1)), (7, .int (((nI ii1) * (nI gc)) + (nI ii2))), (0, .ref ga), (1, .int (nI gr)), (2, .int (nI gc)), (3, .int sr), (4, .int sd), (5, .int (nI ii1))]) K0 7 dX0_layBetween_147 rfl (by first | rfl | decide) (by decide) rfl ?_
                    refine X_goto K0 53 dX0_layBetween_150 (by decide) ?_
                    refine X.sub [2, 3, 4, 5, 6, 7, 0] (L' := [(0, .ref ga), (1, .int (nI gr)), (2, .int (nI gc)), (3, .int sr), (4, .int sd), (5, .int (nI ii1)), (6, .int ((nI ii2) + 1))]) rfl ?_
                    exact X_eq (by first | rw [lbD_y (bI_n0.mp h77), lbR_y (by have := h109; rw [nI_sub1 (by omega), nI_leI (by omega) (by omega)] at this; omega) (bI_n0.mp h121)] | rw [lbD_n (bI_0.mp h77), lbR_y (by have := h109; rw [nI_sub1 (by omega), nI_leI (by omega) (by omega)] at this; omega) (bI_n0.mp h121)] | rw [lbD_y (bI_n0.mp h77), lbR_n (bI_0.mp h121)] | rw [lbD_n (bI_0.mp h77), lbR_n (bI_0.mp h121)] | rw [lbD_y (bI_n0.mp h77), lbR_o (by have := h109; rw [nI_sub1 (by omega), nI_leI (by omega) (by omega)] at this; omega)] | rw [lbD_n (bI_0.mp h77), lbR_o (by have := h109; rw [nI_sub1 (by omega), nI_leI (by omega) (by omega)] at this; omega)]) (by rw [nI_succ] <;> rfl) rfl (ih2 (ii2 + 1) (by omega))
        exact LOOP2 (gc - 1) 0 (by omega)
  exact LOOP1 gr 0 (by omega)
