set_option maxRecDepth 20000 in
set_option maxHeartbeats 400000 in
theorem c_ntz (g : Gx) (w : va_W) (x : Int32) : Con g yJ6_numberOfTrailingZeros_0f7a4 cJ6_numberOfTrailingZeros_0f7a4 2 (some .int) 0 0 0 0 [.int x] w (Rs (some (.int (ntJ x))) w) := by
  refine Con.ofI (by decide +kernel) (Nat.le_of_ble_eq_true rfl) (fun φ K0 hr => ?_)
  show X φ 0 0 w [(0, .int x)] 0 []
  refine X_iload_n K0 0 dJ6_numberOfTrailingZeros_0f7a4_0 rfl rfl ?_
  refine X_iconst (v := (-1)) K0 dJ6_numberOfTrailingZeros_0f7a4_1 (by decide) ?_
  refine X_ixor K0 dJ6_numberOfTrailingZeros_0f7a4_2 ?_
  refine X_iload_n K0 0 dJ6_numberOfTrailingZeros_0f7a4_3 rfl rfl ?_
  refine X_iconst (v := 1) K0 dJ6_numberOfTrailingZeros_0f7a4_4 (by decide) ?_
  refine X_isub K0 dJ6_numberOfTrailingZeros_0f7a4_5 ?_
  refine X_iand K0 dJ6_numberOfTrailingZeros_0f7a4_6 ?_
  refine X_istore_n (L' := [(0, .int ((x ^^^ (-1)) &&& (x - 1)))]) K0 dJ6_numberOfTrailingZeros_0f7a4_7 rfl (by decide) rfl ?_
  refine X_iload_n K0 0 dJ6_numberOfTrailingZeros_0f7a4_8 rfl rfl ?_
  refine X_if_gt K0 17 dJ6_numberOfTrailingZeros_0f7a4_9 (by decide) (fun h9 => ?_) (fun h9 => ?_)
  · refine X_iconst (v := 1) K0 dJ6_numberOfTrailingZeros_0f7a4_17 (by decide) ?_
    refine X_istore_n (L' := [(1, .int 1), (0, .int ((x ^^^ (-1)) &&& (x - 1)))]) K0 dJ6_numberOfTrailingZeros_0f7a4_18 rfl (by decide) rfl ?_
    refine X_iload_n K0 1 dJ6_numberOfTrailingZeros_0f7a4_19 rfl rfl ?_
    refine X_ldcw K0 co_RJ6_264 dJ6_numberOfTrailingZeros_0f7a4_20 ?_
    refine X_icmp_le K0 34 dJ6_numberOfTrailingZeros_0f7a4_23 (by decide) (fun h23 => ?_) (fun h23 => ?_)
    · refine X_iload_n K0 1 dJ6_numberOfTrailingZeros_0f7a4_34 rfl rfl ?_
      refine X_sipush (v := 256) K0 dJ6_numberOfTrailingZeros_0f7a4_35 (by decide) ?_
      refine X_icmp_le K0 49 dJ6_numberOfTrailingZeros_0f7a4_38 (by decide) (fun h38 => ?_) (fun h38 => ?_)
      · refine X_iload_n K0 1 dJ6_numberOfTrailingZeros_0f7a4_49 rfl rfl ?_
        refine X_bipush (v := 16) K0 dJ6_numberOfTrailingZeros_0f7a4_50 (by decide) ?_
        refine X_icmp_le K0 62 dJ6_numberOfTrailingZeros_0f7a4_52 (by decide) (fun h52 => ?_) (fun h52 => ?_)
        · refine X_iload_n K0 1 dJ6_numberOfTrailingZeros_0f7a4_62 rfl rfl ?_
          refine X_iconst (v := 4) K0 dJ6_numberOfTrailingZeros_0f7a4_63 (by decide) ?_
          refine X_icmp_le K0 74 dJ6_numberOfTrailingZeros_0f7a4_64 (by decide) (fun h64 => ?_) (fun h64 => ?_)
          · refine X_iload_n K0 0 dJ6_numberOfTrailingZeros_0f7a4_74 rfl rfl ?_
            refine X_iload_n K0 1 dJ6_numberOfTrailingZeros_0f7a4_75 rfl rfl ?_
            refine X_iconst (v := 1) K0 dJ6_numberOfTrailingZeros_0f7a4_76 (by decide) ?_
            refine X_iushr (v := (ush ((x ^^^ (-1)) &&& (x - 1)) 1)) K0 dJ6_numberOfTrailingZeros_0f7a4_77 rfl ?_
            refine X_iadd K0 dJ6_numberOfTrailingZeros_0f7a4_78 ?_
            exact hr _ _ _ _ ⟨by first | simp only [ntJ, h9, h23, h38, h52, h64, if_true, if_false] | simp only [ntJ, h9, if_false], rfl⟩ dJ6_numberOfTrailingZeros_0f7a4_79
          · refine X_iinc (v := (1 + 2)) (L' := [(1, .int (1 + 2)), (0, .int ((x ^^^ (-1)) &&& (x - 1)))]) K0 0 dJ6_numberOfTrailingZeros_0f7a4_67 rfl (by first | rfl | decide) (by decide) rfl ?_
            refine X_iload_n K0 1 dJ6_numberOfTrailingZeros_0f7a4_70 rfl rfl ?_
            refine X_iconst (v := 2) K0 dJ6_numberOfTrailingZeros_0f7a4_71 (by decide) ?_
            refine X_iushr (v := (ush ((x ^^^ (-1)) &&& (x - 1)) 2)) K0 dJ6_numberOfTrailingZeros_0f7a4_72 rfl ?_
            refine X_istore_n (L' := [(0, .int (ush ((x ^^^ (-1)) &&& (x - 1)) 2)), (1, .int (1 + 2))]) K0 dJ6_numberOfTrailingZeros_0f7a4_73 rfl (by decide) rfl ?_
            refine X_iload_n K0 1 dJ6_numberOfTrailingZeros_0f7a4_74 rfl rfl ?_
            refine X_iload_n K0 0 dJ6_numberOfTrailingZeros_0f7a4_75 rfl rfl ?_
            refine X_iconst (v := 1) K0 dJ6_numberOfTrailingZeros_0f7a4_76 (by decide) ?_
            refine X_iushr (v := (ush (ush ((x ^^^ (-1)) &&& (x - 1)) 2) 1)) K0 dJ6_numberOfTrailingZeros_0f7a4_77 rfl ?_
            refine X_iadd K0 dJ6_numberOfTrailingZeros_0f7a4_78 ?_
            exact hr _ _ _ _ ⟨by first | simp only [ntJ, h9, h23, h38, h52, h64, if_true, if_false] | simp only [ntJ, h9, if_false], rfl⟩ dJ6_numberOfTrailingZeros_0f7a4_79
        · refine X_iinc (v := (1 + 4)) (L' := [(1, .int (1 + 4)), (0, .int ((x ^^^ (-1)) &&& (x - 1)))]) K0 0 dJ6_numberOfTrailingZeros_0f7a4_55 rfl (by first | rfl | decide) (by decide) rfl ?_
          refine X_iload_n K0 1 dJ6_numberOfTrailingZeros_0f7a4_58 rfl rfl ?_
          refine X_iconst (v := 4) K0 dJ6_numberOfTrailingZeros_0f7a4_59 (by decide) ?_
          refine X_iushr (v := (ush ((x ^^^ (-1)) &&& (x - 1)) 4)) K0 dJ6_numberOfTrailingZeros_0f7a4_60 rfl ?_
          refine X_istore_n (L' := [(0, .int (ush ((x ^^^ (-1)) &&& (x - 1)) 4)), (1, .int (1 + 4))]) K0 dJ6_numberOfTrailingZeros_0f7a4_61 rfl (by decide) rfl ?_
          refine X_iload_n K0 0 dJ6_numberOfTrailingZeros_0f7a4_62 rfl rfl ?_
          refine X_iconst (v := 4) K0 dJ6_numberOfTrailingZeros_0f7a4_63 (by decide) ?_
          refine X_icmp_le K0 74 dJ6_numberOfTrailingZeros_0f7a4_64 (by decide) (fun h64 => ?_) (fun h64 => ?_)
          · refine X_iload_n K0 1 dJ6_numberOfTrailingZeros_0f7a4_74 rfl rfl ?_
            refine X_iload_n K0 0 dJ6_numberOfTrailingZeros_0f7a4_75 rfl rfl ?_
            refine X_iconst (v := 1) K0 dJ6_numberOfTrailingZeros_0f7a4_76 (by decide) ?_
            refine X_iushr (v := (ush (ush ((x ^^^ (-1)) &&& (x - 1)) 4) 1)) K0 dJ6_numberOfTrailingZeros_0f7a4_77 rfl ?_
            refine X_iadd K0 dJ6_numberOfTrailingZeros_0f7a4_78 ?_
            exact hr _ _ _ _ ⟨by first | simp only [ntJ, h9, h23, h38, h52, h64, if_true, if_false] | simp only [ntJ, h9, if_false], rfl⟩ dJ6_numberOfTrailingZeros_0f7a4_79
          · refine X_iinc (v := ((1 + 4) + 2)) (L' := [(1, .int ((1 + 4) + 2)), (0, .int (ush ((x ^^^ (-1)) &&& (x - 1)) 4))]) K0 1 dJ6_numberOfTrailingZeros_0f7a4_67 rfl (by first | rfl | decide) (by decide) rfl ?_
            refine X_iload_n K0 1 dJ6_numberOfTrailingZeros_0f7a4_70 rfl rfl ?_
            refine X_iconst (v := 2) K0 dJ6_numberOfTrailingZeros_0f7a4_71 (by decide) ?_
            refine X_iushr (v := (ush (ush ((x ^^^ (-1)) &&& (x - 1)) 4) 2)) K0 dJ6_numberOfTrailingZeros_0f7a4_72 rfl ?_
            refine X_istore_n (L' := [(0, .int (ush (ush ((x ^^^ (-1)) &&& (x - 1)) 4) 2)), (1, .int ((1 + 4) + 2))]) K0 dJ6_numberOfTrailingZeros_0f7a4_73 rfl (by decide) rfl ?_
            refine X_iload_n K0 1 dJ6_numberOfTrailingZeros_0f7a4_74 rfl rfl ?_
            refine X_iload_n K0 0 dJ6_numberOfTrailingZeros_0f7a4_75 rfl rfl ?_
            refine X_iconst (v := 1) K0 dJ6_numberOfTrailingZeros_0f7a4_76 (by decide) ?_
            refine X_iushr (v := (ush (ush (ush ((x ^^^ (-1)) &&& (x - 1)) 4) 2) 1)) K0 dJ6_numberOfTrailingZeros_0f7a4_77 rfl ?_
            refine X_iadd K0 dJ6_numberOfTrailingZeros_0f7a4_78 ?_
            exact hr _ _ _ _ ⟨by first | simp only [ntJ, h9, h23, h38, h52, h64, if_true, if_false] | simp only [ntJ, h9, if_false], rfl⟩ dJ6_numberOfTrailingZeros_0f7a4_79
      · refine X_iinc (v := (1 + 8)) (L' := [(1, .int (1 + 8)), (0, .int ((x ^^^ (-1)) &&& (x - 1)))]) K0 0 dJ6_numberOfTrailingZeros_0f7a4_41 rfl (by first | rfl | decide) (by decide) rfl ?_
        refine X_iload_n K0 1 dJ6_numberOfTrailingZeros_0f7a4_44 rfl rfl ?_
        refine X_bipush (v := 8) K0 dJ6_numberOfTrailingZeros_0f7a4_45 (by decide) ?_
        refine X_iushr (v := (ush ((x ^^^ (-1)) &&& (x - 1)) 8)) K0 dJ6_numberOfTrailingZeros_0f7a4_47 rfl ?_
        refine X_istore_n (L' := [(0, .int (ush ((x ^^^ (-1)) &&& (x - 1)) 8)), (1, .int (1 + 8))]) K0 dJ6_numberOfTrailingZeros_0f7a4_48 rfl (by decide) rfl ?_
        refine X_iload_n K0 0 dJ6_numberOfTrailingZeros_0f7a4_49 rfl rfl ?_
        refine X_bipush (v := 16) K0 dJ6_numberOfTrailingZeros_0f7a4_50 (by decide) ?_
        refine X_icmp_le K0 62 dJ6_numberOfTrailingZeros_0f7a4_52 (by decide) (fun h52 => ?_) (fun h52 => ?_)
        · refine X_iload_n K0 0 dJ6_numberOfTrailingZeros_0f7a4_62 rfl rfl ?_
          refine X_iconst (v := 4) K0 dJ6_numberOfTrailingZeros_0f7a4_63 (by decide) ?_
          refine X_icmp_le K0 74 dJ6_numberOfTrailingZeros_0f7a4_64 (by decide) (fun h64 => ?_) (fun h64 => ?_)
          · refine X_iload_n K0 1 dJ6_numberOfTrailingZeros_0f7a4_74 rfl rfl ?_
            refine X_iload_n K0 0 dJ6_numberOfTrailingZeros_0f7a4_75 rfl rfl ?_
            refine X_iconst (v := 1) K0 dJ6_numberOfTrailingZeros_0f7a4_76 (by decide) ?_
            refine X_iushr (v := (ush (ush ((x ^^^ (-1)) &&& (x - 1)) 8) 1)) K0 dJ6_numberOfTrailingZeros_0f7a4_77 rfl ?_
            refine X_iadd K0 dJ6_numberOfTrailingZeros_0f7a4_78 ?_
            exact hr _ _ _ _ ⟨by first | simp only [ntJ, h9, h23, h38, h52, h64, if_true, if_false] | simp only [ntJ, h9, if_false], rfl⟩ dJ6_numberOfTrailingZeros_0f7a4_79
          · refine X_iinc (v := ((1 + 8) + 2)) (L' := [(1, .int ((1 + 8) + 2)), (0, .int (ush ((x ^^^ (-1)) &&& (x - 1)) 8))]) K0 1 dJ6_numberOfTrailingZeros_0f7a4_67 rfl (by first | rfl | decide) (by decide) rfl ?_
            refine X_iload_n K0 1 dJ6_numberOfTrailingZeros_0f7a4_70 rfl rfl ?_
            refine X_iconst (v := 2) K0 dJ6_numberOfTrailingZeros_0f7a4_71 (by decide) ?_
            refine X_iushr (v := (ush (ush ((x ^^^ (-1)) &&& (x - 1)) 8) 2)) K0 dJ6_numberOfTrailingZeros_0f7a4_72 rfl ?_
            refine X_istore_n (L' := [(0, .int (ush (ush ((x ^^^ (-1)) &&& (x - 1)) 8) 2)), (1, .int ((1 + 8) + 2))]) K0 dJ6_numberOfTrailingZeros_0f7a4_73 rfl (by decide) rfl ?_
            refine X_iload_n K0 1 dJ6_numberOfTrailingZeros_0f7a4_74 rfl rfl ?_
            refine X_iload_n K0 0 dJ6_numberOfTrailingZeros_0f7a4_75 rfl rfl ?_
            refine X_iconst (v := 1) K0 dJ6_numberOfTrailingZeros_0f7a4_76 (by decide) ?_
            refine X_iushr (v := (ush (ush (ush ((x ^^^ (-1)) &&& (x - 1)) 8) 2) 1)) K0 dJ6_numberOfTrailingZeros_0f7a4_77 rfl ?_
            refine X_iadd K0 dJ6_numberOfTrailingZeros_0f7a4_78 ?_
            exact hr _ _ _ _ ⟨by first | simp only [ntJ, h9, h23, h38, h52, h64, if_true, if_false] | simp only [ntJ, h9, if_false], rfl⟩ dJ6_numberOfTrailingZeros_0f7a4_79
        · refine X_iinc (v := ((1 + 8) + 4)) (L' := [(1, .int ((1 + 8) + 4)), (0, .int (ush ((x ^^^ (-1)) &&& (x - 1)) 8))]) K0 1 dJ6_numberOfTrailingZeros_0f7a4_55 rfl (by first | rfl | decide) (by decide) rfl ?_
          refine X_iload_n K0 1 dJ6_numberOfTrailingZeros_0f7a4_58 rfl rfl ?_
          refine X_iconst (v := 4) K0 dJ6_numberOfTrailingZeros_0f7a4_59 (by decide) ?_
          refine X_iushr (v := (ush (ush ((x ^^^ (-1)) &&& (x - 1)) 8) 4)) K0 dJ6_numberOfTrailingZeros_0f7a4_60 rfl ?_
          refine X_istore_n (L' := [(0, .int (ush (ush ((x ^^^ (-1)) &&& (x - 1)) 8) 4)), (1, .int ((1 + 8) + 4))]) K0 dJ6_numberOfTrailingZeros_0f7a4_61 rfl (by decide) rfl ?_
          refine X_iload_n K0 0 dJ6_numberOfTrailingZeros_0f7a4_62 rfl rfl ?_
          refine X_iconst (v := 4) K0 dJ6_numberOfTrailingZeros_0f7a4_63 (by decide) ?_
          refine X_icmp_le K0 74 dJ6_numberOfTrailingZeros_0f7a4_64 (by decide) (fun h64 => ?_) (fun h64 => ?_)
          · refine X_iload_n K0 1 dJ6_numberOfTrailingZeros_0f7a4_74 rfl rfl ?_
            refine X_iload_n K0 0 dJ6_numberOfTrailingZeros_0f7a4_75 rfl rfl ?_
            refine X_iconst (v := 1) K0 dJ6_numberOfTrailingZeros_0f7a4_76 (by decide) ?_
            refine X_iushr (v := (ush (ush (ush ((x ^^^ (-1)) &&& (x - 1)) 8) 4) 1)) K0 dJ6_numberOfTrailingZeros_0f7a4_77 rfl ?_
            refine X_iadd K0 dJ6_numberOfTrailingZeros_0f7a4_78 ?_
            exact hr _ _ _ _ ⟨by first | simp only [ntJ, h9, h23, h38, h52, h64, if_true, if_false] | simp only [ntJ, h9, if_false], rfl⟩ dJ6_numberOfTrailingZeros_0f7a4_79
          · refine X_iinc (v := (((1 + 8) + 4) + 2)) (L' := [(1, .int (((1 + 8) + 4) + 2)), (0, .int (ush (ush ((x ^^^ (-1)) &&& (x - 1)) 8) 4))]) K0 1 dJ6_numberOfTrailingZeros_0f7a4_67 rfl (by first | rfl | decide) (by decide) rfl ?_
            refine X_iload_n K0 1 dJ6_numberOfTrailingZeros_0f7a4_70 rfl rfl ?_
            refine X_iconst (v := 2) K0 dJ6_numberOfTrailingZeros_0f7a4_71 (by decide) ?_
            refine X_iushr (v := (ush (ush (ush ((x ^^^ (-1)) &&& (x - 1)) 8) 4) 2)) K0 dJ6_numberOfTrailingZeros_0f7a4_72 rfl ?_
            refine X_istore_n (L' := [(0, .int (ush (ush (ush ((x ^^^ (-1)) &&& (x - 1)) 8) 4) 2)), (1, .int (((1 + 8) + 4) + 2))]) K0 dJ6_numberOfTrailingZeros_0f7a4_73 rfl (by decide) rfl ?_
            refine X_iload_n K0 1 dJ6_numberOfTrailingZeros_0f7a4_74 rfl rfl ?_
            refine X_iload_n K0 0 dJ6_numberOfTrailingZeros_0f7a4_75 rfl rfl ?_
            refine X_iconst (v := 1) K0 dJ6_numberOfTrailingZeros_0f7a4_76 (by decide) ?_
            refine X_iushr (v := (ush (ush (ush (ush ((x ^^^ (-1)) &&& (x - 1)) 8) 4) 2) 1)) K0 dJ6_numberOfTrailingZeros_0f7a4_77 rfl ?_
            refine X_iadd K0 dJ6_numberOfTrailingZeros_0f7a4_78 ?_
            exact hr _ _ _ _ ⟨by first | simp only [ntJ, h9, h23, h38, h52, h64, if_true, if_false] | simp only [ntJ, h9, if_false], rfl⟩ dJ6_numberOfTrailingZeros_0f7a4_79
    · refine X_iinc (v := (1 + 16)) (L' := [(1, .int (1 + 16)), (0, .int ((x ^^^ (-1)) &&& (x - 1)))]) K0 0 dJ6_numberOfTrailingZeros_0f7a4_26 rfl (by first | rfl | decide) (by decide) rfl ?_
      refine X_iload_n K0 1 dJ6_numberOfTrailingZeros_0f7a4_29 rfl rfl ?_
      refine X_bipush (v := 16) K0 dJ6_numberOfTrailingZeros_0f7a4_30 (by decide) ?_
      refine X_iushr (v := (ush ((x ^^^ (-1)) &&& (x - 1)) 16)) K0 dJ6_numberOfTrailingZeros_0f7a4_32 rfl ?_
      refine X_istore_n (L' := [(0, .int (ush ((x ^^^ (-1)) &&& (x - 1)) 16)), (1, .int (1 + 16))]) K0 dJ6_numberOfTrailingZeros_0f7a4_33 rfl (by decide) rfl ?_
      refine X_iload_n K0 0 dJ6_numberOfTrailingZeros_0f7a4_34 rfl rfl ?_
      refine X_sipush (v := 256) K0 dJ6_numberOfTrailingZeros_0f7a4_35 (by decide) ?_
      refine X_icmp_le K0 49 dJ6_numberOfTrailingZeros_0f7a4_38 (by decide) (fun h38 => ?_) (fun h38 => ?_)
      · refine X_iload_n K0 0 dJ6_numberOfTrailingZeros_0f7a4_49 rfl rfl ?_
        refine X_bipush (v := 16) K0 dJ6_numberOfTrailingZeros_0f7a4_50 (by decide) ?_
        refine X_icmp_le K0 62 dJ6_numberOfTrailingZeros_0f7a4_52 (by decide) (fun h52 => ?_) (fun h52 => ?_)
        · refine X_iload_n K0 0 dJ6_numberOfTrailingZeros_0f7a4_62 rfl rfl ?_
          refine X_iconst (v := 4) K0 dJ6_numberOfTrailingZeros_0f7a4_63 (by decide) ?_
          refine X_icmp_le K0 74 dJ6_numberOfTrailingZeros_0f7a4_64 (by decide) (fun h64 => ?_) (fun h64 => ?_)
          · refine X_iload_n K0 1 dJ6_numberOfTrailingZeros_0f7a4_74 rfl rfl ?_
            refine X_iload_n K0 0 dJ6_numberOfTrailingZeros_0f7a4_75 rfl rfl ?_
            refine X_iconst (v := 1) K0 dJ6_numberOfTrailingZeros_0f7a4_76 (by decide) ?_
            refine X_iushr (v := (ush (ush ((x ^^^ (-1)) &&& (x - 1)) 16) 1)) K0 dJ6_numberOfTrailingZeros_0f7a4_77 rfl ?_
            refine X_iadd K0 dJ6_numberOfTrailingZeros_0f7a4_78 ?_
            exact hr _ _ _ _ ⟨by first | simp only [ntJ, h9, h23, h38, h52, h64, if_true, if_false] | simp only [ntJ, h9, if_false], rfl⟩ dJ6_numberOfTrailingZeros_0f7a4_79
          · refine X_iinc (v := ((1 + 16) + 2)) (L' := [(1, .int ((1 + 16) + 2)), (0, .int (ush ((x ^^^ (-1)) &&& (x - 1)) 16))]) K0 1 dJ6_numberOfTrailingZeros_0f7a4_67 rfl (by first | rfl | decide) (by decide) rfl ?_
            refine X_iload_n K0 1 dJ6_numberOfTrailingZeros_0f7a4_70 rfl rfl ?_
            refine X_iconst (v := 2) K0 dJ6_numberOfTrailingZeros_0f7a4_71 (by decide) ?_
            refine X_iushr (v := (ush (ush ((x ^^^ (-1)) &&& (x - 1)) 16) 2)) K0 dJ6_numberOfTrailingZeros_0f7a4_72 rfl ?_
            refine X_istore_n (L' := [(0, .int (ush (ush ((x ^^^ (-1)) &&& (x - 1)) 16) 2)), (1, .int ((1 + 16) + 2))]) K0 dJ6_numberOfTrailingZeros_0f7a4_73 rfl (by decide) rfl ?_
            refine X_iload_n K0 1 dJ6_numberOfTrailingZeros_0f7a4_74 rfl rfl ?_
            refine X_iload_n K0 0 dJ6_numberOfTrailingZeros_0f7a4_75 rfl rfl ?_
            refine X_iconst (v := 1) K0 dJ6_numberOfTrailingZeros_0f7a4_76 (by decide) ?_
            refine X_iushr (v := (ush (ush (ush ((x ^^^ (-1)) &&& (x - 1)) 16) 2) 1)) K0 dJ6_numberOfTrailingZeros_0f7a4_77 rfl ?_
            refine X_iadd K0 dJ6_numberOfTrailingZeros_0f7a4_78 ?_
            exact hr _ _ _ _ ⟨by first | simp only [ntJ, h9, h23, h38, h52, h64, if_true, if_false] | simp only [ntJ, h9, if_false], rfl⟩ dJ6_numberOfTrailingZeros_0f7a4_79
        · refine X_iinc (v := ((1 + 16) + 4)) (L' := [(1, .int ((1 + 16) + 4)), (0, .int (ush ((x ^^^ (-1)) &&& (x - 1)) 16))]) K0 1 dJ6_numberOfTrailingZeros_0f7a4_55 rfl (by first | rfl | decide) (by decide) rfl ?_
          refine X_iload_n K0 1 dJ6_numberOfTrailingZeros_0f7a4_58 rfl rfl ?_
          refine X_iconst (v := 4) K0 dJ6_numberOfTrailingZeros_0f7a4_59 (by decide) ?_
          refine X_iushr (v := (ush (ush ((x ^^^ (-1)) &&& (x - 1)) 16) 4)) K0 dJ6_numberOfTrailingZeros_0f7a4_60 rfl ?_
          refine X_istore_n (L' := [(0, .int (ush (ush ((x ^^^ (-1)) &&& (x - 1)) 16) 4)), (1, .int ((1 + 16) + 4))]) K0 dJ6_numberOfTrailingZeros_0f7a4_61 rfl (by decide) rfl ?_
          refine X_iload_n K0 0 dJ6_numberOfTrailingZeros_0f7a4_62 rfl rfl ?_
          refine X_iconst (v := 4) K0 dJ6_numberOfTrailingZeros_0f7a4_63 (by decide) ?_
          refine X_icmp_le K0 74 dJ6_numberOfTrailingZeros_0f7a4_64 (by decide) (fun h64 => ?_) (fun h64 => ?_)
          · refine X_iload_n K0 1 dJ6_numberOfTrailingZeros_0f7a4_74 rfl rfl ?_
            refine X_iload_n K0 0 dJ6_numberOfTrailingZeros_0f7a4_75 rfl rfl ?_
            refine X_iconst (v := 1) K0 dJ6_numberOfTrailingZeros_0f7a4_76 (by decide) ?_
            refine X_iushr (v := (ush (ush (ush ((x ^^^ (-1)) &&& (x - 1)) 16) 4) 1)) K0 dJ6_numberOfTrailingZeros_0f7a4_77 rfl ?_
            refine X_iadd K0 dJ6_numberOfTrailingZeros_0f7a4_78 ?_
            exact hr _ _ _ _ ⟨by first | simp only [ntJ, h9, h23, h38, h52, h64, if_true, if_false] | simp only [ntJ, h9, if_false], rfl⟩ dJ6_numberOfTrailingZeros_0f7a4_79
          · refine X_iinc (v := (((1 + 16) + 4) + 2)) (L' := [(1, .int (((1 + 16) + 4) + 2)), (0, .int (ush (ush ((x ^^^ (-1)) &&& (x - 1)) 16) 4))]) K0 1 dJ6_numberOfTrailingZeros_0f7a4_67 rfl (by first | rfl | decide) (by decide) rfl ?_
            refine X_iload_n K0 1 dJ6_numberOfTrailingZeros_0f7a4_70 rfl rfl ?_
            refine X_iconst (v := 2) K0 dJ6_numberOfTrailingZeros_0f7a4_71 (by decide) ?_
            refine X_iushr (v := (ush (ush (ush ((x ^^^ (-1)) &&& (x - 1)) 16) 4) 2)) K0 dJ6_numberOfTrailingZeros_0f7a4_72 rfl ?_
            refine X_istore_n (L' := [(0, .int (ush (ush (ush ((x ^^^ (-1)) &&& (x - 1)) 16) 4) 2)), (1, .int (((1 + 16) + 4) + 2))]) K0 dJ6_numberOfTrailingZeros_0f7a4_73 rfl (by decide) rfl ?_
            refine X_iload_n K0 1 dJ6_numberOfTrailingZeros_0f7a4_74 rfl rfl ?_
            refine X_iload_n K0 0 dJ6_numberOfTrailingZeros_0f7a4_75 rfl rfl ?_
            refine X_iconst (v := 1) K0 dJ6_numberOfTrailingZeros_0f7a4_76 (by decide) ?_
            refine X_iushr (v := (ush (ush (ush (ush ((x ^^^ (-1)) &&& (x - 1)) 16) 4) 2) 1)) K0 dJ6_numberOfTrailingZeros_0f7a4_77 rfl ?_
            refine X_iadd K0 dJ6_numberOfTrailingZeros_0f7a4_78 ?_
            exact hr _ _ _ _ ⟨by first | simp only [ntJ, h9, h23, h38, h52, h64, if_true, if_false] | simp only [ntJ, h9, if_false], rfl⟩ dJ6_numberOfTrailingZeros_0f7a4_79
      · refine X_iinc (v := ((1 + 16) + 8)) (L' := [(1, .int ((1 + 16) + 8)), (0, .int (ush ((x ^^^ (-1)) &&& (x - 1)) 16))]) K0 1 dJ6_numberOfTrailingZeros_0f7a4_41 rfl (by first | rfl | decide) (by decide) rfl ?_
        refine X_iload_n K0 1 dJ6_numberOfTrailingZeros_0f7a4_44 rfl rfl ?_
        refine X_bipush (v := 8) K0 dJ6_numberOfTrailingZeros_0f7a4_45 (by decide) ?_
        refine X_iushr (v := (ush (ush ((x ^^^ (-1)) &&& (x - 1)) 16) 8)) K0 dJ6_numberOfTrailingZeros_0f7a4_47 rfl ?_
        refine X_istore_n (L' := [(0, .int (ush (ush ((x ^^^ (-1)) &&& (x - 1)) 16) 8)), (1, .int ((1 + 16) + 8))]) K0 dJ6_numberOfTrailingZeros_0f7a4_48 rfl (by decide) rfl ?_
        refine X_iload_n K0 0 dJ6_numberOfTrailingZeros_0f7a4_49 rfl rfl ?_
        refine X_bipush (v := 16) K0 dJ6_numberOfTrailingZeros_0f7a4_50 (by decide) ?_
        refine X_icmp_le K0 62 dJ6_numberOfTrailingZeros_0f7a4_52 (by decide) (fun h52 => ?_) (fun h52 => ?_)
        · refine X_iload_n K0 0 dJ6_numberOfTrailingZeros_0f7a4_62 rfl rfl ?_
          refine X_iconst (v := 4) K0 dJ6_numberOfTrailingZeros_0f7a4_63 (by decide) ?_
          refine X_icmp_le K0 74 dJ6_numberOfTrailingZeros_0f7a4_64 (by decide) (fun h64 => ?_) (fun h64 => ?_)
          · refine X_iload_n K0 1 dJ6_numberOfTrailingZeros_0f7a4_74 rfl rfl ?_
            refine X_iload_n K0 0 dJ6_numberOfTrailingZeros_0f7a4_75 rfl rfl ?_
            refine X_iconst (v := 1) K0 dJ6_numberOfTrailingZeros_0f7a4_76 (by decide) ?_
            refine X_iushr (v := (ush (ush (ush ((x ^^^ (-1)) &&& (x - 1)) 16) 8) 1)) K0 dJ6_numberOfTrailingZeros_0f7a4_77 rfl ?_
            refine X_iadd K0 dJ6_numberOfTrailingZeros_0f7a4_78 ?_
            exact hr _ _ _ _ ⟨by first | simp only [ntJ, h9, h23, h38, h52, h64, if_true, if_false] | simp only [ntJ, h9, if_false], rfl⟩ dJ6_numberOfTrailingZeros_0f7a4_79
          · refine X_iinc (v := (((1 + 16) + 8) + 2)) (L' := [(1, .int (((1 + 16) + 8) + 2)), (0, .int (ush (ush ((x ^^^ (-1)) &&& (x - 1)) 16) 8))]) K0 1 dJ6_numberOfTrailingZeros_0f7a4_67 rfl (by first | rfl | decide) (by decide) rfl ?_
            refine X_iload_n K0 1 dJ6_numberOfTrailingZeros_0f7a4_70 rfl rfl ?_
            refine X_iconst (v := 2) K0 dJ6_numberOfTrailingZeros_0f7a4_71 (by decide) ?_
            refine X_iushr (v := (ush (ush (ush ((x ^^^ (-1)) &&& (x - 1)) 16) 8) 2)) K0 dJ6_numberOfTrailingZeros_0f7a4_72 rfl ?_
            refine X_istore_n (L' := [(0, .int (ush (ush (ush ((x ^^^ (-1)) &&& (x - 1)) 16) 8) 2)), (1, .int (((1 + 16) + 8) + 2))]) K0 dJ6_numberOfTrailingZeros_0f7a4_73 rfl (by decide) rfl ?_
            refine X_iload_n K0 1 dJ6_numberOfTrailingZeros_0f7a4_74 rfl rfl ?_
            refine X_iload_n K0 0 dJ6_numberOfTrailingZeros_0f7a4_75 rfl rfl ?_
            refine X_iconst (v := 1) K0 dJ6_numberOfTrailingZeros_0f7a4_76 (by decide) ?_
            refine X_iushr (v := (ush (ush (ush (ush ((x ^^^ (-1)) &&& (x - 1)) 16) 8) 2) 1)) K0 dJ6_numberOfTrailingZeros_0f7a4_77 rfl ?_
            refine X_iadd K0 dJ6_numberOfTrailingZeros_0f7a4_78 ?_
            exact hr _ _ _ _ ⟨by first | simp only [ntJ, h9, h23, h38, h52, h64, if_true, if_false] | simp only [ntJ, h9, if_false], rfl⟩ dJ6_numberOfTrailingZeros_0f7a4_79
        · refine X_iinc (v := (((1 + 16) + 8) + 4)) (L' := [(1, .int (((1 + 16) + 8) + 4)), (0, .int (ush (ush ((x ^^^ (-1)) &&& (x - 1)) 16) 8))]) K0 1 dJ6_numberOfTrailingZeros_0f7a4_55 rfl (by first | rfl | decide) (by decide) rfl ?_
          refine X_iload_n K0 1 dJ6_numberOfTrailingZeros_0f7a4_58 rfl rfl ?_
          refine X_iconst (v := 4) K0 dJ6_numberOfTrailingZeros_0f7a4_59 (by decide) ?_
          refine X_iushr (v := (ush (ush (ush ((x ^^^ (-1)) &&& (x - 1)) 16) 8) 4)) K0 dJ6_numberOfTrailingZeros_0f7a4_60 rfl ?_
          refine X_istore_n (L' := [(0, .int (ush (ush (ush ((x ^^^ (-1)) &&& (x - 1)) 16) 8) 4)), (1, .int (((1 + 16) + 8) + 4))]) K0 dJ6_numberOfTrailingZeros_0f7a4_61 rfl (by decide) rfl ?_
          refine X_iload_n K0 0 dJ6_numberOfTrailingZeros_0f7a4_62 rfl rfl ?_
          refine X_iconst (v := 4) K0 dJ6_numberOfTrailingZeros_0f7a4_63 (by decide) ?_
          refine X_icmp_le K0 74 dJ6_numberOfTrailingZeros_0f7a4_64 (by decide) (fun h64 => ?_) (fun h64 => ?_)
          · refine X_iload_n K0 1 dJ6_numberOfTrailingZeros_0f7a4_74 rfl rfl ?_
            refine X_iload_n K0 0 dJ6_numberOfTrailingZeros_0f7a4_75 rfl rfl ?_
            refine X_iconst (v := 1) K0 dJ6_numberOfTrailingZeros_0f7a4_76 (by decide) ?_
            refine X_iushr (v := (ush (ush (ush (ush ((x ^^^ (-1)) &&& (x - 1)) 16) 8) 4) 1)) K0 dJ6_numberOfTrailingZeros_0f7a4_77 rfl ?_
            refine X_iadd K0 dJ6_numberOfTrailingZeros_0f7a4_78 ?_
            exact hr _ _ _ _ ⟨by first | simp only [ntJ, h9, h23, h38, h52, h64, if_true, if_false] | simp only [ntJ, h9, if_false], rfl⟩ dJ6_numberOfTrailingZeros_0f7a4_79
          · refine X_iinc (v := ((((1 + 16) + 8) + 4) + 2)) (L' := [(1, .int ((((1 + 16) + 8) + 4) + 2)), (0, .int (ush (ush (ush ((x ^^^ (-1)) &&& (x - 1)) 16) 8) 4))]) K0 1 dJ6_numberOfTrailingZeros_0f7a4_67 rfl (by first | rfl | decide) (by decide) rfl ?_
            refine X_iload_n K0 1 dJ6_numberOfTrailingZeros_0f7a4_70 rfl rfl ?_
            refine X_iconst (v := 2) K0 dJ6_numberOfTrailingZeros_0f7a4_71 (by decide) ?_
            refine X_iushr (v := (ush (ush (ush (ush ((x ^^^ (-1)) &&& (x - 1)) 16) 8) 4) 2)) K0 dJ6_numberOfTrailingZeros_0f7a4_72 rfl ?_
            refine X_istore_n (L' := [(0, .int (ush (ush (ush (ush ((x ^^^ (-1)) &&& (x - 1)) 16) 8) 4) 2)), (1, .int ((((1 + 16) + 8) + 4) + 2))]) K0 dJ6_numberOfTrailingZeros_0f7a4_73 rfl (by decide) rfl ?_
            refine X_iload_n K0 1 dJ6_numberOfTrailingZeros_0f7a4_74 rfl rfl ?_
            refine X_iload_n K0 0 dJ6_numberOfTrailingZeros_0f7a4_75 rfl rfl ?_
            refine X_iconst (v := 1) K0 dJ6_numberOfTrailingZeros_0f7a4_76 (by decide) ?_
            refine X_iushr (v := (ush (ush (ush (ush (ush ((x ^^^ (-1)) &&& (x - 1)) 16) 8) 4) 2) 1)) K0 dJ6_numberOfTrailingZeros_0f7a4_77 rfl ?_
            refine X_iadd K0 dJ6_numberOfTrailingZeros_0f7a4_78 ?_
            exact hr _ _ _ _ ⟨by first | simp only [ntJ, h9, h23, h38, h52, h64, if_true, if_false] | simp only [ntJ, h9, if_false], rfl⟩ dJ6_numberOfTrailingZeros_0f7a4_79
  · refine X_iload_n K0 0 dJ6_numberOfTrailingZeros_0f7a4_12 rfl rfl ?_
    refine X_bipush (v := 32) K0 dJ6_numberOfTrailingZeros_0f7a4_13 (by decide) ?_
    refine X_iand K0 dJ6_numberOfTrailingZeros_0f7a4_15 ?_
    exact hr _ _ _ _ ⟨by first | simp only [ntJ, h9, h23, h38, h52, h64, if_true, if_false] | simp only [ntJ, h9, if_false], rfl⟩ dJ6_numberOfTrailingZeros_0f7a4_16

set_option maxRecDepth 20000 in
set_option maxHeartbeats 400000 in
theorem c_heap (g : Gx) (o pl sl th ki el nu wa wo pg ga sh : Nat) (R C : Nat) (op : Bool) (T : Nat) (slots : Nat → Int32) (ap rr rd : Int32) (m : Nat) (al : Int64) (kinds elders numbers : Nat → Int32) (waf wof : Nat → Int64) (sp : Int32 × Int32 × Int32) (sg : Int32 × Int32 × Int32 × Int32 × Int32) (shf : Nat → Option Nat) (asked : Int64) (fi : Int32) (rest : va_W) (hR : 1 ≤ R ∧ R ≤ 5) (hC : 1 ≤ C ∧ C ≤ 5) (hT : T ≤ 40) (hm : m ≤ 12) (se x : Int32) : Con g yX4_heap cX4_heap 4 (some .int) 3 69 0 0 [.ref o, .int se, .int x] ((o, oMain pl th pg ga sh asked fi) :: (pl, oPlan (nI R) (nI C) (bI op) (nI T) ap rr rd sl) :: (sl, aI g 40 slots) :: (th, oThings pl ki el nu (nI m) al wa wo) :: (ki, aI g 40 kinds) :: (el, aI g 40 elders) :: (nu, aI g 40 numbers) :: (wa, aJ g 12 waf) :: (wo, aJ g 12 wof) :: (pg, oGrid (nI R) (nI C) sp.1 sp.2.1 sp.2.2) :: (ga, oGrid sg.1 sg.2.1 sg.2.2.1 sg.2.2.2.1 sg.2.2.2.2) :: (sh, aS g 3 shf) :: rest) (fun v w' => v = some (.int (hpV R C op ap rr rd al waf wof m se x)) ∧ ∃ sp' : Sp3, ((o, oMain pl th pg ga sh asked fi) :: (pl, oPlan (nI R) (nI C) (bI op) (nI T) ap rr rd sl) :: (sl, aI g 40 slots) :: (th, oThings pl ki el nu (nI m) al wa wo) :: (ki, aI g 40 kinds) :: (el, aI g 40 elders) :: (nu, aI g 40 numbers) :: (wa, aJ g 12 waf) :: (wo, aJ g 12 wof) :: (pg, oGrid (nI R) (nI C) sp'.1 sp'.2.1 sp'.2.2) :: (ga, oGrid sg.1 sg.2.1 sg.2.2.1 sg.2.2.2.1 sg.2.2.2.2) :: (sh, aS g 3 shf) :: rest) = w') := by
  refine Con.ofI (by decide +kernel) (Nat.le_of_ble_eq_true rfl) (fun φ K0 hr => ?_)
  show X φ 0 0 ((o, oMain pl th pg ga sh asked fi) :: (pl, oPlan (nI R) (nI C) (bI op) (nI T) ap rr rd sl) :: (sl, aI g 40 slots) :: (th, oThings pl ki el nu (nI m) al wa wo) :: (ki, aI g 40 kinds) :: (el, aI g 40 elders) :: (nu, aI g 40 numbers) :: (wa, aJ g 12 waf) :: (wo, aJ g 12 wof) :: (pg, oGrid (nI R) (nI C) sp.1 sp.2.1 sp.2.2) :: (ga, oGrid sg.1 sg.2.1 sg.2.2.1 sg.2.2.2.1 sg.2.2.2.2) :: (sh, aS g 3 shf) :: rest) [(0, .ref o), (1, .int se), (2, .int x)] 0 []
  refine X_aload_n K0 0 dX4_heap_0 rfl rfl ?_
  refine X_iload_n K0 1 dX4_heap_1 rfl rfl ?_
  refine X_callV (As := [.int se]) (rest := []) K0 0 (c_isSetting g o pl sl th ki el nu wa wo pg ga sh R C op T slots ap rr rd m al kinds elders numbers waf wof sp sg shf asked fi rest hR hC hT hm se) mi_X4_isSetting rfl rfl rfl ml_RX4_108 rfl (Nat.le_of_ble_eq_true rfl) (by decide) ⟨Nat.le_of_ble_eq_true rfl, Nat.le_of_ble_eq_true rfl⟩ rfl rfl dX4_heap_2 ?_
  intro v w' hr'; obtain ⟨rfl, rfl⟩ := hr'
  show X φ 0 0 ((o, oMain pl th pg ga sh asked fi) :: (pl, oPlan (nI R) (nI C) (bI op) (nI T) ap rr rd sl) :: (sl, aI g 40 slots) :: (th, oThings pl ki el nu (nI m) al wa wo) :: (ki, aI g 40 kinds) :: (el, aI g 40 elders) :: (nu, aI g 40 numbers) :: (wa, aJ g 12 waf) :: (wo, aJ g 12 wof) :: (pg, oGrid (nI R) (nI C) sp.1 sp.2.1 sp.2.2) :: (ga, oGrid sg.1 sg.2.1 sg.2.2.1 sg.2.2.2.1 sg.2.2.2.2) :: (sh, aS g 3 shf) :: rest) [(0, .ref o), (1, .int se), (2, .int x)] 5 [.int (bI (wiB se 0 ((nI (2 ^ m)) - 1)))]
  refine X_if_eq K0 16 dX4_heap_5 (by decide) (fun h5 => ?_) (fun h5 => ?_)
  · refine X_iconst (v := (-1)) K0 dX4_heap_16 (by decide) ?_
    exact hr _ _ _ _ ⟨by first | (rw [hpV, if_pos (p_yy (bI_n0.mp h5) (bI_n0.mp h13)), heV, hpO, if_pos h29]) | (rw [hpV, if_pos (p_yy (bI_n0.mp h5) (bI_n0.mp h13)), heV, hpO, if_neg h29]) | simp [hpV, bI_0.mp h5, bI_0.mp h13] | simp [hpV, bI_0.mp h5, bI_n0.mp h13] | simp [hpV, bI_n0.mp h5, bI_0.mp h13] | simp [hpV, bI_n0.mp h5, bI_n0.mp h13] | simp [hpV, bI_0.mp h5] | simp [hpV, bI_n0.mp h5], sp, rfl⟩ dX4_heap_17
  · refine X_aload_n K0 0 dX4_heap_8 rfl rfl ?_
    refine X_iload_n K0 2 dX4_heap_9 rfl rfl ?_
    refine X_callV (As := [.int x]) (rest := []) K0 0 (c_isPlace g o pl sl th ki el nu wa wo pg ga sh R C op T slots ap rr rd m al kinds elders numbers waf wof sp sg shf asked fi rest hR hC hT hm x) mi_X4_isPlace rfl rfl rfl ml_RX4_132 rfl (Nat.le_of_ble_eq_true rfl) (by decide) ⟨Nat.le_of_ble_eq_true rfl, Nat.le_of_ble_eq_true rfl⟩ rfl rfl dX4_heap_10 ?_
    intro v w' hr'; obtain ⟨rfl, rfl⟩ := hr'
    show X φ 0 0 ((o, oMain pl th pg ga sh asked fi) :: (pl, oPlan (nI R) (nI C) (bI op) (nI T) ap rr rd sl) :: (sl, aI g 40 slots) :: (th, oThings pl ki el nu (nI m) al wa wo) :: (ki, aI g 40 kinds) :: (el, aI g 40 elders) :: (nu, aI g 40 numbers) :: (wa, aJ g 12 waf) :: (wo, aJ g 12 wof) :: (pg, oGrid (nI R) (nI C) sp.1 sp.2.1 sp.2.2) :: (ga, oGrid sg.1 sg.2.1 sg.2.2.1 sg.2.2.2.1 sg.2.2.2.2) :: (sh, aS g 3 shf) :: rest) [(0, .ref o), (1, .int se), (2, .int x)] 13 [.int (bI (wiB x 0 ((nI (R * C)) - 1)))]
    refine X_if_ne K0 18 dX4_heap_13 (by decide) (fun h13 => ?_) (fun h13 => ?_)
    · refine X_aload_n K0 0 dX4_heap_18 rfl rfl ?_
      refine X_iload_n K0 1 dX4_heap_19 rfl rfl ?_
      refine X_callV (As := [.int se]) (rest := []) K0 0 (c_placesBy g o pl sl th ki el nu wa wo pg ga sh R C op T slots ap rr rd m al kinds elders numbers waf wof sp sg shf asked fi rest hR hC hT hm se) mi_X4_placesBy rfl rfl rfl ml_RX4_121 rfl (Nat.le_of_ble_eq_true rfl) (by decide) ⟨Nat.le_of_ble_eq_true rfl, Nat.le_of_ble_eq_true rfl⟩ rfl rfl dX4_heap_20 ?_
      intro v w' hr'; obtain ⟨rfl, rfl⟩ := hr'
      show X φ 0 0 ((o, oMain pl th pg ga sh asked fi) :: (pl, oPlan (nI R) (nI C) (bI op) (nI T) ap rr rd sl) :: (sl, aI g 40 slots) :: (th, oThings pl ki el nu (nI m) al wa wo) :: (ki, aI g 40 kinds) :: (el, aI g 40 elders) :: (nu, aI g 40 numbers) :: (wa, aJ g 12 waf) :: (wo, aJ g 12 wof) :: (pg, oGrid (nI R) (nI C) (pbC op ap (opF al waf wof se m)) (pbR op rr (opF al waf wof se m)) (pbD op rd (nI C) (opF al waf wof se m))) :: (ga, oGrid sg.1 sg.2.1 sg.2.2.1 sg.2.2.2.1 sg.2.2.2.2) :: (sh, aS g 3 shf) :: rest) [(0, .ref o), (1, .int se), (2, .int x)] 23 [.ref pg]
      refine X_iload_n K0 2 dX4_heap_23 rfl rfl ?_
      refine X_callV (As := [.int x]) (rest := []) K0 9 (c_heapAt g ((o, oMain pl th pg ga sh asked fi) :: (pl, oPlan (nI R) (nI C) (bI op) (nI T) ap rr rd sl) :: (sl, aI g 40 slots) :: (th, oThings pl ki el nu (nI m) al wa wo) :: (ki, aI g 40 kinds) :: (el, aI g 40 elders) :: (nu, aI g 40 numbers) :: (wa, aJ g 12 waf) :: (wo, aJ g 12 wof) :: (pg, oGrid (nI R) (nI C) (pbC op ap (opF al waf wof se m)) (pbR op rr (opF al waf wof se m)) (pbD op rd (nI C) (opF al waf wof se m))) :: (ga, oGrid sg.1 sg.2.1 sg.2.2.1 sg.2.2.2.1 sg.2.2.2.2) :: (sh, aS g 3 shf) :: rest) 9 pg (nI R) (nI C) (pbC op ap (opF al waf wof se m)) (pbR op rr (opF al waf wof se m)) (pbD op rd (nI C) (opF al waf wof se m)) rfl x) mi_X0_heapAt rfl rfl rfl ml_RX4_135 rfl (Nat.le_of_ble_eq_true rfl) (by decide) ⟨Nat.le_of_ble_eq_true rfl, Nat.le_of_ble_eq_true rfl⟩ rfl rfl dX4_heap_24 ?_
      intro v w' hr'; obtain ⟨rfl, rfl⟩ := hr'
      show X φ 0 0 ((o, oMain pl th pg ga sh asked fi) :: (pl, oPlan (nI R) (nI C) (bI op) (nI T) ap rr rd sl) :: (sl, aI g 40 slots) :: (th, oThings pl ki el nu (nI m) al wa wo) :: (ki, aI g 40 kinds) :: (el, aI g 40 elders) :: (nu, aI g 40 numbers) :: (wa, aJ g 12 waf) :: (wo, aJ g 12 wof) :: (pg, oGrid (nI R) (nI C) (pbC op ap (opF al waf wof se m)) (pbR op rr (opF al waf wof se m)) (pbD op rd (nI C) (opF al waf wof se m))) :: (ga, oGrid sg.1 sg.2.1 sg.2.2.1 sg.2.2.2.1 sg.2.2.2.2) :: (sh, aS g 3 shf) :: rest) [(0, .ref o), (1, .int se), (2, .int x)] 27 [.int (haF (nI C) (pbC op ap (opF al waf wof se m)) (pbR op rr (opF al waf wof se m)) (pbD op rd (nI C) (opF al waf wof se m)) x)]
      refine X_istore_n (L' := [(3, .int (haF (nI C) (pbC op ap (opF al waf wof se m)) (pbR op rr (opF al waf wof se m)) (pbD op rd (nI C) (opF al waf wof se m)) x)), (0, .ref o), (1, .int se), (2, .int x)]) K0 dX4_heap_27 rfl (by decide) rfl ?_
      refine X_iload_n K0 0 dX4_heap_28 rfl rfl ?_
      refine X_if_ne K0 37 dX4_heap_29 (by decide) (fun h29 => ?_) (fun h29 => ?_)
      · refine X_iload_n K0 0 dX4_heap_37 rfl rfl ?_
        refine X_callS (As := [.int (haF (nI C) (pbC op ap (opF al waf wof se m)) (pbR op rr (opF al waf wof se m)) (pbD op rd (nI C) (opF al waf wof se m)) x)]) (rest := []) K0 (c_ntz g ((o, oMain pl th pg ga sh asked fi) :: (pl, oPlan (nI R) (nI C) (bI op) (nI T) ap rr rd sl) :: (sl, aI g 40 slots) :: (th, oThings pl ki el nu (nI m) al wa wo) :: (ki, aI g 40 kinds) :: (el, aI g 40 elders) :: (nu, aI g 40 numbers) :: (wa, aJ g 12 waf) :: (wo, aJ g 12 wof) :: (pg, oGrid (nI R) (nI C) (pbC op ap (opF al waf wof se m)) (pbR op rr (opF al waf wof se m)) (pbD op rd (nI C) (opF al waf wof se m))) :: (ga, oGrid sg.1 sg.2.1 sg.2.2.1 sg.2.2.2.1 sg.2.2.2.2) :: (sh, aS g 3 shf) :: rest) (haF (nI C) (pbC op ap (opF al waf wof se m)) (pbR op rr (opF al waf wof se m)) (pbD op rd (nI C) (opF al waf wof se m)) x)) ms_J6_numberOfTrailingZeros_0f7a4 rfl ml_RX4_138 rfl (Nat.le_of_ble_eq_true rfl) (by decide) ⟨Nat.le_of_ble_eq_true rfl, Nat.le_of_ble_eq_true rfl⟩ rfl rfl dX4_heap_38 ?_
        intro v w' hr'; obtain ⟨rfl, rfl⟩ := hr'
        show X φ 0 0 ((o, oMain pl th pg ga sh asked fi) :: (pl, oPlan (nI R) (nI C) (bI op) (nI T) ap rr rd sl) :: (sl, aI g 40 slots) :: (th, oThings pl ki el nu (nI m) al wa wo) :: (ki, aI g 40 kinds) :: (el, aI g 40 elders) :: (nu, aI g 40 numbers) :: (wa, aJ g 12 waf) :: (wo, aJ g 12 wof) :: (pg, oGrid (nI R) (nI C) (pbC op ap (opF al waf wof se m)) (pbR op rr (opF al waf wof se m)) (pbD op rd (nI C) (opF al waf wof se m))) :: (ga, oGrid sg.1 sg.2.1 sg.2.2.1 sg.2.2.2.1 sg.2.2.2.2) :: (sh, aS g 3 shf) :: rest) [(3, .int (haF (nI C) (pbC op ap (opF al waf wof se m)) (pbR op rr (opF al waf wof se m)) (pbD op rd (nI C) (opF al waf wof se m)) x)), (0, .ref o), (1, .int se), (2, .int x)] 41 [.int (ntJ (haF (nI C) (pbC op ap (opF al waf wof se m)) (pbR op rr (opF al waf wof se m)) (pbD op rd (nI C) (opF al waf wof se m)) x))]
        exact hr _ _ _ _ ⟨by first | (rw [hpV, if_pos (p_yy (bI_n0.mp h5) (bI_n0.mp h13)), heV, hpO, if_pos h29]) | (rw [hpV, if_pos (p_yy (bI_n0.mp h5) (bI_n0.mp h13)), heV, hpO, if_neg h29]) | simp [hpV, bI_0.mp h5, bI_0.mp h13] | simp [hpV, bI_0.mp h5, bI_n0.mp h13] | simp [hpV, bI_n0.mp h5, bI_0.mp h13] | simp [hpV, bI_n0.mp h5, bI_n0.mp h13] | simp [hpV, bI_0.mp h5] | simp [hpV, bI_n0.mp h5], ((pbC op ap (opF al waf wof se m)), (pbR op rr (opF al waf wof se m)), (pbD op rd (nI C) (opF al waf wof se m))), rfl⟩ dX4_heap_41
      · refine X_bipush (v := (-9)) K0 dX4_heap_32 (by decide) ?_
        refine X_goto K0 41 dX4_heap_34 (by decide) ?_
        exact hr _ _ _ _ ⟨by first | (rw [hpV, if_pos (p_yy (bI_n0.mp h5) (bI_n0.mp h13)), heV, hpO, if_pos h29]) | (rw [hpV, if_pos (p_yy (bI_n0.mp h5) (bI_n0.mp h13)), heV, hpO, if_neg h29]) | simp [hpV, bI_0.mp h5, bI_0.mp h13] | simp [hpV, bI_0.mp h5, bI_n0.mp h13] | simp [hpV, bI_n0.mp h5, bI_0.mp h13] | simp [hpV, bI_n0.mp h5, bI_n0.mp h13] | simp [hpV, bI_0.mp h5] | simp [hpV, bI_n0.mp h5], ((pbC op ap (opF al waf wof se m)), (pbR op rr (opF al waf wof se m)), (pbD op rd (nI C) (opF al waf wof se m))), rfl⟩ dX4_heap_41
    · refine X_iconst (v := (-1)) K0 dX4_heap_16 (by decide) ?_
      exact hr _ _ _ _ ⟨by first | (rw [hpV, if_pos (p_yy (bI_n0.mp h5) (bI_n0.mp h13)), heV, hpO, if_pos h29]) | (rw [hpV, if_pos (p_yy (bI_n0.mp h5) (bI_n0.mp h13)), heV, hpO, if_neg h29]) | simp [hpV, bI_0.mp h5, bI_0.mp h13] | simp [hpV, bI_0.mp h5, bI_n0.mp h13] | simp [hpV, bI_n0.mp h5, bI_0.mp h13] | simp [hpV, bI_n0.mp h5, bI_n0.mp h13] | simp [hpV, bI_0.mp h5] | simp [hpV, bI_n0.mp h5], sp, rfl⟩ dX4_heap_17

set_option maxRecDepth 20000 in
set_option maxHeartbeats 400000 in
theorem c_chance (g : Gx) (o pl sl th ki el nu wa wo pg ga sh : Nat) (R C : Nat) (op : Bool) (T : Nat) (slots : Nat → Int32) (ap rr rd : Int32) (m : Nat) (al : Int64) (kinds elders numbers : Nat → Int32) (waf wof : Nat → Int64) (sp : Int32 × Int32 × Int32) (sg : Int32 × Int32 × Int32 × Int32 × Int32) (shf : Nat → Option Nat) (asked : Int64) (fi : Int32) (rest : va_W) (hR : 1 ≤ R ∧ R ≤ 5) (hC : 1 ≤ C ∧ C ≤ 5) (hT : T ≤ 40) (hm : m ≤ 12) (way p q : Int32) : Con g yX4_chance cX4_chance 7 (some .long) 5 116 0 0 [.ref o, .int way, .int p, .int q] ((o, oMain pl th pg ga sh asked fi) :: (pl, oPlan (nI R) (nI C) (bI op) (nI T) ap rr rd sl) :: (sl, aI g 40 slots) :: (th, oThings pl ki el nu (nI m) al wa wo) :: (ki, aI g 40 kinds) :: (el, aI g 40 elders) :: (nu, aI g 40 numbers) :: (wa, aJ g 12 waf) :: (wo, aJ g 12 wof) :: (pg, oGrid (nI R) (nI C) sp.1 sp.2.1 sp.2.2) :: (ga, oGrid sg.1 sg.2.1 sg.2.2.1 sg.2.2.2.1 sg.2.2.2.2) :: (sh, aS g 3 shf) :: rest) (fun v w' => v = some (.long (cvV R C op ap rr rd al waf wof m way p q)) ∧ ∃ sp' : Sp3, ((o, oMain pl th pg ga sh asked fi) :: (pl, oPlan (nI R) (nI C) (bI op) (nI T) ap rr rd sl) :: (sl, aI g 40 slots) :: (th, oThings pl ki el nu (nI m) al wa wo) :: (ki, aI g 40 kinds) :: (el, aI g 40 elders) :: (nu, aI g 40 numbers) :: (wa, aJ g 12 waf) :: (wo, aJ g 12 wof) :: (pg, oGrid (nI R) (nI C) sp'.1 sp'.2.1 sp'.2.2) :: (ga, oGrid sg.1 sg.2.1 sg.2.2.1 sg.2.2.2.1 sg.2.2.2.2) :: (sh, aS g 3 shf) :: rest) = w') := by
  have hN := pow_m hm
  refine Con.ofL (by decide +kernel) (Nat.le_of_ble_eq_true rfl) (fun φ K0 hr => ?_)
  show X φ 0 0 ((o, oMain pl th pg ga sh asked fi) :: (pl, oPlan (nI R) (nI C) (bI op) (nI T) ap rr rd sl) :: (sl, aI g 40 slots) :: (th, oThings pl ki el nu (nI m) al wa wo) :: (ki, aI g 40 kinds) :: (el, aI g 40 elders) :: (nu, aI g 40 numbers) :: (wa, aJ g 12 waf) :: (wo, aJ g 12 wof) :: (pg, oGrid (nI R) (nI C) sp.1 sp.2.1 sp.2.2) :: (ga, oGrid sg.1 sg.2.1 sg.2.2.1 sg.2.2.2.1 sg.2.2.2.2) :: (sh, aS g 3 shf) :: rest) [(0, .ref o), (1, .int way), (2, .int p), (3, .int q)] 0 []
  refine X_iload_n K0 1 dX4_chance_0 rfl rfl ?_
  refine X_callS (As := [.int way]) (rest := []) K0 (c_isWay g ((o, oMain pl th pg ga sh asked fi) :: (pl, oPlan (nI R) (nI C) (bI op) (nI T) ap rr rd sl) :: (sl, aI g 40 slots) :: (th, oThings pl ki el nu (nI m) al wa wo) :: (ki, aI g 40 kinds) :: (el, aI g 40 elders) :: (nu, aI g 40 numbers) :: (wa, aJ g 12 waf) :: (wo, aJ g 12 wof) :: (pg, oGrid (nI R) (nI C) sp.1 sp.2.1 sp.2.2) :: (ga, oGrid sg.1 sg.2.1 sg.2.2.1 sg.2.2.2.1 sg.2.2.2.2) :: (sh, aS g 3 shf) :: rest) way) ms_X4_isWay rfl ml_RX4_149 rfl (Nat.le_of_ble_eq_true rfl) (by decide) ⟨Nat.le_of_ble_eq_true rfl, Nat.le_of_ble_eq_true rfl⟩ rfl rfl dX4_chance_1 ?_
  intro v w' hr'; obtain ⟨rfl, rfl⟩ := hr'
  show X φ 0 0 ((o, oMain pl th pg ga sh asked fi) :: (pl, oPlan (nI R) (nI C) (bI op) (nI T) ap rr rd sl) :: (sl, aI g 40 slots) :: (th, oThings pl ki el nu (nI m) al wa wo) :: (ki, aI g 40 kinds) :: (el, aI g 40 elders) :: (nu, aI g 40 numbers) :: (wa, aJ g 12 waf) :: (wo, aJ g 12 wof) :: (pg, oGrid (nI R) (nI C) sp.1 sp.2.1 sp.2.2) :: (ga, oGrid sg.1 sg.2.1 sg.2.2.1 sg.2.2.2.1 sg.2.2.2.2) :: (sh, aS g 3 shf) :: rest) [(0, .ref o), (1, .int way), (2, .int p), (3, .int q)] 4 [.int (bI (wiB way 0 3))]
  refine X_if_eq K0 26 dX4_chance_4 (by decide) (fun h4 => ?_) (fun h4 => ?_)
  · refine X_ldc2 K0 co_RX4_168 dX4_chance_26 ?_
    exact hr _ _ _ _ ⟨by first | simp [cvV, bI_0.mp h4, bI_0.mp h14, bI_0.mp h23] | simp [cvV, bI_0.mp h4, bI_0.mp h14, bI_n0.mp h23] | simp [cvV, bI_0.mp h4, bI_n0.mp h14, bI_0.mp h23] | simp [cvV, bI_0.mp h4, bI_n0.mp h14, bI_n0.mp h23] | simp [cvV, bI_n0.mp h4, bI_0.mp h14, bI_0.mp h23] | simp [cvV, bI_n0.mp h4, bI_0.mp h14, bI_n0.mp h23] | simp [cvV, bI_n0.mp h4, bI_n0.mp h14, bI_0.mp h23] | simp [cvV, bI_n0.mp h4, bI_n0.mp h14, bI_n0.mp h23] | simp [cvV, bI_0.mp h4, bI_0.mp h14] | simp [cvV, bI_0.mp h4, bI_n0.mp h14] | simp [cvV, bI_n0.mp h4, bI_0.mp h14] | simp [cvV, bI_n0.mp h4, bI_n0.mp h14] | simp [cvV, bI_0.mp h4] | simp [cvV, bI_n0.mp h4], sp, rfl⟩ dX4_chance_29
  · refine X_iload_n K0 3 dX4_chance_7 rfl rfl ?_
    refine X_iconst (v := 1) K0 dX4_chance_8 (by decide) ?_
    refine X_bipush (v := 9) K0 dX4_chance_9 (by decide) ?_
    refine X_callS (As := [.int q, .int 1, .int 9]) (rest := []) K0 (c_isWithin g ((o, oMain pl th pg ga sh asked fi) :: (pl, oPlan (nI R) (nI C) (bI op) (nI T) ap rr rd sl) :: (sl, aI g 40 slots) :: (th, oThings pl ki el nu (nI m) al wa wo) :: (ki, aI g 40 kinds) :: (el, aI g 40 elders) :: (nu, aI g 40 numbers) :: (wa, aJ g 12 waf) :: (wo, aJ g 12 wof) :: (pg, oGrid (nI R) (nI C) sp.1 sp.2.1 sp.2.2) :: (ga, oGrid sg.1 sg.2.1 sg.2.2.1 sg.2.2.2.1 sg.2.2.2.2) :: (sh, aS g 3 shf) :: rest) q 1 9) ms_X4_isWithin rfl ml_RX4_53 rfl (Nat.le_of_ble_eq_true rfl) (by decide) ⟨Nat.le_of_ble_eq_true rfl, Nat.le_of_ble_eq_true rfl⟩ rfl rfl dX4_chance_11 ?_
    intro v w' hr'; obtain ⟨rfl, rfl⟩ := hr'
    show X φ 0 0 ((o, oMain pl th pg ga sh asked fi) :: (pl, oPlan (nI R) (nI C) (bI op) (nI T) ap rr rd sl) :: (sl, aI g 40 slots) :: (th, oThings pl ki el nu (nI m) al wa wo) :: (ki, aI g 40 kinds) :: (el, aI g 40 elders) :: (nu, aI g 40 numbers) :: (wa, aJ g 12 waf) :: (wo, aJ g 12 wof) :: (pg, oGrid (nI R) (nI C) sp.1 sp.2.1 sp.2.2) :: (ga, oGrid sg.1 sg.2.1 sg.2.2.1 sg.2.2.2.1 sg.2.2.2.2) :: (sh, aS g 3 shf) :: rest) [(0, .ref o), (1, .int way), (2, .int p), (3, .int q)] 14 [.int (bI (wiB q 1 9))]
    refine X_if_eq K0 26 dX4_chance_14 (by decide) (fun h14 => ?_) (fun h14 => ?_)
    · refine X_ldc2 K0 co_RX4_168 dX4_chance_26 ?_
      exact hr _ _ _ _ ⟨by first | simp [cvV, bI_0.mp h4, bI_0.mp h14, bI_0.mp h23] | simp [cvV, bI_0.mp h4, bI_0.mp h14, bI_n0.mp h23] | simp [cvV, bI_0.mp h4, bI_n0.mp h14, bI_0.mp h23] | simp [cvV, bI_0.mp h4, bI_n0.mp h14, bI_n0.mp h23] | simp [cvV, bI_n0.mp h4, bI_0.mp h14, bI_0.mp h23] | simp [cvV, bI_n0.mp h4, bI_0.mp h14, bI_n0.mp h23] | simp [cvV, bI_n0.mp h4, bI_n0.mp h14, bI_0.mp h23] | simp [cvV, bI_n0.mp h4, bI_n0.mp h14, bI_n0.mp h23] | simp [cvV, bI_0.mp h4, bI_0.mp h14] | simp [cvV, bI_0.mp h4, bI_n0.mp h14] | simp [cvV, bI_n0.mp h4, bI_0.mp h14] | simp [cvV, bI_n0.mp h4, bI_n0.mp h14] | simp [cvV, bI_0.mp h4] | simp [cvV, bI_n0.mp h4], sp, rfl⟩ dX4_chance_29
    · refine X_iload_n K0 2 dX4_chance_17 rfl rfl ?_
      refine X_iconst (v := 0) K0 dX4_chance_18 (by decide) ?_
      refine X_iload_n K0 3 dX4_chance_19 rfl rfl ?_
      refine X_callS (As := [.int p, .int 0, .int q]) (rest := []) K0 (c_isWithin g ((o, oMain pl th pg ga sh asked fi) :: (pl, oPlan (nI R) (nI C) (bI op) (nI T) ap rr rd sl) :: (sl, aI g 40 slots) :: (th, oThings pl ki el nu (nI m) al wa wo) :: (ki, aI g 40 kinds) :: (el, aI g 40 elders) :: (nu, aI g 40 numbers) :: (wa, aJ g 12 waf) :: (wo, aJ g 12 wof) :: (pg, oGrid (nI R) (nI C) sp.1 sp.2.1 sp.2.2) :: (ga, oGrid sg.1 sg.2.1 sg.2.2.1 sg.2.2.2.1 sg.2.2.2.2) :: (sh, aS g 3 shf) :: rest) p 0 q) ms_X4_isWithin rfl ml_RX4_53 rfl (Nat.le_of_ble_eq_true rfl) (by decide) ⟨Nat.le_of_ble_eq_true rfl, Nat.le_of_ble_eq_true rfl⟩ rfl rfl dX4_chance_20 ?_
      intro v w' hr'; obtain ⟨rfl, rfl⟩ := hr'
      show X φ 0 0 ((o, oMain pl th pg ga sh asked fi) :: (pl, oPlan (nI R) (nI C) (bI op) (nI T) ap rr rd sl) :: (sl, aI g 40 slots) :: (th, oThings pl ki el nu (nI m) al wa wo) :: (ki, aI g 40 kinds) :: (el, aI g 40 elders) :: (nu, aI g 40 numbers) :: (wa, aJ g 12 waf) :: (wo, aJ g 12 wof) :: (pg, oGrid (nI R) (nI C) sp.1 sp.2.1 sp.2.2) :: (ga, oGrid sg.1 sg.2.1 sg.2.2.1 sg.2.2.2.1 sg.2.2.2.2) :: (sh, aS g 3 shf) :: rest) [(0, .ref o), (1, .int way), (2, .int p), (3, .int q)] 23 [.int (bI (wiB p 0 q))]
      refine X_if_ne K0 30 dX4_chance_23 (by decide) (fun h23 => ?_) (fun h23 => ?_)
      · refine X_lconst (v := 0) K0 dX4_chance_30 (by decide) ?_
        refine X_lstore (L' := [(4, .long 0), (0, .ref o), (1, .int way), (2, .int p), (3, .int q)]) K0 dX4_chance_31 (by decide) rfl ?_
        refine X_iconst (v := 0) K0 dX4_chance_33 (by decide) ?_
        refine X_istore (L' := [(6, .int 0), (4, .long 0), (0, .ref o), (1, .int way), (2, .int p), (3, .int q)]) K0 dX4_chance_34 (by decide) rfl ?_
        refine X.sub [2, 3, 4, 5, 1, 0] (L' := [(0, .ref o), (1, .int way), (2, .int p), (3, .int q), (4, .long 0), (6, .int 0)]) rfl ?_
        have LOOP : ∀ (dd ii : Nat), ii + dd = (m + 1) → ∀ (sq : Sp3), X φ 0 0 ((o, oMain pl th pg ga sh asked fi) :: (pl, oPlan (nI R) (nI C) (bI op) (nI T) ap rr rd sl) :: (sl, aI g 40 slots) :: (th, oThings pl ki el nu (nI m) al wa wo) :: (ki, aI g 40 kinds) :: (el, aI g 40 elders) :: (nu, aI g 40 numbers) :: (wa, aJ g 12 waf) :: (wo, aJ g 12 wof) :: (pg, oGrid (nI R) (nI C) sq.1 sq.2.1 sq.2.2) :: (ga, oGrid sg.1 sg.2.1 sg.2.2.1 sg.2.2.2.1 sg.2.2.2.2) :: (sh, aS g 3 shf) :: rest) [(0, .ref o), (1, .int way), (2, .int p), (3, .int q), (4, .long (chF (fun k => cnI (wsP R C op ap rr rd al waf wof m way (nI k)) (2 ^ m)) p q m ii)), (6, .int (nI ii))] 36 [] := by
          intro dd
          induction dd with
          | zero =>
            intro ii hii sq
            have hii2 : (m + 1) = ii := by omega
            subst hii2
            refine X_iload K0 5 dX4_chance_36 rfl ?_
            refine X_aload_n K0 0 dX4_chance_38 rfl rfl ?_
            refine X_get K0 0 rfl rfl hin4 1 (by decide) fl_RX4_21 rfl dX4_chance_39 ?_
            refine X_get K0 3 rfl rfl hin3 4 (by decide) fl_RX4_70 rfl dX4_chance_42 ?_
            refine X_icmp_gt K0 91 dX4_chance_45 (by decide) (fun h45 => ?_) (fun h45 => ?_)
            · refine X_lload K0 4 dX4_chance_91 rfl ?_
              exact hr _ _ _ _ ⟨by first | simp [cvV, bI_0.mp h4, bI_0.mp h14, bI_0.mp h23] | simp [cvV, bI_0.mp h4, bI_0.mp h14, bI_n0.mp h23] | simp [cvV, bI_0.mp h4, bI_n0.mp h14, bI_0.mp h23] | simp [cvV, bI_0.mp h4, bI_n0.mp h14, bI_n0.mp h23] | simp [cvV, bI_n0.mp h4, bI_0.mp h14, bI_0.mp h23] | simp [cvV, bI_n0.mp h4, bI_0.mp h14, bI_n0.mp h23] | simp [cvV, bI_n0.mp h4, bI_n0.mp h14, bI_0.mp h23] | simp [cvV, bI_n0.mp h4, bI_n0.mp h14, bI_n0.mp h23] | simp [cvV, bI_0.mp h4, bI_0.mp h14] | simp [cvV, bI_0.mp h4, bI_n0.mp h14] | simp [cvV, bI_n0.mp h4, bI_0.mp h14] | simp [cvV, bI_n0.mp h4, bI_n0.mp h14] | simp [cvV, bI_0.mp h4] | simp [cvV, bI_n0.mp h4], sq, rfl⟩ dX4_chance_93
            · exact absurd (nI_lt (Nat.lt_succ_self _) (by omega)) h45
          | succ dd ih =>
            intro ii hii sq
            have hlt : ii < (m + 1) := by omega
            refine X_iload K0 5 dX4_chance_36 rfl ?_
            refine X_aload_n K0 0 dX4_chance_38 rfl rfl ?_
            refine X_get K0 0 rfl rfl hin4 1 (by decide) fl_RX4_21 rfl dX4_chance_39 ?_
            refine X_get K0 3 rfl rfl hin3 4 (by decide) fl_RX4_70 rfl dX4_chance_42 ?_
            refine X_icmp_gt K0 91 dX4_chance_45 (by decide) (fun h45 => ?_) (fun h45 => ?_)
            · exact absurd h45 (nI_nlt (by omega) (by omega))
            · refine X_lload K0 4 dX4_chance_48 rfl ?_
              refine X_aload_n K0 0 dX4_chance_50 rfl rfl ?_
              refine X_iload_n K0 1 dX4_chance_51 rfl rfl ?_
              refine X_iload K0 5 dX4_chance_52 rfl ?_
              refine X_callV (As := [.int way, .int (nI ii)]) (rest := [.long (chF (fun k => cnI (wsP R C op ap rr rd al waf wof m way (nI k)) (2 ^ m)) p q m ii)]) K0 0 (c_waysOfSize g o pl sl th ki el nu wa wo pg ga sh R C op T slots ap rr rd m al kinds elders numbers waf wof sq sg shf asked fi rest hR hC hT hm way (nI ii)) mi_X4_waysOfSize rfl rfl rfl ml_RX4_155 rfl (Nat.le_of_ble_eq_true rfl) (by decide) ⟨Nat.le_of_ble_eq_true rfl, Nat.le_of_ble_eq_true rfl⟩ rfl rfl dX4_chance_54 ?_
              intro v w' hr'; obtain ⟨rfl, sp1, rfl⟩ := hr'
              show X φ 0 0 ((o, oMain pl th pg ga sh asked fi) :: (pl, oPlan (nI R) (nI C) (bI op) (nI T) ap rr rd sl) :: (sl, aI g 40 slots) :: (th, oThings pl ki el nu (nI m) al wa wo) :: (ki, aI g 40 kinds) :: (el, aI g 40 elders) :: (nu, aI g 40 numbers) :: (wa, aJ g 12 waf) :: (wo, aJ g 12 wof) :: (pg, oGrid (nI R) (nI C) sp1.1 sp1.2.1 sp1.2.2) :: (ga, oGrid sg.1 sg.2.1 sg.2.2.1 sg.2.2.2.1 sg.2.2.2.2) :: (sh, aS g 3 shf) :: rest) [(0, .ref o), (1, .int way), (2, .int p), (3, .int q), (4, .long (chF (fun k => cnI (wsP R C op ap rr rd al waf wof m way (nI k)) (2 ^ m)) p q m ii)), (6, .int (nI ii))] 57 [.int (cnI (wsP R C op ap rr rd al waf wof m way (nI ii)) (2 ^ m)), .long (chF (fun k => cnI (wsP R C op ap rr rd al waf wof m way (nI k)) (2 ^ m)) p q m ii)]
              refine X_i2l (v := ((cnI (wsP R C op ap rr rd al waf wof m way (nI ii)) (2 ^ m)).toInt64)) K0 dX4_chance_57 rfl ?_
              refine X_iload_n K0 2 dX4_chance_58 rfl rfl ?_
              refine X_iload K0 5 dX4_chance_59 rfl ?_
              refine X_callS (As := [.int p, .int (nI ii)]) (rest := [.long ((cnI (wsP R C op ap rr rd al waf wof m way (nI ii)) (2 ^ m)).toInt64), .long (chF (fun k => cnI (wsP R C op ap rr rd al waf wof m way (nI k)) (2 ^ m)) p q m ii)]) K0 (c_power g ((o, oMain pl th pg ga sh asked fi) :: (pl, oPlan (nI R) (nI C) (bI op) (nI T) ap rr rd sl) :: (sl, aI g 40 slots) :: (th, oThings pl ki el nu (nI m) al wa wo) :: (ki, aI g 40 kinds) :: (el, aI g 40 elders) :: (nu, aI g 40 numbers) :: (wa, aJ g 12 waf) :: (wo, aJ g 12 wof) :: (pg, oGrid (nI R) (nI C) sp1.1 sp1.2.1 sp1.2.2) :: (ga, oGrid sg.1 sg.2.1 sg.2.2.1 sg.2.2.2.1 sg.2.2.2.2) :: (sh, aS g 3 shf) :: rest) p ii (by omega)) ms_X4_power rfl ml_RX4_170 rfl (Nat.le_of_ble_eq_true rfl) (by decide) ⟨Nat.le_of_ble_eq_true rfl, Nat.le_of_ble_eq_true rfl⟩ rfl rfl dX4_chance_61 ?_
              intro v w' hr'; obtain ⟨rfl, rfl⟩ := hr'
              show X φ 0 0 ((o, oMain pl th pg ga sh asked fi) :: (pl, oPlan (nI R) (nI C) (bI op) (nI T) ap rr rd sl) :: (sl, aI g 40 slots) :: (th, oThings pl ki el nu (nI m) al wa wo) :: (ki, aI g 40 kinds) :: (el, aI g 40 elders) :: (nu, aI g 40 numbers) :: (wa, aJ g 12 waf) :: (wo, aJ g 12 wof) :: (pg, oGrid (nI R) (nI C) sp1.1 sp1.2.1 sp1.2.2) :: (ga, oGrid sg.1 sg.2.1 sg.2.2.1 sg.2.2.2.1 sg.2.2.2.2) :: (sh, aS g 3 shf) :: rest) [(0, .ref o), (1, .int way), (2, .int p), (3, .int q), (4, .long (chF (fun k => cnI (wsP R C op ap rr rd al waf wof m way (nI k)) (2 ^ m)) p q m ii)), (6, .int (nI ii))] 64 [.long (pwF p ii), .long ((cnI (wsP R C op ap rr rd al waf wof m way (nI ii)) (2 ^ m)).toInt64), .long (chF (fun k => cnI (wsP R C op ap rr rd al waf wof m way (nI k)) (2 ^ m)) p q m ii)]
              refine X_lmul K0 dX4_chance_64 ?_
              refine X_iload_n K0 3 dX4_chance_65 rfl rfl ?_
              refine X_iload_n K0 2 dX4_chance_66 rfl rfl ?_
              refine X_isub K0 dX4_chance_67 ?_
              refine X_aload_n K0 0 dX4_chance_68 rfl rfl ?_
              refine X_get K0 0 rfl rfl hin4 1 (by decide) fl_RX4_21 rfl dX4_chance_69 ?_
              refine X_get K0 3 rfl rfl hin3 4 (by decide) fl_RX4_70 rfl dX4_chance_72 ?_
              refine X_iload K0 5 dX4_chance_75 rfl ?_
              refine X_isub K0 dX4_chance_77 ?_
              refine X_v (z := (nI (m - ii))) (pk_sub (by omega)) ?_
              refine X_callS (As := [.int (q - p), .int (nI (m - ii))]) (rest := [.long (((cnI (wsP R C op ap rr rd al waf wof m way (nI ii)) (2 ^ m)).toInt64) * (pwF p ii)), .long (chF (fun k => cnI (wsP R C op ap rr rd al waf wof m way (nI k)) (2 ^ m)) p q m ii)]) K0 (c_power g ((o, oMain pl th pg ga sh asked fi) :: (pl, oPlan (nI R) (nI C) (bI op) (nI T) ap rr rd sl) :: (sl, aI g 40 slots) :: (th, oThings pl ki el nu (nI m) al wa wo) :: (ki, aI g 40 kinds) :: (el, aI g 40 elders) :: (nu, aI g 40 numbers) :: (wa, aJ g 12 waf) :: (wo, aJ g 12 wof) :: (pg, oGrid (nI R) (nI C) sp1.1 sp1.2.1 sp1.2.2) :: (ga, oGrid sg.1 sg.2.1 sg.2.2.1 sg.2.2.2.1 sg.2.2.2.2) :: (sh, aS g 3 shf) :: rest) (q - p) (m - ii) (by omega)) ms_X4_power rfl ml_RX4_170 rfl (Nat.le_of_ble_eq_true rfl) (by decide) ⟨Nat.le_of_ble_eq_true rfl, Nat.le_of_ble_eq_true rfl⟩ rfl rfl dX4_chance_78 ?_
              intro v w' hr'; obtain ⟨rfl, rfl⟩ := hr'
              show X φ 0 0 ((o, oMain pl th pg ga sh asked fi) :: (pl, oPlan (nI R) (nI C) (bI op) (nI T) ap rr rd sl) :: (sl, aI g 40 slots) :: (th, oThings pl ki el nu (nI m) al wa wo) :: (ki, aI g 40 kinds) :: (el, aI g 40 elders) :: (nu, aI g 40 numbers) :: (wa, aJ g 12 waf) :: (wo, aJ g 12 wof) :: (pg, oGrid (nI R) (nI C) sp1.1 sp1.2.1 sp1.2.2) :: (ga, oGrid sg.1 sg.2.1 sg.2.2.1 sg.2.2.2.1 sg.2.2.2.2) :: (sh, aS g 3 shf) :: rest) [(0, .ref o), (1, .int way), (2, .int p), (3, .int q), (4, .long (chF (fun k => cnI (wsP R C op ap rr rd al waf wof m way (nI k)) (2 ^ m)) p q m ii)), (6, .int (nI ii))] 81 [.long (pwF (q - p) (m - ii)), .long (((cnI (wsP R C op ap rr rd al waf wof m way (nI ii)) (2 ^ m)).toInt64) * (pwF p ii)), .long (chF (fun k => cnI (wsP R C op ap rr rd al waf wof m way (nI k)) (2 ^ m)) p q m ii)]
              refine X_lmul K0 dX4_chance_81 ?_
              refine X_ladd K0 dX4_chance_82 ?_
              refine X_lstore (L' := [(4, .long ((chF (fun k => cnI (wsP R C op ap rr rd al waf wof m way (nI k)) (2 ^ m)) p q m ii) + ((((cnI (wsP R C op ap rr rd al waf wof m way (nI ii)) (2 ^ m)).toInt64) * (pwF p ii)) * (pwF (q - p) (m - ii))))), (0, .ref o), (1, .int way), (2, .int p), (3, .int q), (6, .int (nI ii))]) K0 dX4_chance_83 (by decide) rfl ?_
              refine X_iinc (v := ((nI ii) + 1)) (L' := [(6, .int ((nI ii) + 1)), (4, .long ((chF (fun k => cnI (wsP R C op ap rr rd al waf wof m way (nI k)) (2 ^ m)) p q m ii) + ((((cnI (wsP R C op ap rr rd al waf wof m way (nI ii)) (2 ^ m)).toInt64) * (pwF p ii)) * (pwF (q - p) (m - ii))))), (0, .ref o), (1, .int way), (2, .int p), (3, .int q)]) K0 5 dX4_chance_85 rfl (by first | rfl | decide) (by decide) rfl ?_
              refine X_goto K0 36 dX4_chance_88 (by decide) ?_
              refine X.sub [2, 3, 4, 5, 1, 0] (L' := [(0, .ref o), (1, .int way), (2, .int p), (3, .int q), (4, .long ((chF (fun k => cnI (wsP R C op ap rr rd al waf wof m way (nI k)) (2 ^ m)) p q m ii) + ((((cnI (wsP R C op ap rr rd al waf wof m way (nI ii)) (2 ^ m)).toInt64) * (pwF p ii)) * (pwF (q - p) (m - ii))))), (6, .int ((nI ii) + 1))]) rfl ?_
              exact X_eq rfl (by rw [nI_succ] <;> rfl) rfl (ih (ii + 1) (by omega) sp1)
        exact LOOP (m + 1) 0 (by omega) sp
      · refine X_ldc2 K0 co_RX4_168 dX4_chance_26 ?_
        exact hr _ _ _ _ ⟨by first | simp [cvV, bI_0.mp h4, bI_0.mp h14, bI_0.mp h23] | simp [cvV, bI_0.mp h4, bI_0.mp h14, bI_n0.mp h23] | simp [cvV, bI_0.mp h4, bI_n0.mp h14, bI_0.mp h23] | simp [cvV, bI_0.mp h4, bI_n0.mp h14, bI_n0.mp h23] | simp [cvV, bI_n0.mp h4, bI_0.mp h14, bI_0.mp h23] | simp [cvV, bI_n0.mp h4, bI_0.mp h14, bI_n0.mp h23] | simp [cvV, bI_n0.mp h4, bI_n0.mp h14, bI_0.mp h23] | simp [cvV, bI_n0.mp h4, bI_n0.mp h14, bI_n0.mp h23] | simp [cvV, bI_0.mp h4, bI_0.mp h14] | simp [cvV, bI_0.mp h4, bI_n0.mp h14] | simp [cvV, bI_n0.mp h4, bI_0.mp h14] | simp [cvV, bI_n0.mp h4, bI_n0.mp h14] | simp [cvV, bI_0.mp h4] | simp [cvV, bI_n0.mp h4], sp, rfl⟩ dX4_chance_29

set_option maxRecDepth 20000 in
set_option maxHeartbeats 400000 in
theorem c_first (g : Gx) (o pl sl th ki el nu wa wo pg ga sh : Nat) (R C : Nat) (op : Bool) (T : Nat) (slots : Nat → Int32) (ap rr rd : Int32) (m : Nat) (al : Int64) (kinds elders numbers : Nat → Int32) (waf wof : Nat → Int64) (sp : Int32 × Int32 × Int32) (sg : Int32 × Int32 × Int32 × Int32 × Int32) (shf : Nat → Option Nat) (asked : Int64) (fi : Int32) (rest : va_W) (hR : 1 ≤ R ∧ R ≤ 5) (hC : 1 ≤ C ∧ C ≤ 5) (hT : T ≤ 40) (hm : m ≤ 12) (way k : Int32) : Con g yX4_first cX4_first 4 (some .int) 4 92 0 0 [.ref o, .int way, .int k] ((o, oMain pl th pg ga sh asked fi) :: (pl, oPlan (nI R) (nI C) (bI op) (nI T) ap rr rd sl) :: (sl, aI g 40 slots) :: (th, oThings pl ki el nu (nI m) al wa wo) :: (ki, aI g 40 kinds) :: (el, aI g 40 elders) :: (nu, aI g 40 numbers) :: (wa, aJ g 12 waf) :: (wo, aJ g 12 wof) :: (pg, oGrid (nI R) (nI C) sp.1 sp.2.1 sp.2.2) :: (ga, oGrid sg.1 sg.2.1 sg.2.2.1 sg.2.2.2.1 sg.2.2.2.2) :: (sh, aS g 3 shf) :: rest) (fun v w' => (∃ r, v = some (.int r) ∧ frR R C op ap rr rd al waf wof m way k r) ∧ ∃ sp' : Sp3, ((o, oMain pl th pg ga sh asked fi) :: (pl, oPlan (nI R) (nI C) (bI op) (nI T) ap rr rd sl) :: (sl, aI g 40 slots) :: (th, oThings pl ki el nu (nI m) al wa wo) :: (ki, aI g 40 kinds) :: (el, aI g 40 elders) :: (nu, aI g 40 numbers) :: (wa, aJ g 12 waf) :: (wo, aJ g 12 wof) :: (pg, oGrid (nI R) (nI C) sp'.1 sp'.2.1 sp'.2.2) :: (ga, oGrid sg.1 sg.2.1 sg.2.2.1 sg.2.2.2.1 sg.2.2.2.2) :: (sh, aS g 3 shf) :: rest) = w') := by
  have hN := pow_m hm
  refine Con.ofI (by decide +kernel) (Nat.le_of_ble_eq_true rfl) (fun φ K0 hr => ?_)
  show X φ 0 0 ((o, oMain pl th pg ga sh asked fi) :: (pl, oPlan (nI R) (nI C) (bI op) (nI T) ap rr rd sl) :: (sl, aI g 40 slots) :: (th, oThings pl ki el nu (nI m) al wa wo) :: (ki, aI g 40 kinds) :: (el, aI g 40 elders) :: (nu, aI g 40 numbers) :: (wa, aJ g 12 waf) :: (wo, aJ g 12 wof) :: (pg, oGrid (nI R) (nI C) sp.1 sp.2.1 sp.2.2) :: (ga, oGrid sg.1 sg.2.1 sg.2.2.1 sg.2.2.2.1 sg.2.2.2.2) :: (sh, aS g 3 shf) :: rest) [(0, .ref o), (1, .int way), (2, .int k)] 0 []
  refine X_iload_n K0 1 dX4_first_0 rfl rfl ?_
  refine X_callS (As := [.int way]) (rest := []) K0 (c_isWay g ((o, oMain pl th pg ga sh asked fi) :: (pl, oPlan (nI R) (nI C) (bI op) (nI T) ap rr rd sl) :: (sl, aI g 40 slots) :: (th, oThings pl ki el nu (nI m) al wa wo) :: (ki, aI g 40 kinds) :: (el, aI g 40 elders) :: (nu, aI g 40 numbers) :: (wa, aJ g 12 waf) :: (wo, aJ g 12 wof) :: (pg, oGrid (nI R) (nI C) sp.1 sp.2.1 sp.2.2) :: (ga, oGrid sg.1 sg.2.1 sg.2.2.1 sg.2.2.2.1 sg.2.2.2.2) :: (sh, aS g 3 shf) :: rest) way) ms_X4_isWay rfl ml_RX4_149 rfl (Nat.le_of_ble_eq_true rfl) (by decide) ⟨Nat.le_of_ble_eq_true rfl, Nat.le_of_ble_eq_true rfl⟩ rfl rfl dX4_first_1 ?_
  intro v w' hr'; obtain ⟨rfl, rfl⟩ := hr'
  show X φ 0 0 ((o, oMain pl th pg ga sh asked fi) :: (pl, oPlan (nI R) (nI C) (bI op) (nI T) ap rr rd sl) :: (sl, aI g 40 slots) :: (th, oThings pl ki el nu (nI m) al wa wo) :: (ki, aI g 40 kinds) :: (el, aI g 40 elders) :: (nu, aI g 40 numbers) :: (wa, aJ g 12 waf) :: (wo, aJ g 12 wof) :: (pg, oGrid (nI R) (nI C) sp.1 sp.2.1 sp.2.2) :: (ga, oGrid sg.1 sg.2.1 sg.2.2.1 sg.2.2.2.1 sg.2.2.2.2) :: (sh, aS g 3 shf) :: rest) [(0, .ref o), (1, .int way), (2, .int k)] 4 [.int (bI (wiB way 0 3))]
  refine X_if_eq K0 15 dX4_first_4 (by decide) (fun h4 => ?_) (fun h4 => ?_)
  · refine X_iconst (v := (-1)) K0 dX4_first_15 (by decide) ?_
    exact hr _ _ _ _ ⟨⟨-1, rfl, Or.inl ⟨by first | exact p_n (bI_0.mp h4) | exact p_yn (bI_n0.mp h4) (bI_0.mp h12), rfl⟩⟩, sp, rfl⟩ dX4_first_16
  · refine X_aload_n K0 0 dX4_first_7 rfl rfl ?_
    refine X_iload_n K0 2 dX4_first_8 rfl rfl ?_
    refine X_callV (As := [.int k]) (rest := []) K0 0 (c_isSize g o pl sl th ki el nu wa wo pg ga sh R C op T slots ap rr rd m al kinds elders numbers waf wof sp sg shf asked fi rest hR hC hT hm k) mi_X4_isSize rfl rfl rfl ml_RX4_152 rfl (Nat.le_of_ble_eq_true rfl) (by decide) ⟨Nat.le_of_ble_eq_true rfl, Nat.le_of_ble_eq_true rfl⟩ rfl rfl dX4_first_9 ?_
    intro v w' hr'; obtain ⟨rfl, rfl⟩ := hr'
    show X φ 0 0 ((o, oMain pl th pg ga sh asked fi) :: (pl, oPlan (nI R) (nI C) (bI op) (nI T) ap rr rd sl) :: (sl, aI g 40 slots) :: (th, oThings pl ki el nu (nI m) al wa wo) :: (ki, aI g 40 kinds) :: (el, aI g 40 elders) :: (nu, aI g 40 numbers) :: (wa, aJ g 12 waf) :: (wo, aJ g 12 wof) :: (pg, oGrid (nI R) (nI C) sp.1 sp.2.1 sp.2.2) :: (ga, oGrid sg.1 sg.2.1 sg.2.2.1 sg.2.2.2.1 sg.2.2.2.2) :: (sh, aS g 3 shf) :: rest) [(0, .ref o), (1, .int way), (2, .int k)] 12 [.int (bI (wiB k 0 (nI m)))]
    refine X_if_ne K0 17 dX4_first_12 (by decide) (fun h12 => ?_) (fun h12 => ?_)
    · refine X_iconst (v := 0) K0 dX4_first_17 (by decide) ?_
      refine X_istore_n (L' := [(3, .int 0), (0, .ref o), (1, .int way), (2, .int k)]) K0 dX4_first_18 rfl (by decide) rfl ?_
      refine X.sub [1, 2, 3, 0] (L' := [(0, .ref o), (1, .int way), (2, .int k), (3, .int 0)]) rfl ?_
      have LOOP : ∀ (dd ii : Nat), ii + dd = 2 ^ m → (∀ t, t < ii → (wsP R C op ap rr rd al waf wof m way k) t = false) → ∀ (sq : Sp3), X φ 0 0 ((o, oMain pl th pg ga sh asked fi) :: (pl, oPlan (nI R) (nI C) (bI op) (nI T) ap rr rd sl) :: (sl, aI g 40 slots) :: (th, oThings pl ki el nu (nI m) al wa wo) :: (ki, aI g 40 kinds) :: (el, aI g 40 elders) :: (nu, aI g 40 numbers) :: (wa, aJ g 12 waf) :: (wo, aJ g 12 wof) :: (pg, oGrid (nI R) (nI C) sq.1 sq.2.1 sq.2.2) :: (ga, oGrid sg.1 sg.2.1 sg.2.2.1 sg.2.2.2.1 sg.2.2.2.2) :: (sh, aS g 3 shf) :: rest) [(0, .ref o), (1, .int way), (2, .int k), (3, .int (nI ii))] 19 [] := by
        intro dd
        induction dd with
        | zero =>
          intro ii hii hno sq
          have hii2 : 2 ^ m = ii := by omega
          subst hii2
          refine X_iload_n K0 3 dX4_first_19 rfl rfl ?_
          refine X_aload_n K0 0 dX4_first_20 rfl rfl ?_
          refine X_callV (As := []) (rest := [.int (nI (2 ^ m))]) K0 0 (c_settings g o pl sl th ki el nu wa wo pg ga sh R C op T slots ap rr rd m al kinds elders numbers waf wof sq sg shf asked fi rest hR hC hT hm ) mi_X4_settings rfl rfl rfl ml_RX4_159 rfl (Nat.le_of_ble_eq_true rfl) (by decide) ⟨Nat.le_of_ble_eq_true rfl, Nat.le_of_ble_eq_true rfl⟩ rfl rfl dX4_first_21 ?_
          intro v w' hr'; obtain ⟨rfl, rfl⟩ := hr'
          show X φ 0 0 ((o, oMain pl th pg ga sh asked fi) :: (pl, oPlan (nI R) (nI C) (bI op) (nI T) ap rr rd sl) :: (sl, aI g 40 slots) :: (th, oThings pl ki el nu (nI m) al wa wo) :: (ki, aI g 40 kinds) :: (el, aI g 40 elders) :: (nu, aI g 40 numbers) :: (wa, aJ g 12 waf) :: (wo, aJ g 12 wof) :: (pg, oGrid (nI R) (nI C) sq.1 sq.2.1 sq.2.2) :: (ga, oGrid sg.1 sg.2.1 sg.2.2.1 sg.2.2.2.1 sg.2.2.2.2) :: (sh, aS g 3 shf) :: rest) [(0, .ref o), (1, .int way), (2, .int k), (3, .int (nI (2 ^ m)))] 24 [.int (nI (2 ^ m)), .int (nI (2 ^ m))]
          refine X_icmp_ge K0 52 dX4_first_24 (by decide) (fun h24 => ?_) (fun h24 => ?_)
          · refine X_bipush (v := (-9)) K0 dX4_first_52 (by decide) ?_
            exact hr _ _ _ _ ⟨⟨-9, rfl, Or.inr ⟨p_yy (bI_n0.mp h4) (bI_n0.mp h12), Or.inr ⟨hno, rfl⟩⟩⟩, sq, rfl⟩ dX4_first_54
          · exact absurd (nI_le (Nat.le_refl _) (by omega)) h24
        | succ dd ih =>
          intro ii hii hno sq
          have hlt : ii < 2 ^ m := by omega
          refine X_iload_n K0 3 dX4_first_19 rfl rfl ?_
          refine X_aload_n K0 0 dX4_first_20 rfl rfl ?_
          refine X_callV (As := []) (rest := [.int (nI ii)]) K0 0 (c_settings g o pl sl th ki el nu wa wo pg ga sh R C op T slots ap rr rd m al kinds elders numbers waf wof sq sg shf asked fi rest hR hC hT hm ) mi_X4_settings rfl rfl rfl ml_RX4_159 rfl (Nat.le_of_ble_eq_true rfl) (by decide) ⟨Nat.le_of_ble_eq_true rfl, Nat.le_of_ble_eq_true rfl⟩ rfl rfl dX4_first_21 ?_
          intro v w' hr'; obtain ⟨rfl, rfl⟩ := hr'
          show X φ 0 0 ((o, oMain pl th pg ga sh asked fi) :: (pl, oPlan (nI R) (nI C) (bI op) (nI T) ap rr rd sl) :: (sl, aI g 40 slots) :: (th, oThings pl ki el nu (nI m) al wa wo) :: (ki, aI g 40 kinds) :: (el, aI g 40 elders) :: (nu, aI g 40 numbers) :: (wa, aJ g 12 waf) :: (wo, aJ g 12 wof) :: (pg, oGrid (nI R) (nI C) sq.1 sq.2.1 sq.2.2) :: (ga, oGrid sg.1 sg.2.1 sg.2.2.1 sg.2.2.2.1 sg.2.2.2.2) :: (sh, aS g 3 shf) :: rest) [(0, .ref o), (1, .int way), (2, .int k), (3, .int (nI ii))] 24 [.int (nI (2 ^ m)), .int (nI ii)]
          refine X_icmp_ge K0 52 dX4_first_24 (by decide) (fun h24 => ?_) (fun h24 => ?_)
          · exact absurd h24 (nI_ge hlt (by omega))
          · refine X_iload_n K0 3 dX4_first_27 rfl rfl ?_
            refine X_callS (As := [.int (nI ii)]) (rest := []) K0 (c_bitCount g ((o, oMain pl th pg ga sh asked fi) :: (pl, oPlan (nI R) (nI C) (bI op) (nI T) ap rr rd sl) :: (sl, aI g 40 slots) :: (th, oThings pl ki el nu (nI m) al wa wo) :: (ki, aI g 40 kinds) :: (el, aI g 40 elders) :: (nu, aI g 40 numbers) :: (wa, aJ g 12 waf) :: (wo, aJ g 12 wof) :: (pg, oGrid (nI R) (nI C) sq.1 sq.2.1 sq.2.2) :: (ga, oGrid sg.1 sg.2.1 sg.2.2.1 sg.2.2.2.1 sg.2.2.2.2) :: (sh, aS g 3 shf) :: rest) (nI ii)) ms_J6_bitCount_0f7a4 rfl ml_RX4_162 rfl (Nat.le_of_ble_eq_true rfl) (by decide) ⟨Nat.le_of_ble_eq_true rfl, Nat.le_of_ble_eq_true rfl⟩ rfl rfl dX4_first_28 ?_
            intro v w' hr'; obtain ⟨rfl, rfl⟩ := hr'
            show X φ 0 0 ((o, oMain pl th pg ga sh asked fi) :: (pl, oPlan (nI R) (nI C) (bI op) (nI T) ap rr rd sl) :: (sl, aI g 40 slots) :: (th, oThings pl ki el nu (nI m) al wa wo) :: (ki, aI g 40 kinds) :: (el, aI g 40 elders) :: (nu, aI g 40 numbers) :: (wa, aJ g 12 waf) :: (wo, aJ g 12 wof) :: (pg, oGrid (nI R) (nI C) sq.1 sq.2.1 sq.2.2) :: (ga, oGrid sg.1 sg.2.1 sg.2.2.1 sg.2.2.2.1 sg.2.2.2.2) :: (sh, aS g 3 shf) :: rest) [(0, .ref o), (1, .int way), (2, .int k), (3, .int (nI ii))] 31 [.int (bcJ (nI ii))]
            refine X_iload_n K0 2 dX4_first_31 rfl rfl ?_
            refine X_icmp_ne K0 46 dX4_first_32 (by decide) (fun h32 => ?_) (fun h32 => ?_)
            · refine X_iinc (v := ((nI ii) + 1)) (L' := [(3, .int ((nI ii) + 1)), (0, .ref o), (1, .int way), (2, .int k)]) K0 3 dX4_first_46 rfl (by first | rfl | decide) (by decide) rfl ?_
              refine X_goto K0 19 dX4_first_49 (by decide) ?_
              refine X.sub [1, 2, 3, 0] (L' := [(0, .ref o), (1, .int way), (2, .int k), (3, .int ((nI ii) + 1))]) rfl ?_
              exact X_eq rfl (by rw [nI_succ] <;> rfl) rfl (ih (ii + 1) (by omega) (lt_s hno (by first | exact ws_n1 h32 | exact ws_n2 h41)) sq)
            · refine X_aload_n K0 0 dX4_first_35 rfl rfl ?_
              refine X_iload_n K0 3 dX4_first_36 rfl rfl ?_
              refine X_iload_n K0 1 dX4_first_37 rfl rfl ?_
              refine X_callV (As := [.int (nI ii), .int way]) (rest := []) K0 0 (c_comesThrough g o pl sl th ki el nu wa wo pg ga sh R C op T slots ap rr rd m al kinds elders numbers waf wof sq sg shf asked fi rest hR hC hT hm (nI ii) way) mi_X4_comesThrough rfl rfl rfl ml_RX4_174 rfl (Nat.le_of_ble_eq_true rfl) (by decide) ⟨Nat.le_of_ble_eq_true rfl, Nat.le_of_ble_eq_true rfl⟩ rfl rfl dX4_first_38 ?_
              intro v w' hr'; obtain ⟨rfl, rfl⟩ := hr'
              show X φ 0 0 ((o, oMain pl th pg ga sh asked fi) :: (pl, oPlan (nI R) (nI C) (bI op) (nI T) ap rr rd sl) :: (sl, aI g 40 slots) :: (th, oThings pl ki el nu (nI m) al wa wo) :: (ki, aI g 40 kinds) :: (el, aI g 40 elders) :: (nu, aI g 40 numbers) :: (wa, aJ g 12 waf) :: (wo, aJ g 12 wof) :: (pg, oGrid (nI R) (nI C) (pbC op ap (opF al waf wof (nI ii) m)) (pbR op rr (opF al waf wof (nI ii) m)) (pbD op rd (nI C) (opF al waf wof (nI ii) m))) :: (ga, oGrid sg.1 sg.2.1 sg.2.2.1 sg.2.2.2.1 sg.2.2.2.2) :: (sh, aS g 3 shf) :: rest) [(0, .ref o), (1, .int way), (2, .int k), (3, .int (nI ii))] 41 [.int (bI (ctB R C op ap rr rd (opF al waf wof (nI ii) m) way))]
              refine X_if_eq K0 46 dX4_first_41 (by decide) (fun h41 => ?_) (fun h41 => ?_)
              · refine X_iinc (v := ((nI ii) + 1)) (L' := [(3, .int ((nI ii) + 1)), (0, .ref o), (1, .int way), (2, .int k)]) K0 3 dX4_first_46 rfl (by first | rfl | decide) (by decide) rfl ?_
                refine X_goto K0 19 dX4_first_49 (by decide) ?_
                refine X.sub [1, 2, 3, 0] (L' := [(0, .ref o), (1, .int way), (2, .int k), (3, .int ((nI ii) + 1))]) rfl ?_
                exact X_eq rfl (by rw [nI_succ] <;> rfl) rfl (ih (ii + 1) (by omega) (lt_s hno (by first | exact ws_n1 h32 | exact ws_n2 h41)) ((pbC op ap (opF al waf wof (nI ii) m)), (pbR op rr (opF al waf wof (nI ii) m)), (pbD op rd (nI C) (opF al waf wof (nI ii) m))))
              · refine X_iload_n K0 3 dX4_first_44 rfl rfl ?_
                exact hr _ _ _ _ ⟨⟨_, rfl, Or.inr ⟨p_yy (bI_n0.mp h4) (bI_n0.mp h12), Or.inl ⟨ii, hlt, ws_y h32 h41, hno, rfl⟩⟩⟩, ((pbC op ap (opF al waf wof (nI ii) m)), (pbR op rr (opF al waf wof (nI ii) m)), (pbD op rd (nI C) (opF al waf wof (nI ii) m))), rfl⟩ dX4_first_45
      exact LOOP (2 ^ m) 0 (by omega) (fun t h => absurd h (Nat.not_lt_zero t)) sp
    · refine X_iconst (v := (-1)) K0 dX4_first_15 (by decide) ?_
      exact hr _ _ _ _ ⟨⟨-1, rfl, Or.inl ⟨by first | exact p_n (bI_0.mp h4) | exact p_yn (bI_n0.mp h4) (bI_0.mp h12), rfl⟩⟩, sp, rfl⟩ dX4_first_16

set_option maxRecDepth 20000 in
set_option maxHeartbeats 400000 in
theorem c_told (g : Gx) (o pl sl th ki el nu wa wo pg ga sh : Nat) (R C : Nat) (op : Bool) (T : Nat) (slots : Nat → Int32) (ap rr rd : Int32) (m : Nat) (al : Int64) (kinds elders numbers : Nat → Int32) (waf wof : Nat → Int64) (sp : Int32 × Int32 × Int32) (sg : Int32 × Int32 × Int32 × Int32 × Int32) (shf : Nat → Option Nat) (asked : Int64) (fi : Int32) (rest : va_W) (hR : 1 ≤ R ∧ R ≤ 5) (hC : 1 ≤ C ∧ C ≤ 5) (hT : T ≤ 40) (hm : m ≤ 12) (what : Int32) : Con g yX4_told cX4_told 2 (some .int) 1 22 0 0 [.ref o, .int what] ((o, oMain pl th pg ga sh asked fi) :: (pl, oPlan (nI R) (nI C) (bI op) (nI T) ap rr rd sl) :: (sl, aI g 40 slots) :: (th, oThings pl ki el nu (nI m) al wa wo) :: (ki, aI g 40 kinds) :: (el, aI g 40 elders) :: (nu, aI g 40 numbers) :: (wa, aJ g 12 waf) :: (wo, aJ g 12 wof) :: (pg, oGrid (nI R) (nI C) sp.1 sp.2.1 sp.2.2) :: (ga, oGrid sg.1 sg.2.1 sg.2.2.1 sg.2.2.2.1 sg.2.2.2.2) :: (sh, aS g 3 shf) :: rest) (Rs (some (.int (toV R C op T m elders what))) ((o, oMain pl th pg ga sh asked fi) :: (pl, oPlan (nI R) (nI C) (bI op) (nI T) ap rr rd sl) :: (sl, aI g 40 slots) :: (th, oThings pl ki el nu (nI m) al wa wo) :: (ki, aI g 40 kinds) :: (el, aI g 40 elders) :: (nu, aI g 40 numbers) :: (wa, aJ g 12 waf) :: (wo, aJ g 12 wof) :: (pg, oGrid (nI R) (nI C) sp.1 sp.2.1 sp.2.2) :: (ga, oGrid sg.1 sg.2.1 sg.2.2.1 sg.2.2.2.1 sg.2.2.2.2) :: (sh, aS g 3 shf) :: rest)) := by
  refine Con.ofI (by decide +kernel) (Nat.le_of_ble_eq_true rfl) (fun φ K0 hr => ?_)
  show X φ 0 0 ((o, oMain pl th pg ga sh asked fi) :: (pl, oPlan (nI R) (nI C) (bI op) (nI T) ap rr rd sl) :: (sl, aI g 40 slots) :: (th, oThings pl ki el nu (nI m) al wa wo) :: (ki, aI g 40 kinds) :: (el, aI g 40 elders) :: (nu, aI g 40 numbers) :: (wa, aJ g 12 waf) :: (wo, aJ g 12 wof) :: (pg, oGrid (nI R) (nI C) sp.1 sp.2.1 sp.2.2) :: (ga, oGrid sg.1 sg.2.1 sg.2.2.1 sg.2.2.2.1 sg.2.2.2.2) :: (sh, aS g 3 shf) :: rest) [(0, .ref o), (1, .int what)] 0 []
  refine X_iload_n K0 1 dX4_told_0 rfl rfl ?_
  by_cases hs0 : what = 0
  · subst hs0
    refine X_tableIn K0 40 dX4_told_1 (by decide) (by decide) (by rfl) (by decide) ?_
    refine X_aload_n K0 0 dX4_told_40 rfl rfl ?_
    refine X_get K0 0 rfl rfl hin4 0 (by decide) fl_RX4_10 rfl dX4_told_41 ?_
    refine X_get K0 1 rfl rfl hin1 0 (by decide) fl_RX4_90 rfl dX4_told_44 ?_
    exact hr _ _ _ _ ⟨rfl, rfl⟩ dX4_told_47
  by_cases hs1 : what = 1
  · subst hs1
    refine X_tableIn K0 48 dX4_told_1 (by decide) (by decide) (by rfl) (by decide) ?_
    refine X_aload_n K0 0 dX4_told_48 rfl rfl ?_
    refine X_get K0 0 rfl rfl hin4 0 (by decide) fl_RX4_10 rfl dX4_told_49 ?_
    refine X_get K0 1 rfl rfl hin1 1 (by decide) fl_RX4_93 rfl dX4_told_52 ?_
    exact hr _ _ _ _ ⟨rfl, rfl⟩ dX4_told_55
  by_cases hs2 : what = 2
  · subst hs2
    refine X_tableIn K0 56 dX4_told_1 (by decide) (by decide) (by rfl) (by decide) ?_
    refine X_aload_n K0 0 dX4_told_56 rfl rfl ?_
    refine X_get K0 0 rfl rfl hin4 0 (by decide) fl_RX4_10 rfl dX4_told_57 ?_
    refine X_get K0 1 rfl rfl hin1 2 (by decide) fl_RX4_96 rfl dX4_told_60 ?_
    refine X_callS (As := [.int (bI op)]) (rest := []) K0 (c_oneIf g ((o, oMain pl th pg ga sh asked fi) :: (pl, oPlan (nI R) (nI C) (bI op) (nI T) ap rr rd sl) :: (sl, aI g 40 slots) :: (th, oThings pl ki el nu (nI m) al wa wo) :: (ki, aI g 40 kinds) :: (el, aI g 40 elders) :: (nu, aI g 40 numbers) :: (wa, aJ g 12 waf) :: (wo, aJ g 12 wof) :: (pg, oGrid (nI R) (nI C) sp.1 sp.2.1 sp.2.2) :: (ga, oGrid sg.1 sg.2.1 sg.2.2.1 sg.2.2.2.1 sg.2.2.2.2) :: (sh, aS g 3 shf) :: rest) op) ms_X4_oneIf rfl ml_RX4_100 rfl (Nat.le_of_ble_eq_true rfl) (by decide) ⟨Nat.le_of_ble_eq_true rfl, Nat.le_of_ble_eq_true rfl⟩ rfl rfl dX4_told_63 ?_
    intro v w' hr'; obtain ⟨rfl, rfl⟩ := hr'
    show X φ 0 0 ((o, oMain pl th pg ga sh asked fi) :: (pl, oPlan (nI R) (nI C) (bI op) (nI T) ap rr rd sl) :: (sl, aI g 40 slots) :: (th, oThings pl ki el nu (nI m) al wa wo) :: (ki, aI g 40 kinds) :: (el, aI g 40 elders) :: (nu, aI g 40 numbers) :: (wa, aJ g 12 waf) :: (wo, aJ g 12 wof) :: (pg, oGrid (nI R) (nI C) sp.1 sp.2.1 sp.2.2) :: (ga, oGrid sg.1 sg.2.1 sg.2.2.1 sg.2.2.2.1 sg.2.2.2.2) :: (sh, aS g 3 shf) :: rest) [(0, .ref o), (1, .int 2)] 66 [.int (bI op)]
    exact hr _ _ _ _ ⟨rfl, rfl⟩ dX4_told_66
  by_cases hs3 : what = 3
  · subst hs3
    refine X_tableIn K0 67 dX4_told_1 (by decide) (by decide) (by rfl) (by decide) ?_
    refine X_aload_n K0 0 dX4_told_67 rfl rfl ?_
    refine X_get K0 0 rfl rfl hin4 0 (by decide) fl_RX4_10 rfl dX4_told_68 ?_
    refine X_get K0 1 rfl rfl hin1 3 (by decide) fl_RX4_57 rfl dX4_told_71 ?_
    exact hr _ _ _ _ ⟨rfl, rfl⟩ dX4_told_74
  by_cases hs4 : what = 4
  · subst hs4
    refine X_tableIn K0 75 dX4_told_1 (by decide) (by decide) (by rfl) (by decide) ?_
    refine X_aload_n K0 0 dX4_told_75 rfl rfl ?_
    refine X_get K0 0 rfl rfl hin4 1 (by decide) fl_RX4_21 rfl dX4_told_76 ?_
    refine X_get K0 3 rfl rfl hin3 4 (by decide) fl_RX4_70 rfl dX4_told_79 ?_
    exact hr _ _ _ _ ⟨rfl, rfl⟩ dX4_told_82
  by_cases hs5 : what = 5
  · subst hs5
    refine X_tableIn K0 83 dX4_told_1 (by decide) (by decide) (by rfl) (by decide) ?_
    refine X_aload_n K0 0 dX4_told_83 rfl rfl ?_
    refine X_get K0 0 rfl rfl hin4 1 (by decide) fl_RX4_21 rfl dX4_told_84 ?_
    refine X_callV (As := []) (rest := []) K0 3 (c_younger g (o, oMain pl th pg ga sh asked fi) ((pg, oGrid (nI R) (nI C) sp.1 sp.2.1 sp.2.2) :: (ga, oGrid sg.1 sg.2.1 sg.2.2.1 sg.2.2.2.1 sg.2.2.2.2) :: (sh, aS g 3 shf) :: rest) pl sl th ki el nu wa wo (nI R) (nI C) (bI op) ap rr rd T slots (nI m) al kinds elders numbers waf wof (by omega)) mi_X3_younger rfl rfl rfl ml_RX4_104 rfl (Nat.le_of_ble_eq_true rfl) (by decide) ⟨Nat.le_of_ble_eq_true rfl, Nat.le_of_ble_eq_true rfl⟩ rfl rfl dX4_told_87 ?_
    intro v w' hr'; obtain ⟨rfl, rfl⟩ := hr'
    show X φ 0 0 ((o, oMain pl th pg ga sh asked fi) :: (pl, oPlan (nI R) (nI C) (bI op) (nI T) ap rr rd sl) :: (sl, aI g 40 slots) :: (th, oThings pl ki el nu (nI m) al wa wo) :: (ki, aI g 40 kinds) :: (el, aI g 40 elders) :: (nu, aI g 40 numbers) :: (wa, aJ g 12 waf) :: (wo, aJ g 12 wof) :: (pg, oGrid (nI R) (nI C) sp.1 sp.2.1 sp.2.2) :: (ga, oGrid sg.1 sg.2.1 sg.2.2.1 sg.2.2.2.1 sg.2.2.2.2) :: (sh, aS g 3 shf) :: rest) [(0, .ref o), (1, .int 5)] 90 [.int (yoF elders T)]
    exact hr _ _ _ _ ⟨rfl, rfl⟩ dX4_told_90
  refine X_tableOut K0 91 dX4_told_1 (out6 hs0 hs1 hs2 hs3 hs4 hs5) (by decide) ?_
  refine X_iconst (v := (-1)) K0 dX4_told_91 (by decide) ?_
  exact hr _ _ _ _ ⟨by rw [toV, if_neg hs0, if_neg hs1, if_neg hs2, if_neg hs3, if_neg hs4, if_neg hs5], rfl⟩ dX4_told_92

set_option maxRecDepth 20000 in
set_option maxHeartbeats 400000 in
theorem c_about (g : Gx) (o pl sl th ki el nu wa wo pg ga sh : Nat) (R C : Nat) (op : Bool) (T : Nat) (slots : Nat → Int32) (ap rr rd : Int32) (m : Nat) (al : Int64) (kinds elders numbers : Nat → Int32) (waf wof : Nat → Int64) (sp : Int32 × Int32 × Int32) (sg : Int32 × Int32 × Int32 × Int32 × Int32) (shf : Nat → Option Nat) (asked : Int64) (fi : Int32) (rest : va_W) (hR : 1 ≤ R ∧ R ≤ 5) (hC : 1 ≤ C ∧ C ≤ 5) (hT : T ≤ 40) (hm : m ≤ 12) (x what : Int32) : Con g yX4_about cX4_about 3 (some .int) 2 43 0 0 [.ref o, .int x, .int what] ((o, oMain pl th pg ga sh asked fi) :: (pl, oPlan (nI R) (nI C) (bI op) (nI T) ap rr rd sl) :: (sl, aI g 40 slots) :: (th, oThings pl ki el nu (nI m) al wa wo) :: (ki, aI g 40 kinds) :: (el, aI g 40 elders) :: (nu, aI g 40 numbers) :: (wa, aJ g 12 waf) :: (wo, aJ g 12 wof) :: (pg, oGrid (nI R) (nI C) sp.1 sp.2.1 sp.2.2) :: (ga, oGrid sg.1 sg.2.1 sg.2.2.1 sg.2.2.2.1 sg.2.2.2.2) :: (sh, aS g 3 shf) :: rest) (Rs (some (.int (abV T kinds elders numbers slots op (nI C) x what))) ((o, oMain pl th pg ga sh asked fi) :: (pl, oPlan (nI R) (nI C) (bI op) (nI T) ap rr rd sl) :: (sl, aI g 40 slots) :: (th, oThings pl ki el nu (nI m) al wa wo) :: (ki, aI g 40 kinds) :: (el, aI g 40 elders) :: (nu, aI g 40 numbers) :: (wa, aJ g 12 waf) :: (wo, aJ g 12 wof) :: (pg, oGrid (nI R) (nI C) sp.1 sp.2.1 sp.2.2) :: (ga, oGrid sg.1 sg.2.1 sg.2.2.1 sg.2.2.2.1 sg.2.2.2.2) :: (sh, aS g 3 shf) :: rest)) := by
  refine Con.ofI (by decide +kernel) (Nat.le_of_ble_eq_true rfl) (fun φ K0 hr => ?_)
  show X φ 0 0 ((o, oMain pl th pg ga sh asked fi) :: (pl, oPlan (nI R) (nI C) (bI op) (nI T) ap rr rd sl) :: (sl, aI g 40 slots) :: (th, oThings pl ki el nu (nI m) al wa wo) :: (ki, aI g 40 kinds) :: (el, aI g 40 elders) :: (nu, aI g 40 numbers) :: (wa, aJ g 12 waf) :: (wo, aJ g 12 wof) :: (pg, oGrid (nI R) (nI C) sp.1 sp.2.1 sp.2.2) :: (ga, oGrid sg.1 sg.2.1 sg.2.2.1 sg.2.2.2.1 sg.2.2.2.2) :: (sh, aS g 3 shf) :: rest) [(0, .ref o), (1, .int x), (2, .int what)] 0 []
  refine X_aload_n K0 0 dX4_about_0 rfl rfl ?_
  refine X_iload_n K0 1 dX4_about_1 rfl rfl ?_
  refine X_callV (As := [.int x]) (rest := []) K0 0 (c_isThing g o pl sl th ki el nu wa wo pg ga sh R C op T slots ap rr rd m al kinds elders numbers waf wof sp sg shf asked fi rest hR hC hT hm x) mi_X4_isThing rfl rfl rfl ml_RX4_59 rfl (Nat.le_of_ble_eq_true rfl) (by decide) ⟨Nat.le_of_ble_eq_true rfl, Nat.le_of_ble_eq_true rfl⟩ rfl rfl dX4_about_2 ?_
  intro v w' hr'; obtain ⟨rfl, rfl⟩ := hr'
  show X φ 0 0 ((o, oMain pl th pg ga sh asked fi) :: (pl, oPlan (nI R) (nI C) (bI op) (nI T) ap rr rd sl) :: (sl, aI g 40 slots) :: (th, oThings pl ki el nu (nI m) al wa wo) :: (ki, aI g 40 kinds) :: (el, aI g 40 elders) :: (nu, aI g 40 numbers) :: (wa, aJ g 12 waf) :: (wo, aJ g 12 wof) :: (pg, oGrid (nI R) (nI C) sp.1 sp.2.1 sp.2.2) :: (ga, oGrid sg.1 sg.2.1 sg.2.2.1 sg.2.2.2.1 sg.2.2.2.2) :: (sh, aS g 3 shf) :: rest) [(0, .ref o), (1, .int x), (2, .int what)] 5 [.int (bI (wiB x 0 ((nI T) - 1)))]
  refine X_if_ne K0 10 dX4_about_5 (by decide) (fun h5 => ?_) (fun h5 => ?_)
  · obtain ⟨j, hj, rfl⟩ := wi_of (bI_n0.mp h5) (by omega)
    refine X_iload_n K0 2 dX4_about_10 rfl rfl ?_
    by_cases hs0 : what = 0
    · subst hs0
      refine X_tableIn K0 44 dX4_about_11 (by decide) (by decide) (by rfl) (by decide) ?_
      refine X_aload_n K0 0 dX4_about_44 rfl rfl ?_
      refine X_get K0 0 rfl rfl hin4 1 (by decide) fl_RX4_21 rfl dX4_about_45 ?_
      refine X_get K0 3 rfl rfl hin3 1 (by decide) fl_RX4_66 rfl dX4_about_48 ?_
      refine X_iload_n K0 1 dX4_about_51 rfl rfl ?_
      refine X_ialdN K0 4 rfl (by omega) (by decide) dX4_about_52 ?_
      exact hr _ _ _ _ ⟨by rw [ab_ok (bI_n0.mp h5) (by omega)]; rfl, rfl⟩ dX4_about_53
    by_cases hs1 : what = 1
    · subst hs1
      refine X_tableIn K0 54 dX4_about_11 (by decide) (by decide) (by rfl) (by decide) ?_
      refine X_aload_n K0 0 dX4_about_54 rfl rfl ?_
      refine X_get K0 0 rfl rfl hin4 1 (by decide) fl_RX4_21 rfl dX4_about_55 ?_
      refine X_get K0 3 rfl rfl hin3 2 (by decide) fl_RX4_77 rfl dX4_about_58 ?_
      refine X_iload_n K0 1 dX4_about_61 rfl rfl ?_
      refine X_ialdN K0 5 rfl (by omega) (by decide) dX4_about_62 ?_
      exact hr _ _ _ _ ⟨by rw [ab_ok (bI_n0.mp h5) (by omega)]; rfl, rfl⟩ dX4_about_63
    by_cases hs2 : what = 2
    · subst hs2
      refine X_tableIn K0 64 dX4_about_11 (by decide) (by decide) (by rfl) (by decide) ?_
      refine X_aload_n K0 0 dX4_about_64 rfl rfl ?_
      refine X_get K0 0 rfl rfl hin4 1 (by decide) fl_RX4_21 rfl dX4_about_65 ?_
      refine X_get K0 3 rfl rfl hin3 3 (by decide) fl_RX4_80 rfl dX4_about_68 ?_
      refine X_iload_n K0 1 dX4_about_71 rfl rfl ?_
      refine X_ialdN K0 6 rfl (by omega) (by decide) dX4_about_72 ?_
      exact hr _ _ _ _ ⟨by rw [ab_ok (bI_n0.mp h5) (by omega)]; rfl, rfl⟩ dX4_about_73
    by_cases hs3 : what = 3
    · subst hs3
      refine X_tableIn K0 74 dX4_about_11 (by decide) (by decide) (by rfl) (by decide) ?_
      refine X_aload_n K0 0 dX4_about_74 rfl rfl ?_
      refine X_get K0 0 rfl rfl hin4 0 (by decide) fl_RX4_10 rfl dX4_about_75 ?_
      refine X_iload_n K0 1 dX4_about_78 rfl rfl ?_
      refine X_callV (As := [.int (nI j)]) (rest := []) K0 1 (c_placeOf g ((o, oMain pl th pg ga sh asked fi) :: (pl, oPlan (nI R) (nI C) (bI op) (nI T) ap rr rd sl) :: (sl, aI g 40 slots) :: (th, oThings pl ki el nu (nI m) al wa wo) :: (ki, aI g 40 kinds) :: (el, aI g 40 elders) :: (nu, aI g 40 numbers) :: (wa, aJ g 12 waf) :: (wo, aJ g 12 wof) :: (pg, oGrid (nI R) (nI C) sp.1 sp.2.1 sp.2.2) :: (ga, oGrid sg.1 sg.2.1 sg.2.2.1 sg.2.2.2.1 sg.2.2.2.2) :: (sh, aS g 3 shf) :: rest) 1 2 pl (nI R) (nI C) (bI op) (nI T) ap rr rd sl rfl slots rfl j (by omega)) mi_X1_placeOf rfl rfl rfl ml_RX4_83 rfl (Nat.le_of_ble_eq_true rfl) (by decide) ⟨Nat.le_of_ble_eq_true rfl, Nat.le_of_ble_eq_true rfl⟩ rfl rfl dX4_about_79 ?_
      intro v w' hr'; obtain ⟨rfl, rfl⟩ := hr'
      show X φ 0 0 ((o, oMain pl th pg ga sh asked fi) :: (pl, oPlan (nI R) (nI C) (bI op) (nI T) ap rr rd sl) :: (sl, aI g 40 slots) :: (th, oThings pl ki el nu (nI m) al wa wo) :: (ki, aI g 40 kinds) :: (el, aI g 40 elders) :: (nu, aI g 40 numbers) :: (wa, aJ g 12 waf) :: (wo, aJ g 12 wof) :: (pg, oGrid (nI R) (nI C) sp.1 sp.2.1 sp.2.2) :: (ga, oGrid sg.1 sg.2.1 sg.2.2.1 sg.2.2.2.1 sg.2.2.2.2) :: (sh, aS g 3 shf) :: rest) [(0, .ref o), (1, .int (nI j)), (2, .int 3)] 82 [.int (slots j - slots j / 32 * 32)]
      exact hr _ _ _ _ ⟨by rw [ab_ok (bI_n0.mp h5) (by omega)]; rfl, rfl⟩ dX4_about_82
    by_cases hs4 : what = 4
    · subst hs4
      refine X_tableIn K0 83 dX4_about_11 (by decide) (by decide) (by rfl) (by decide) ?_
      refine X_aload_n K0 0 dX4_about_83 rfl rfl ?_
      refine X_get K0 0 rfl rfl hin4 0 (by decide) fl_RX4_10 rfl dX4_about_84 ?_
      refine X_iload_n K0 1 dX4_about_87 rfl rfl ?_
      refine X_callV (As := [.int (nI j)]) (rest := []) K0 1 (c_otherPlaceOf g ((o, oMain pl th pg ga sh asked fi) :: (pl, oPlan (nI R) (nI C) (bI op) (nI T) ap rr rd sl) :: (sl, aI g 40 slots) :: (th, oThings pl ki el nu (nI m) al wa wo) :: (ki, aI g 40 kinds) :: (el, aI g 40 elders) :: (nu, aI g 40 numbers) :: (wa, aJ g 12 waf) :: (wo, aJ g 12 wof) :: (pg, oGrid (nI R) (nI C) sp.1 sp.2.1 sp.2.2) :: (ga, oGrid sg.1 sg.2.1 sg.2.2.1 sg.2.2.2.1 sg.2.2.2.2) :: (sh, aS g 3 shf) :: rest) 1 2 pl (nI R) (nI C) op (nI T) ap rr rd sl rfl slots rfl j (by omega)) mi_X1_otherPlaceOf rfl rfl rfl ml_RX4_87 rfl (Nat.le_of_ble_eq_true rfl) (by decide) ⟨Nat.le_of_ble_eq_true rfl, Nat.le_of_ble_eq_true rfl⟩ rfl rfl dX4_about_88 ?_
      intro v w' hr'; obtain ⟨rfl, rfl⟩ := hr'
      show X φ 0 0 ((o, oMain pl th pg ga sh asked fi) :: (pl, oPlan (nI R) (nI C) (bI op) (nI T) ap rr rd sl) :: (sl, aI g 40 slots) :: (th, oThings pl ki el nu (nI m) al wa wo) :: (ki, aI g 40 kinds) :: (el, aI g 40 elders) :: (nu, aI g 40 numbers) :: (wa, aJ g 12 waf) :: (wo, aJ g 12 wof) :: (pg, oGrid (nI R) (nI C) sp.1 sp.2.1 sp.2.2) :: (ga, oGrid sg.1 sg.2.1 sg.2.2.1 sg.2.2.2.1 sg.2.2.2.2) :: (sh, aS g 3 shf) :: rest) [(0, .ref o), (1, .int (nI j)), (2, .int 4)] 91 [.int (if op = true then slots j - slots j / 32 * 32 else (slots j - slots j / 32 * 32) + (if slots j < 32 then 1 else (nI C)))]
      exact hr _ _ _ _ ⟨by rw [ab_ok (bI_n0.mp h5) (by omega)]; rfl, rfl⟩ dX4_about_91
    refine X_tableOut K0 92 dX4_about_11 (out5 hs0 hs1 hs2 hs3 hs4) (by decide) ?_
    refine X_iconst (v := (-1)) K0 dX4_about_92 (by decide) ?_
    exact hr _ _ _ _ ⟨by rw [ab_ok (bI_n0.mp h5) (by omega), if_neg hs0, if_neg hs1, if_neg hs2, if_neg hs3, if_neg hs4], rfl⟩ dX4_about_93
  · refine X_iconst (v := (-1)) K0 dX4_about_8 (by decide) ?_
    exact hr _ _ _ _ ⟨by rw [abV, if_pos (bI_0.mp h5)], rfl⟩ dX4_about_9
