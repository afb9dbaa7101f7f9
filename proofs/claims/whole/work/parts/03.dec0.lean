theorem dX0_init_0 : decode cX0_init 0 = .ok (.aload_n 0, 1) := by decide +kernel
theorem dX0_init_1 : decode cX0_init 1 = .ok (.invokespecial 3, 3) := by decide +kernel
theorem dX0_init_4 : decode cX0_init 4 = .ok (.return_, 1) := by decide +kernel
theorem dX0_layBetween_0 : decode cX0_layBetween 0 = .ok (.aload_n 0, 1) := by decide +kernel
theorem dX0_layBetween_1 : decode cX0_layBetween 1 = .ok (.iload_n 1, 1) := by decide +kernel
theorem dX0_layBetween_2 : decode cX0_layBetween 2 = .ok (.iconst 1, 1) := by decide +kernel
theorem dX0_layBetween_3 : decode cX0_layBetween 3 = .ok (.iadd, 1) := by decide +kernel
theorem dX0_layBetween_4 : decode cX0_layBetween 4 = .ok (.putfield 9, 3) := by decide +kernel
theorem dX0_layBetween_7 : decode cX0_layBetween 7 = .ok (.aload_n 0, 1) := by decide +kernel
theorem dX0_layBetween_8 : decode cX0_layBetween 8 = .ok (.iload_n 2, 1) := by decide +kernel
theorem dX0_layBetween_9 : decode cX0_layBetween 9 = .ok (.iconst 1, 1) := by decide +kernel
theorem dX0_layBetween_10 : decode cX0_layBetween 10 = .ok (.isub, 1) := by decide +kernel
theorem dX0_layBetween_11 : decode cX0_layBetween 11 = .ok (.putfield 15, 3) := by decide +kernel
theorem dX0_layBetween_14 : decode cX0_layBetween 14 = .ok (.aload_n 0, 1) := by decide +kernel
theorem dX0_layBetween_15 : decode cX0_layBetween 15 = .ok (.iconst 1, 1) := by decide +kernel
theorem dX0_layBetween_16 : decode cX0_layBetween 16 = .ok (.aload_n 0, 1) := by decide +kernel
theorem dX0_layBetween_17 : decode cX0_layBetween 17 = .ok (.getfield 9, 3) := by decide +kernel
theorem dX0_layBetween_20 : decode cX0_layBetween 20 = .ok (.aload_n 0, 1) := by decide +kernel
theorem dX0_layBetween_21 : decode cX0_layBetween 21 = .ok (.getfield 15, 3) := by decide +kernel
theorem dX0_layBetween_24 : decode cX0_layBetween 24 = .ok (.imul, 1) := by decide +kernel
theorem dX0_layBetween_25 : decode cX0_layBetween 25 = .ok (.ishl, 1) := by decide +kernel
theorem dX0_layBetween_26 : decode cX0_layBetween 26 = .ok (.iconst 1, 1) := by decide +kernel
theorem dX0_layBetween_27 : decode cX0_layBetween 27 = .ok (.isub, 1) := by decide +kernel
theorem dX0_layBetween_28 : decode cX0_layBetween 28 = .ok (.putfield 18, 3) := by decide +kernel
theorem dX0_layBetween_31 : decode cX0_layBetween 31 = .ok (.aload_n 0, 1) := by decide +kernel
theorem dX0_layBetween_32 : decode cX0_layBetween 32 = .ok (.iconst 0, 1) := by decide +kernel
theorem dX0_layBetween_33 : decode cX0_layBetween 33 = .ok (.putfield 21, 3) := by decide +kernel
theorem dX0_layBetween_36 : decode cX0_layBetween 36 = .ok (.aload_n 0, 1) := by decide +kernel
theorem dX0_layBetween_37 : decode cX0_layBetween 37 = .ok (.iconst 0, 1) := by decide +kernel
theorem dX0_layBetween_38 : decode cX0_layBetween 38 = .ok (.putfield 24, 3) := by decide +kernel
theorem dX0_layBetween_41 : decode cX0_layBetween 41 = .ok (.iconst 0, 1) := by decide +kernel
theorem dX0_layBetween_42 : decode cX0_layBetween 42 = .ok (.istore 5, 2) := by decide +kernel
theorem dX0_layBetween_44 : decode cX0_layBetween 44 = .ok (.iload 5, 2) := by decide +kernel
theorem dX0_layBetween_46 : decode cX0_layBetween 46 = .ok (.iload_n 1, 1) := by decide +kernel
theorem dX0_layBetween_47 : decode cX0_layBetween 47 = .ok (.if_icmp .ge 112, 3) := by decide +kernel
theorem dX0_layBetween_50 : decode cX0_layBetween 50 = .ok (.iconst 0, 1) := by decide +kernel
theorem dX0_layBetween_51 : decode cX0_layBetween 51 = .ok (.istore 6, 2) := by decide +kernel
theorem dX0_layBetween_53 : decode cX0_layBetween 53 = .ok (.iload 6, 2) := by decide +kernel
theorem dX0_layBetween_55 : decode cX0_layBetween 55 = .ok (.aload_n 0, 1) := by decide +kernel
theorem dX0_layBetween_56 : decode cX0_layBetween 56 = .ok (.getfield 15, 3) := by decide +kernel
theorem dX0_layBetween_59 : decode cX0_layBetween 59 = .ok (.if_icmp .ge 94, 3) := by decide +kernel
theorem dX0_layBetween_62 : decode cX0_layBetween 62 = .ok (.iload 5, 2) := by decide +kernel
theorem dX0_layBetween_64 : decode cX0_layBetween 64 = .ok (.iload_n 2, 1) := by decide +kernel
theorem dX0_layBetween_65 : decode cX0_layBetween 65 = .ok (.imul, 1) := by decide +kernel
theorem dX0_layBetween_66 : decode cX0_layBetween 66 = .ok (.iload 6, 2) := by decide +kernel
theorem dX0_layBetween_68 : decode cX0_layBetween 68 = .ok (.iadd, 1) := by decide +kernel
theorem dX0_layBetween_69 : decode cX0_layBetween 69 = .ok (.istore 7, 2) := by decide +kernel
theorem dX0_layBetween_71 : decode cX0_layBetween 71 = .ok (.iload_n 3, 1) := by decide +kernel
theorem dX0_layBetween_72 : decode cX0_layBetween 72 = .ok (.iload 7, 2) := by decide +kernel
theorem dX0_layBetween_74 : decode cX0_layBetween 74 = .ok (.invokestatic 27, 3) := by decide +kernel
theorem dX0_layBetween_77 : decode cX0_layBetween 77 = .ok (.ifCond .eq 24, 3) := by decide +kernel
theorem dX0_layBetween_80 : decode cX0_layBetween 80 = .ok (.aload_n 0, 1) := by decide +kernel
theorem dX0_layBetween_81 : decode cX0_layBetween 81 = .ok (.dup, 1) := by decide +kernel
theorem dX0_layBetween_82 : decode cX0_layBetween 82 = .ok (.getfield 24, 3) := by decide +kernel
theorem dX0_layBetween_85 : decode cX0_layBetween 85 = .ok (.iconst 1, 1) := by decide +kernel
theorem dX0_layBetween_86 : decode cX0_layBetween 86 = .ok (.iload 5, 2) := by decide +kernel
theorem dX0_layBetween_88 : decode cX0_layBetween 88 = .ok (.aload_n 0, 1) := by decide +kernel
theorem dX0_layBetween_89 : decode cX0_layBetween 89 = .ok (.getfield 15, 3) := by decide +kernel
theorem dX0_layBetween_92 : decode cX0_layBetween 92 = .ok (.imul, 1) := by decide +kernel
theorem dX0_layBetween_93 : decode cX0_layBetween 93 = .ok (.iload 6, 2) := by decide +kernel
theorem dX0_layBetween_95 : decode cX0_layBetween 95 = .ok (.iadd, 1) := by decide +kernel
theorem dX0_layBetween_96 : decode cX0_layBetween 96 = .ok (.ishl, 1) := by decide +kernel
theorem dX0_layBetween_97 : decode cX0_layBetween 97 = .ok (.ior, 1) := by decide +kernel
theorem dX0_layBetween_98 : decode cX0_layBetween 98 = .ok (.putfield 24, 3) := by decide +kernel
theorem dX0_layBetween_101 : decode cX0_layBetween 101 = .ok (.iload 6, 2) := by decide +kernel
theorem dX0_layBetween_103 : decode cX0_layBetween 103 = .ok (.aload_n 0, 1) := by decide +kernel
theorem dX0_layBetween_104 : decode cX0_layBetween 104 = .ok (.getfield 15, 3) := by decide +kernel
theorem dX0_layBetween_107 : decode cX0_layBetween 107 = .ok (.iconst 1, 1) := by decide +kernel
theorem dX0_layBetween_108 : decode cX0_layBetween 108 = .ok (.isub, 1) := by decide +kernel
theorem dX0_layBetween_109 : decode cX0_layBetween 109 = .ok (.if_icmp .ge 38, 3) := by decide +kernel
theorem dX0_layBetween_112 : decode cX0_layBetween 112 = .ok (.iload 4, 2) := by decide +kernel
theorem dX0_layBetween_114 : decode cX0_layBetween 114 = .ok (.iload 7, 2) := by decide +kernel
theorem dX0_layBetween_116 : decode cX0_layBetween 116 = .ok (.iconst 1, 1) := by decide +kernel
theorem dX0_layBetween_117 : decode cX0_layBetween 117 = .ok (.iadd, 1) := by decide +kernel
theorem dX0_layBetween_118 : decode cX0_layBetween 118 = .ok (.invokestatic 27, 3) := by decide +kernel
theorem dX0_layBetween_121 : decode cX0_layBetween 121 = .ok (.ifCond .eq 26, 3) := by decide +kernel
theorem dX0_layBetween_124 : decode cX0_layBetween 124 = .ok (.aload_n 0, 1) := by decide +kernel
theorem dX0_layBetween_125 : decode cX0_layBetween 125 = .ok (.dup, 1) := by decide +kernel
theorem dX0_layBetween_126 : decode cX0_layBetween 126 = .ok (.getfield 21, 3) := by decide +kernel
theorem dX0_layBetween_129 : decode cX0_layBetween 129 = .ok (.iconst 1, 1) := by decide +kernel
theorem dX0_layBetween_130 : decode cX0_layBetween 130 = .ok (.iload 5, 2) := by decide +kernel
theorem dX0_layBetween_132 : decode cX0_layBetween 132 = .ok (.iconst 1, 1) := by decide +kernel
theorem dX0_layBetween_133 : decode cX0_layBetween 133 = .ok (.iadd, 1) := by decide +kernel
theorem dX0_layBetween_134 : decode cX0_layBetween 134 = .ok (.aload_n 0, 1) := by decide +kernel
theorem dX0_layBetween_135 : decode cX0_layBetween 135 = .ok (.getfield 15, 3) := by decide +kernel
theorem dX0_layBetween_138 : decode cX0_layBetween 138 = .ok (.imul, 1) := by decide +kernel
theorem dX0_layBetween_139 : decode cX0_layBetween 139 = .ok (.iload 6, 2) := by decide +kernel
theorem dX0_layBetween_141 : decode cX0_layBetween 141 = .ok (.iadd, 1) := by decide +kernel
theorem dX0_layBetween_142 : decode cX0_layBetween 142 = .ok (.ishl, 1) := by decide +kernel
theorem dX0_layBetween_143 : decode cX0_layBetween 143 = .ok (.ior, 1) := by decide +kernel
theorem dX0_layBetween_144 : decode cX0_layBetween 144 = .ok (.putfield 21, 3) := by decide +kernel
theorem dX0_layBetween_147 : decode cX0_layBetween 147 = .ok (.iinc 6 1, 3) := by decide +kernel
theorem dX0_layBetween_150 : decode cX0_layBetween 150 = .ok (.goto (-97), 3) := by decide +kernel
theorem dX0_layBetween_153 : decode cX0_layBetween 153 = .ok (.iinc 5 1, 3) := by decide +kernel
theorem dX0_layBetween_156 : decode cX0_layBetween 156 = .ok (.goto (-112), 3) := by decide +kernel
theorem dX0_layBetween_159 : decode cX0_layBetween 159 = .ok (.return_, 1) := by decide +kernel
theorem dX0_isCrossed_0 : decode cX0_isCrossed 0 = .ok (.iload_n 1, 1) := by decide +kernel
theorem dX0_isCrossed_1 : decode cX0_isCrossed 1 = .ok (.ifCond .ne 46, 3) := by decide +kernel
theorem dX0_isCrossed_4 : decode cX0_isCrossed 4 = .ok (.aload_n 0, 1) := by decide +kernel
theorem dX0_isCrossed_5 : decode cX0_isCrossed 5 = .ok (.iconst 0, 1) := by decide +kernel
theorem dX0_isCrossed_6 : decode cX0_isCrossed 6 = .ok (.aload_n 0, 1) := by decide +kernel
theorem dX0_isCrossed_7 : decode cX0_isCrossed 7 = .ok (.getfield 15, 3) := by decide +kernel
theorem dX0_isCrossed_10 : decode cX0_isCrossed 10 = .ok (.aload_n 0, 1) := by decide +kernel
theorem dX0_isCrossed_11 : decode cX0_isCrossed 11 = .ok (.getfield 9, 3) := by decide +kernel
theorem dX0_isCrossed_14 : decode cX0_isCrossed 14 = .ok (.invokestatic 31, 3) := by decide +kernel
theorem dX0_isCrossed_17 : decode cX0_isCrossed 17 = .ok (.invokevirtual 35, 3) := by decide +kernel
theorem dX0_isCrossed_20 : decode cX0_isCrossed 20 = .ok (.aload_n 0, 1) := by decide +kernel
theorem dX0_isCrossed_21 : decode cX0_isCrossed 21 = .ok (.getfield 15, 3) := by decide +kernel
theorem dX0_isCrossed_24 : decode cX0_isCrossed 24 = .ok (.iconst 1, 1) := by decide +kernel
theorem dX0_isCrossed_25 : decode cX0_isCrossed 25 = .ok (.isub, 1) := by decide +kernel
theorem dX0_isCrossed_26 : decode cX0_isCrossed 26 = .ok (.aload_n 0, 1) := by decide +kernel
theorem dX0_isCrossed_27 : decode cX0_isCrossed 27 = .ok (.getfield 15, 3) := by decide +kernel
theorem dX0_isCrossed_30 : decode cX0_isCrossed 30 = .ok (.aload_n 0, 1) := by decide +kernel
theorem dX0_isCrossed_31 : decode cX0_isCrossed 31 = .ok (.getfield 9, 3) := by decide +kernel
theorem dX0_isCrossed_34 : decode cX0_isCrossed 34 = .ok (.invokestatic 31, 3) := by decide +kernel
theorem dX0_isCrossed_37 : decode cX0_isCrossed 37 = .ok (.iand, 1) := by decide +kernel
theorem dX0_isCrossed_38 : decode cX0_isCrossed 38 = .ok (.ifCond .eq 7, 3) := by decide +kernel
theorem dX0_isCrossed_41 : decode cX0_isCrossed 41 = .ok (.iconst 1, 1) := by decide +kernel
theorem dX0_isCrossed_42 : decode cX0_isCrossed 42 = .ok (.goto 4, 3) := by decide +kernel
theorem dX0_isCrossed_45 : decode cX0_isCrossed 45 = .ok (.iconst 0, 1) := by decide +kernel
theorem dX0_isCrossed_46 : decode cX0_isCrossed 46 = .ok (.ireturn, 1) := by decide +kernel
theorem dX0_isCrossed_47 : decode cX0_isCrossed 47 = .ok (.aload_n 0, 1) := by decide +kernel
theorem dX0_isCrossed_48 : decode cX0_isCrossed 48 = .ok (.iconst 0, 1) := by decide +kernel
theorem dX0_isCrossed_49 : decode cX0_isCrossed 49 = .ok (.iconst 1, 1) := by decide +kernel
theorem dX0_isCrossed_50 : decode cX0_isCrossed 50 = .ok (.aload_n 0, 1) := by decide +kernel
theorem dX0_isCrossed_51 : decode cX0_isCrossed 51 = .ok (.getfield 15, 3) := by decide +kernel
theorem dX0_isCrossed_54 : decode cX0_isCrossed 54 = .ok (.invokestatic 31, 3) := by decide +kernel
theorem dX0_isCrossed_57 : decode cX0_isCrossed 57 = .ok (.invokevirtual 35, 3) := by decide +kernel
theorem dX0_isCrossed_60 : decode cX0_isCrossed 60 = .ok (.aload_n 0, 1) := by decide +kernel
theorem dX0_isCrossed_61 : decode cX0_isCrossed 61 = .ok (.getfield 9, 3) := by decide +kernel
theorem dX0_isCrossed_64 : decode cX0_isCrossed 64 = .ok (.iconst 1, 1) := by decide +kernel
theorem dX0_isCrossed_65 : decode cX0_isCrossed 65 = .ok (.isub, 1) := by decide +kernel
theorem dX0_isCrossed_66 : decode cX0_isCrossed 66 = .ok (.aload_n 0, 1) := by decide +kernel
theorem dX0_isCrossed_67 : decode cX0_isCrossed 67 = .ok (.getfield 15, 3) := by decide +kernel
theorem dX0_isCrossed_70 : decode cX0_isCrossed 70 = .ok (.imul, 1) := by decide +kernel
theorem dX0_isCrossed_71 : decode cX0_isCrossed 71 = .ok (.iconst 1, 1) := by decide +kernel
theorem dX0_isCrossed_72 : decode cX0_isCrossed 72 = .ok (.aload_n 0, 1) := by decide +kernel
theorem dX0_isCrossed_73 : decode cX0_isCrossed 73 = .ok (.getfield 15, 3) := by decide +kernel
theorem dX0_isCrossed_76 : decode cX0_isCrossed 76 = .ok (.invokestatic 31, 3) := by decide +kernel
theorem dX0_isCrossed_79 : decode cX0_isCrossed 79 = .ok (.iand, 1) := by decide +kernel
theorem dX0_isCrossed_80 : decode cX0_isCrossed 80 = .ok (.ifCond .eq 7, 3) := by decide +kernel
theorem dX0_isCrossed_83 : decode cX0_isCrossed 83 = .ok (.iconst 1, 1) := by decide +kernel
theorem dX0_isCrossed_84 : decode cX0_isCrossed 84 = .ok (.goto 4, 3) := by decide +kernel
theorem dX0_isCrossed_87 : decode cX0_isCrossed 87 = .ok (.iconst 0, 1) := by decide +kernel
theorem dX0_isCrossed_88 : decode cX0_isCrossed 88 = .ok (.ireturn, 1) := by decide +kernel
theorem dX0_heapAt_0 : decode cX0_heapAt 0 = .ok (.aload_n 0, 1) := by decide +kernel
theorem dX0_heapAt_1 : decode cX0_heapAt 1 = .ok (.iconst 1, 1) := by decide +kernel
theorem dX0_heapAt_2 : decode cX0_heapAt 2 = .ok (.iload_n 1, 1) := by decide +kernel
theorem dX0_heapAt_3 : decode cX0_heapAt 3 = .ok (.ishl, 1) := by decide +kernel
theorem dX0_heapAt_4 : decode cX0_heapAt 4 = .ok (.invokevirtual 35, 3) := by decide +kernel
theorem dX0_heapAt_7 : decode cX0_heapAt 7 = .ok (.ireturn, 1) := by decide +kernel
theorem dX0_heapCount_0 : decode cX0_heapCount 0 = .ok (.iconst 0, 1) := by decide +kernel
theorem dX0_heapCount_1 : decode cX0_heapCount 1 = .ok (.istore_n 1, 1) := by decide +kernel
theorem dX0_heapCount_2 : decode cX0_heapCount 2 = .ok (.aload_n 0, 1) := by decide +kernel
theorem dX0_heapCount_3 : decode cX0_heapCount 3 = .ok (.getfield 18, 3) := by decide +kernel
theorem dX0_heapCount_6 : decode cX0_heapCount 6 = .ok (.istore_n 2, 1) := by decide +kernel
theorem dX0_heapCount_7 : decode cX0_heapCount 7 = .ok (.iconst 0, 1) := by decide +kernel
theorem dX0_heapCount_8 : decode cX0_heapCount 8 = .ok (.istore_n 3, 1) := by decide +kernel
theorem dX0_heapCount_9 : decode cX0_heapCount 9 = .ok (.iload_n 3, 1) := by decide +kernel
theorem dX0_heapCount_10 : decode cX0_heapCount 10 = .ok (.bipush 25, 2) := by decide +kernel
theorem dX0_heapCount_12 : decode cX0_heapCount 12 = .ok (.if_icmp .ge 30, 3) := by decide +kernel
theorem dX0_heapCount_15 : decode cX0_heapCount 15 = .ok (.iload_n 2, 1) := by decide +kernel
theorem dX0_heapCount_16 : decode cX0_heapCount 16 = .ok (.iload_n 3, 1) := by decide +kernel
theorem dX0_heapCount_17 : decode cX0_heapCount 17 = .ok (.invokestatic 27, 3) := by decide +kernel
theorem dX0_heapCount_20 : decode cX0_heapCount 20 = .ok (.ifCond .eq 16, 3) := by decide +kernel
theorem dX0_heapCount_23 : decode cX0_heapCount 23 = .ok (.iload_n 2, 1) := by decide +kernel
theorem dX0_heapCount_24 : decode cX0_heapCount 24 = .ok (.aload_n 0, 1) := by decide +kernel
theorem dX0_heapCount_25 : decode cX0_heapCount 25 = .ok (.iload_n 3, 1) := by decide +kernel
theorem dX0_heapCount_26 : decode cX0_heapCount 26 = .ok (.invokevirtual 39, 3) := by decide +kernel
theorem dX0_heapCount_29 : decode cX0_heapCount 29 = .ok (.iconst (-1), 1) := by decide +kernel
theorem dX0_heapCount_30 : decode cX0_heapCount 30 = .ok (.ixor, 1) := by decide +kernel
theorem dX0_heapCount_31 : decode cX0_heapCount 31 = .ok (.iand, 1) := by decide +kernel
theorem dX0_heapCount_32 : decode cX0_heapCount 32 = .ok (.istore_n 2, 1) := by decide +kernel
theorem dX0_heapCount_33 : decode cX0_heapCount 33 = .ok (.iinc 1 1, 3) := by decide +kernel
theorem dX0_heapCount_36 : decode cX0_heapCount 36 = .ok (.iinc 3 1, 3) := by decide +kernel
theorem dX0_heapCount_39 : decode cX0_heapCount 39 = .ok (.goto (-30), 3) := by decide +kernel
theorem dX0_heapCount_42 : decode cX0_heapCount 42 = .ok (.iload_n 1, 1) := by decide +kernel
theorem dX0_heapCount_43 : decode cX0_heapCount 43 = .ok (.ireturn, 1) := by decide +kernel
theorem dX0_greatestHeap_0 : decode cX0_greatestHeap 0 = .ok (.iconst 0, 1) := by decide +kernel
theorem dX0_greatestHeap_1 : decode cX0_greatestHeap 1 = .ok (.istore_n 1, 1) := by decide +kernel
theorem dX0_greatestHeap_2 : decode cX0_greatestHeap 2 = .ok (.iconst 0, 1) := by decide +kernel
theorem dX0_greatestHeap_3 : decode cX0_greatestHeap 3 = .ok (.istore_n 2, 1) := by decide +kernel
theorem dX0_greatestHeap_4 : decode cX0_greatestHeap 4 = .ok (.iload_n 2, 1) := by decide +kernel
theorem dX0_greatestHeap_5 : decode cX0_greatestHeap 5 = .ok (.bipush 25, 2) := by decide +kernel
theorem dX0_greatestHeap_7 : decode cX0_greatestHeap 7 = .ok (.if_icmp .ge 22, 3) := by decide +kernel
theorem dX0_greatestHeap_10 : decode cX0_greatestHeap 10 = .ok (.iload_n 1, 1) := by decide +kernel
theorem dX0_greatestHeap_11 : decode cX0_greatestHeap 11 = .ok (.aload_n 0, 1) := by decide +kernel
theorem dX0_greatestHeap_12 : decode cX0_greatestHeap 12 = .ok (.iload_n 2, 1) := by decide +kernel
theorem dX0_greatestHeap_13 : decode cX0_greatestHeap 13 = .ok (.invokevirtual 39, 3) := by decide +kernel
theorem dX0_greatestHeap_16 : decode cX0_greatestHeap 16 = .ok (.invokestatic 42, 3) := by decide +kernel
theorem dX0_greatestHeap_19 : decode cX0_greatestHeap 19 = .ok (.invokestatic 47, 3) := by decide +kernel
theorem dX0_greatestHeap_22 : decode cX0_greatestHeap 22 = .ok (.istore_n 1, 1) := by decide +kernel
theorem dX0_greatestHeap_23 : decode cX0_greatestHeap 23 = .ok (.iinc 2 1, 3) := by decide +kernel
theorem dX0_greatestHeap_26 : decode cX0_greatestHeap 26 = .ok (.goto (-22), 3) := by decide +kernel
theorem dX0_greatestHeap_29 : decode cX0_greatestHeap 29 = .ok (.iload_n 1, 1) := by decide +kernel
theorem dX0_greatestHeap_30 : decode cX0_greatestHeap 30 = .ok (.ireturn, 1) := by decide +kernel
theorem dX0_line_0 : decode cX0_line 0 = .ok (.iconst 0, 1) := by decide +kernel
theorem dX0_line_1 : decode cX0_line 1 = .ok (.istore_n 3, 1) := by decide +kernel
theorem dX0_line_2 : decode cX0_line 2 = .ok (.iconst 0, 1) := by decide +kernel
theorem dX0_line_3 : decode cX0_line 3 = .ok (.istore 4, 2) := by decide +kernel
theorem dX0_line_5 : decode cX0_line 5 = .ok (.iload 4, 2) := by decide +kernel
theorem dX0_line_7 : decode cX0_line 7 = .ok (.iload_n 2, 1) := by decide +kernel
theorem dX0_line_8 : decode cX0_line 8 = .ok (.if_icmp .ge 20, 3) := by decide +kernel
theorem dX0_line_11 : decode cX0_line 11 = .ok (.iload_n 3, 1) := by decide +kernel
theorem dX0_line_12 : decode cX0_line 12 = .ok (.iconst 1, 1) := by decide +kernel
theorem dX0_line_13 : decode cX0_line 13 = .ok (.iload_n 0, 1) := by decide +kernel
theorem dX0_line_14 : decode cX0_line 14 = .ok (.iload 4, 2) := by decide +kernel
theorem dX0_line_16 : decode cX0_line 16 = .ok (.iload_n 1, 1) := by decide +kernel
theorem dX0_line_17 : decode cX0_line 17 = .ok (.imul, 1) := by decide +kernel
theorem dX0_line_18 : decode cX0_line 18 = .ok (.iadd, 1) := by decide +kernel
theorem dX0_line_19 : decode cX0_line 19 = .ok (.ishl, 1) := by decide +kernel
theorem dX0_line_20 : decode cX0_line 20 = .ok (.ior, 1) := by decide +kernel
theorem dX0_line_21 : decode cX0_line 21 = .ok (.istore_n 3, 1) := by decide +kernel
theorem dX0_line_22 : decode cX0_line 22 = .ok (.iinc 4 1, 3) := by decide +kernel
theorem dX0_line_25 : decode cX0_line 25 = .ok (.goto (-20), 3) := by decide +kernel
theorem dX0_line_28 : decode cX0_line 28 = .ok (.iload_n 3, 1) := by decide +kernel
theorem dX0_line_29 : decode cX0_line 29 = .ok (.ireturn, 1) := by decide +kernel
theorem dX0_spread_0 : decode cX0_spread 0 = .ok (.iload_n 1, 1) := by decide +kernel
theorem dX0_spread_1 : decode cX0_spread 1 = .ok (.aload_n 0, 1) := by decide +kernel
theorem dX0_spread_2 : decode cX0_spread 2 = .ok (.getfield 18, 3) := by decide +kernel
theorem dX0_spread_5 : decode cX0_spread 5 = .ok (.iand, 1) := by decide +kernel
theorem dX0_spread_6 : decode cX0_spread 6 = .ok (.istore_n 2, 1) := by decide +kernel
theorem dX0_spread_7 : decode cX0_spread 7 = .ok (.iconst 0, 1) := by decide +kernel
theorem dX0_spread_8 : decode cX0_spread 8 = .ok (.istore_n 3, 1) := by decide +kernel
theorem dX0_spread_9 : decode cX0_spread 9 = .ok (.iload_n 3, 1) := by decide +kernel
theorem dX0_spread_10 : decode cX0_spread 10 = .ok (.bipush 25, 2) := by decide +kernel
theorem dX0_spread_12 : decode cX0_spread 12 = .ok (.if_icmp .ge 66, 3) := by decide +kernel
theorem dX0_spread_15 : decode cX0_spread 15 = .ok (.iload_n 2, 1) := by decide +kernel
theorem dX0_spread_16 : decode cX0_spread 16 = .ok (.iload_n 2, 1) := by decide +kernel
theorem dX0_spread_17 : decode cX0_spread 17 = .ok (.aload_n 0, 1) := by decide +kernel
theorem dX0_spread_18 : decode cX0_spread 18 = .ok (.getfield 21, 3) := by decide +kernel
theorem dX0_spread_21 : decode cX0_spread 21 = .ok (.iand, 1) := by decide +kernel
theorem dX0_spread_22 : decode cX0_spread 22 = .ok (.iconst 1, 1) := by decide +kernel
theorem dX0_spread_23 : decode cX0_spread 23 = .ok (.ishl, 1) := by decide +kernel
theorem dX0_spread_24 : decode cX0_spread 24 = .ok (.ior, 1) := by decide +kernel
theorem dX0_spread_25 : decode cX0_spread 25 = .ok (.iload_n 2, 1) := by decide +kernel
theorem dX0_spread_26 : decode cX0_spread 26 = .ok (.iconst 1, 1) := by decide +kernel
theorem dX0_spread_27 : decode cX0_spread 27 = .ok (.iushr, 1) := by decide +kernel
theorem dX0_spread_28 : decode cX0_spread 28 = .ok (.aload_n 0, 1) := by decide +kernel
theorem dX0_spread_29 : decode cX0_spread 29 = .ok (.getfield 21, 3) := by decide +kernel
theorem dX0_spread_32 : decode cX0_spread 32 = .ok (.iand, 1) := by decide +kernel
theorem dX0_spread_33 : decode cX0_spread 33 = .ok (.ior, 1) := by decide +kernel
theorem dX0_spread_34 : decode cX0_spread 34 = .ok (.iload_n 2, 1) := by decide +kernel
theorem dX0_spread_35 : decode cX0_spread 35 = .ok (.aload_n 0, 1) := by decide +kernel
theorem dX0_spread_36 : decode cX0_spread 36 = .ok (.getfield 24, 3) := by decide +kernel
theorem dX0_spread_39 : decode cX0_spread 39 = .ok (.iand, 1) := by decide +kernel
theorem dX0_spread_40 : decode cX0_spread 40 = .ok (.aload_n 0, 1) := by decide +kernel
theorem dX0_spread_41 : decode cX0_spread 41 = .ok (.getfield 15, 3) := by decide +kernel
theorem dX0_spread_44 : decode cX0_spread 44 = .ok (.ishl, 1) := by decide +kernel
theorem dX0_spread_45 : decode cX0_spread 45 = .ok (.ior, 1) := by decide +kernel
theorem dX0_spread_46 : decode cX0_spread 46 = .ok (.iload_n 2, 1) := by decide +kernel
theorem dX0_spread_47 : decode cX0_spread 47 = .ok (.aload_n 0, 1) := by decide +kernel
theorem dX0_spread_48 : decode cX0_spread 48 = .ok (.getfield 15, 3) := by decide +kernel
theorem dX0_spread_51 : decode cX0_spread 51 = .ok (.iushr, 1) := by decide +kernel
theorem dX0_spread_52 : decode cX0_spread 52 = .ok (.aload_n 0, 1) := by decide +kernel
theorem dX0_spread_53 : decode cX0_spread 53 = .ok (.getfield 24, 3) := by decide +kernel
theorem dX0_spread_56 : decode cX0_spread 56 = .ok (.iand, 1) := by decide +kernel
theorem dX0_spread_57 : decode cX0_spread 57 = .ok (.ior, 1) := by decide +kernel
theorem dX0_spread_58 : decode cX0_spread 58 = .ok (.istore 4, 2) := by decide +kernel
theorem dX0_spread_60 : decode cX0_spread 60 = .ok (.iload 4, 2) := by decide +kernel
theorem dX0_spread_62 : decode cX0_spread 62 = .ok (.iload_n 2, 1) := by decide +kernel
theorem dX0_spread_63 : decode cX0_spread 63 = .ok (.if_icmp .ne 6, 3) := by decide +kernel
theorem dX0_spread_66 : decode cX0_spread 66 = .ok (.goto 12, 3) := by decide +kernel
theorem dX0_spread_69 : decode cX0_spread 69 = .ok (.iload 4, 2) := by decide +kernel
theorem dX0_spread_71 : decode cX0_spread 71 = .ok (.istore_n 2, 1) := by decide +kernel
theorem dX0_spread_72 : decode cX0_spread 72 = .ok (.iinc 3 1, 3) := by decide +kernel
theorem dX0_spread_75 : decode cX0_spread 75 = .ok (.goto (-66), 3) := by decide +kernel
theorem dX0_spread_78 : decode cX0_spread 78 = .ok (.iload_n 2, 1) := by decide +kernel
theorem dX0_spread_79 : decode cX0_spread 79 = .ok (.ireturn, 1) := by decide +kernel
theorem dX1_init_0 : decode cX1_init 0 = .ok (.aload_n 0, 1) := by decide +kernel
theorem dX1_init_1 : decode cX1_init 1 = .ok (.invokespecial 3, 3) := by decide +kernel
theorem dX1_init_4 : decode cX1_init 4 = .ok (.aload_n 0, 1) := by decide +kernel
theorem dX1_init_5 : decode cX1_init 5 = .ok (.bipush 40, 2) := by decide +kernel
theorem dX1_init_7 : decode cX1_init 7 = .ok (.newarray .int, 2) := by decide +kernel
theorem dX1_init_9 : decode cX1_init 9 = .ok (.putfield 9, 3) := by decide +kernel
theorem dX1_init_12 : decode cX1_init 12 = .ok (.return_, 1) := by decide +kernel
theorem dX1_lay_0 : decode cX1_lay 0 = .ok (.aload_n 0, 1) := by decide +kernel
theorem dX1_lay_1 : decode cX1_lay 1 = .ok (.iload_n 1, 1) := by decide +kernel
theorem dX1_lay_2 : decode cX1_lay 2 = .ok (.putfield 15, 3) := by decide +kernel
theorem dX1_lay_5 : decode cX1_lay 5 = .ok (.aload_n 0, 1) := by decide +kernel
theorem dX1_lay_6 : decode cX1_lay 6 = .ok (.iload_n 2, 1) := by decide +kernel
theorem dX1_lay_7 : decode cX1_lay 7 = .ok (.putfield 19, 3) := by decide +kernel
theorem dX1_lay_10 : decode cX1_lay 10 = .ok (.aload_n 0, 1) := by decide +kernel
theorem dX1_lay_11 : decode cX1_lay 11 = .ok (.iload_n 3, 1) := by decide +kernel
theorem dX1_lay_12 : decode cX1_lay 12 = .ok (.putfield 22, 3) := by decide +kernel
theorem dX1_lay_15 : decode cX1_lay 15 = .ok (.aload_n 0, 1) := by decide +kernel
theorem dX1_lay_16 : decode cX1_lay 16 = .ok (.aload_n 0, 1) := by decide +kernel
theorem dX1_lay_17 : decode cX1_lay 17 = .ok (.aload_n 0, 1) := by decide +kernel
theorem dX1_lay_18 : decode cX1_lay 18 = .ok (.getfield 15, 3) := by decide +kernel
theorem dX1_lay_21 : decode cX1_lay 21 = .ok (.aload_n 0, 1) := by decide +kernel
theorem dX1_lay_22 : decode cX1_lay 22 = .ok (.getfield 19, 3) := by decide +kernel
theorem dX1_lay_25 : decode cX1_lay 25 = .ok (.invokevirtual 26, 3) := by decide +kernel
theorem dX1_lay_28 : decode cX1_lay 28 = .ok (.putfield 30, 3) := by decide +kernel
theorem dX1_lay_31 : decode cX1_lay 31 = .ok (.aload_n 0, 1) := by decide +kernel
theorem dX1_lay_32 : decode cX1_lay 32 = .ok (.aload_n 0, 1) := by decide +kernel
theorem dX1_lay_33 : decode cX1_lay 33 = .ok (.aload_n 0, 1) := by decide +kernel
theorem dX1_lay_34 : decode cX1_lay 34 = .ok (.getfield 15, 3) := by decide +kernel
theorem dX1_lay_37 : decode cX1_lay 37 = .ok (.aload_n 0, 1) := by decide +kernel
theorem dX1_lay_38 : decode cX1_lay 38 = .ok (.getfield 19, 3) := by decide +kernel
theorem dX1_lay_41 : decode cX1_lay 41 = .ok (.iconst 1, 1) := by decide +kernel
theorem dX1_lay_42 : decode cX1_lay 42 = .ok (.isub, 1) := by decide +kernel
theorem dX1_lay_43 : decode cX1_lay 43 = .ok (.invokevirtual 26, 3) := by decide +kernel
theorem dX1_lay_46 : decode cX1_lay 46 = .ok (.putfield 33, 3) := by decide +kernel
theorem dX1_lay_49 : decode cX1_lay 49 = .ok (.aload_n 0, 1) := by decide +kernel
theorem dX1_lay_50 : decode cX1_lay 50 = .ok (.aload_n 0, 1) := by decide +kernel
theorem dX1_lay_51 : decode cX1_lay 51 = .ok (.aload_n 0, 1) := by decide +kernel
theorem dX1_lay_52 : decode cX1_lay 52 = .ok (.getfield 15, 3) := by decide +kernel
theorem dX1_lay_55 : decode cX1_lay 55 = .ok (.iconst 1, 1) := by decide +kernel
theorem dX1_lay_56 : decode cX1_lay 56 = .ok (.isub, 1) := by decide +kernel
theorem dX1_lay_57 : decode cX1_lay 57 = .ok (.aload_n 0, 1) := by decide +kernel
theorem dX1_lay_58 : decode cX1_lay 58 = .ok (.getfield 19, 3) := by decide +kernel
theorem dX1_lay_61 : decode cX1_lay 61 = .ok (.invokevirtual 26, 3) := by decide +kernel
theorem dX1_lay_64 : decode cX1_lay 64 = .ok (.putfield 36, 3) := by decide +kernel
theorem dX1_lay_67 : decode cX1_lay 67 = .ok (.aload_n 0, 1) := by decide +kernel
theorem dX1_lay_68 : decode cX1_lay 68 = .ok (.iconst 0, 1) := by decide +kernel
theorem dX1_lay_69 : decode cX1_lay 69 = .ok (.putfield 39, 3) := by decide +kernel
theorem dX1_lay_72 : decode cX1_lay 72 = .ok (.aload_n 0, 1) := by decide +kernel
theorem dX1_lay_73 : decode cX1_lay 73 = .ok (.getfield 22, 3) := by decide +kernel
theorem dX1_lay_76 : decode cX1_lay 76 = .ok (.ifCond .eq 15, 3) := by decide +kernel
theorem dX1_lay_79 : decode cX1_lay 79 = .ok (.aload_n 0, 1) := by decide +kernel
theorem dX1_lay_80 : decode cX1_lay 80 = .ok (.aload_n 0, 1) := by decide +kernel
theorem dX1_lay_81 : decode cX1_lay 81 = .ok (.getfield 30, 3) := by decide +kernel
theorem dX1_lay_84 : decode cX1_lay 84 = .ok (.iconst 0, 1) := by decide +kernel
theorem dX1_lay_85 : decode cX1_lay 85 = .ok (.invokevirtual 42, 3) := by decide +kernel
theorem dX1_lay_88 : decode cX1_lay 88 = .ok (.goto 22, 3) := by decide +kernel
theorem dX1_lay_91 : decode cX1_lay 91 = .ok (.aload_n 0, 1) := by decide +kernel
theorem dX1_lay_92 : decode cX1_lay 92 = .ok (.aload_n 0, 1) := by decide +kernel
theorem dX1_lay_93 : decode cX1_lay 93 = .ok (.getfield 33, 3) := by decide +kernel
theorem dX1_lay_96 : decode cX1_lay 96 = .ok (.iconst 0, 1) := by decide +kernel
theorem dX1_lay_97 : decode cX1_lay 97 = .ok (.invokevirtual 42, 3) := by decide +kernel
theorem dX1_lay_100 : decode cX1_lay 100 = .ok (.aload_n 0, 1) := by decide +kernel
theorem dX1_lay_101 : decode cX1_lay 101 = .ok (.aload_n 0, 1) := by decide +kernel
theorem dX1_lay_102 : decode cX1_lay 102 = .ok (.getfield 36, 3) := by decide +kernel
theorem dX1_lay_105 : decode cX1_lay 105 = .ok (.bipush 32, 2) := by decide +kernel
theorem dX1_lay_107 : decode cX1_lay 107 = .ok (.invokevirtual 42, 3) := by decide +kernel
theorem dX1_lay_110 : decode cX1_lay 110 = .ok (.return_, 1) := by decide +kernel
theorem dX1_corner_0 : decode cX1_corner 0 = .ok (.iconst 0, 1) := by decide +kernel
theorem dX1_corner_1 : decode cX1_corner 1 = .ok (.istore_n 3, 1) := by decide +kernel
theorem dX1_corner_2 : decode cX1_corner 2 = .ok (.iconst 0, 1) := by decide +kernel
theorem dX1_corner_3 : decode cX1_corner 3 = .ok (.istore 4, 2) := by decide +kernel
theorem dX1_corner_5 : decode cX1_corner 5 = .ok (.iload 4, 2) := by decide +kernel
theorem dX1_corner_7 : decode cX1_corner 7 = .ok (.iload_n 1, 1) := by decide +kernel
theorem dX1_corner_8 : decode cX1_corner 8 = .ok (.if_icmp .ge 39, 3) := by decide +kernel
theorem dX1_corner_11 : decode cX1_corner 11 = .ok (.iconst 0, 1) := by decide +kernel
theorem dX1_corner_12 : decode cX1_corner 12 = .ok (.istore 5, 2) := by decide +kernel
theorem dX1_corner_14 : decode cX1_corner 14 = .ok (.iload 5, 2) := by decide +kernel
theorem dX1_corner_16 : decode cX1_corner 16 = .ok (.iload_n 2, 1) := by decide +kernel
theorem dX1_corner_17 : decode cX1_corner 17 = .ok (.if_icmp .ge 24, 3) := by decide +kernel
theorem dX1_corner_20 : decode cX1_corner 20 = .ok (.iload_n 3, 1) := by decide +kernel
theorem dX1_corner_21 : decode cX1_corner 21 = .ok (.iconst 1, 1) := by decide +kernel
theorem dX1_corner_22 : decode cX1_corner 22 = .ok (.iload 4, 2) := by decide +kernel
theorem dX1_corner_24 : decode cX1_corner 24 = .ok (.aload_n 0, 1) := by decide +kernel
theorem dX1_corner_25 : decode cX1_corner 25 = .ok (.getfield 19, 3) := by decide +kernel
theorem dX1_corner_28 : decode cX1_corner 28 = .ok (.imul, 1) := by decide +kernel
theorem dX1_corner_29 : decode cX1_corner 29 = .ok (.iload 5, 2) := by decide +kernel
theorem dX1_corner_31 : decode cX1_corner 31 = .ok (.iadd, 1) := by decide +kernel
theorem dX1_corner_32 : decode cX1_corner 32 = .ok (.ishl, 1) := by decide +kernel
theorem dX1_corner_33 : decode cX1_corner 33 = .ok (.ior, 1) := by decide +kernel
theorem dX1_corner_34 : decode cX1_corner 34 = .ok (.istore_n 3, 1) := by decide +kernel
theorem dX1_corner_35 : decode cX1_corner 35 = .ok (.iinc 5 1, 3) := by decide +kernel
theorem dX1_corner_38 : decode cX1_corner 38 = .ok (.goto (-24), 3) := by decide +kernel
theorem dX1_corner_41 : decode cX1_corner 41 = .ok (.iinc 4 1, 3) := by decide +kernel
theorem dX1_corner_44 : decode cX1_corner 44 = .ok (.goto (-39), 3) := by decide +kernel
theorem dX1_corner_47 : decode cX1_corner 47 = .ok (.iload_n 3, 1) := by decide +kernel
theorem dX1_corner_48 : decode cX1_corner 48 = .ok (.ireturn, 1) := by decide +kernel
theorem dX1_addThings_0 : decode cX1_addThings 0 = .ok (.iconst 0, 1) := by decide +kernel
theorem dX1_addThings_1 : decode cX1_addThings 1 = .ok (.istore_n 3, 1) := by decide +kernel
theorem dX1_addThings_2 : decode cX1_addThings 2 = .ok (.iload_n 3, 1) := by decide +kernel
theorem dX1_addThings_3 : decode cX1_addThings 3 = .ok (.bipush 25, 2) := by decide +kernel
theorem dX1_addThings_5 : decode cX1_addThings 5 = .ok (.if_icmp .ge 48, 3) := by decide +kernel
theorem dX1_addThings_8 : decode cX1_addThings 8 = .ok (.iload_n 1, 1) := by decide +kernel
theorem dX1_addThings_9 : decode cX1_addThings 9 = .ok (.iload_n 3, 1) := by decide +kernel
theorem dX1_addThings_10 : decode cX1_addThings 10 = .ok (.invokestatic 46, 3) := by decide +kernel
theorem dX1_addThings_13 : decode cX1_addThings 13 = .ok (.ifCond .eq 34, 3) := by decide +kernel
theorem dX1_addThings_16 : decode cX1_addThings 16 = .ok (.aload_n 0, 1) := by decide +kernel
theorem dX1_addThings_17 : decode cX1_addThings 17 = .ok (.getfield 39, 3) := by decide +kernel
theorem dX1_addThings_20 : decode cX1_addThings 20 = .ok (.bipush 40, 2) := by decide +kernel
theorem dX1_addThings_22 : decode cX1_addThings 22 = .ok (.if_icmp .ge 25, 3) := by decide +kernel
theorem dX1_addThings_25 : decode cX1_addThings 25 = .ok (.aload_n 0, 1) := by decide +kernel
theorem dX1_addThings_26 : decode cX1_addThings 26 = .ok (.getfield 9, 3) := by decide +kernel
theorem dX1_addThings_29 : decode cX1_addThings 29 = .ok (.aload_n 0, 1) := by decide +kernel
theorem dX1_addThings_30 : decode cX1_addThings 30 = .ok (.getfield 39, 3) := by decide +kernel
theorem dX1_addThings_33 : decode cX1_addThings 33 = .ok (.iload_n 2, 1) := by decide +kernel
theorem dX1_addThings_34 : decode cX1_addThings 34 = .ok (.iload_n 3, 1) := by decide +kernel
theorem dX1_addThings_35 : decode cX1_addThings 35 = .ok (.iadd, 1) := by decide +kernel
theorem dX1_addThings_36 : decode cX1_addThings 36 = .ok (.iastore, 1) := by decide +kernel
theorem dX1_addThings_37 : decode cX1_addThings 37 = .ok (.aload_n 0, 1) := by decide +kernel
theorem dX1_addThings_38 : decode cX1_addThings 38 = .ok (.dup, 1) := by decide +kernel
theorem dX1_addThings_39 : decode cX1_addThings 39 = .ok (.getfield 39, 3) := by decide +kernel
theorem dX1_addThings_42 : decode cX1_addThings 42 = .ok (.iconst 1, 1) := by decide +kernel
theorem dX1_addThings_43 : decode cX1_addThings 43 = .ok (.iadd, 1) := by decide +kernel
theorem dX1_addThings_44 : decode cX1_addThings 44 = .ok (.putfield 39, 3) := by decide +kernel
theorem dX1_addThings_47 : decode cX1_addThings 47 = .ok (.iinc 3 1, 3) := by decide +kernel
theorem dX1_addThings_50 : decode cX1_addThings 50 = .ok (.goto (-48), 3) := by decide +kernel
theorem dX1_addThings_53 : decode cX1_addThings 53 = .ok (.return_, 1) := by decide +kernel
theorem dX1_placeOf_0 : decode cX1_placeOf 0 = .ok (.aload_n 0, 1) := by decide +kernel
theorem dX1_placeOf_1 : decode cX1_placeOf 1 = .ok (.getfield 9, 3) := by decide +kernel
theorem dX1_placeOf_4 : decode cX1_placeOf 4 = .ok (.iload_n 1, 1) := by decide +kernel
theorem dX1_placeOf_5 : decode cX1_placeOf 5 = .ok (.iaload, 1) := by decide +kernel
theorem dX1_placeOf_6 : decode cX1_placeOf 6 = .ok (.bipush 32, 2) := by decide +kernel
theorem dX1_placeOf_8 : decode cX1_placeOf 8 = .ok (.irem, 1) := by decide +kernel
theorem dX1_placeOf_9 : decode cX1_placeOf 9 = .ok (.ireturn, 1) := by decide +kernel
theorem dX1_otherPlaceOf_0 : decode cX1_otherPlaceOf 0 = .ok (.aload_n 0, 1) := by decide +kernel
theorem dX1_otherPlaceOf_1 : decode cX1_otherPlaceOf 1 = .ok (.getfield 22, 3) := by decide +kernel
theorem dX1_otherPlaceOf_4 : decode cX1_otherPlaceOf 4 = .ok (.ifCond .eq 9, 3) := by decide +kernel
theorem dX1_otherPlaceOf_7 : decode cX1_otherPlaceOf 7 = .ok (.aload_n 0, 1) := by decide +kernel
theorem dX1_otherPlaceOf_8 : decode cX1_otherPlaceOf 8 = .ok (.iload_n 1, 1) := by decide +kernel
theorem dX1_otherPlaceOf_9 : decode cX1_otherPlaceOf 9 = .ok (.invokevirtual 50, 3) := by decide +kernel
theorem dX1_otherPlaceOf_12 : decode cX1_otherPlaceOf 12 = .ok (.ireturn, 1) := by decide +kernel
theorem dX1_otherPlaceOf_13 : decode cX1_otherPlaceOf 13 = .ok (.aload_n 0, 1) := by decide +kernel
theorem dX1_otherPlaceOf_14 : decode cX1_otherPlaceOf 14 = .ok (.iload_n 1, 1) := by decide +kernel
theorem dX1_otherPlaceOf_15 : decode cX1_otherPlaceOf 15 = .ok (.invokevirtual 50, 3) := by decide +kernel
theorem dX1_otherPlaceOf_18 : decode cX1_otherPlaceOf 18 = .ok (.aload_n 0, 1) := by decide +kernel
theorem dX1_otherPlaceOf_19 : decode cX1_otherPlaceOf 19 = .ok (.getfield 9, 3) := by decide +kernel
theorem dX1_otherPlaceOf_22 : decode cX1_otherPlaceOf 22 = .ok (.iload_n 1, 1) := by decide +kernel
theorem dX1_otherPlaceOf_23 : decode cX1_otherPlaceOf 23 = .ok (.iaload, 1) := by decide +kernel
theorem dX1_otherPlaceOf_24 : decode cX1_otherPlaceOf 24 = .ok (.bipush 32, 2) := by decide +kernel
theorem dX1_otherPlaceOf_26 : decode cX1_otherPlaceOf 26 = .ok (.if_icmp .ge 7, 3) := by decide +kernel
theorem dX1_otherPlaceOf_29 : decode cX1_otherPlaceOf 29 = .ok (.iconst 1, 1) := by decide +kernel
theorem dX1_otherPlaceOf_30 : decode cX1_otherPlaceOf 30 = .ok (.goto 7, 3) := by decide +kernel
theorem dX1_otherPlaceOf_33 : decode cX1_otherPlaceOf 33 = .ok (.aload_n 0, 1) := by decide +kernel
theorem dX1_otherPlaceOf_34 : decode cX1_otherPlaceOf 34 = .ok (.getfield 19, 3) := by decide +kernel
theorem dX1_otherPlaceOf_37 : decode cX1_otherPlaceOf 37 = .ok (.iadd, 1) := by decide +kernel
theorem dX1_otherPlaceOf_38 : decode cX1_otherPlaceOf 38 = .ok (.ireturn, 1) := by decide +kernel
theorem dX1_exchanged_0 : decode cX1_exchanged 0 = .ok (.iconst 0, 1) := by decide +kernel
theorem dX1_exchanged_1 : decode cX1_exchanged 1 = .ok (.istore_n 2, 1) := by decide +kernel
theorem dX1_exchanged_2 : decode cX1_exchanged 2 = .ok (.iconst 0, 1) := by decide +kernel
theorem dX1_exchanged_3 : decode cX1_exchanged 3 = .ok (.istore_n 3, 1) := by decide +kernel
theorem dX1_exchanged_4 : decode cX1_exchanged 4 = .ok (.iload_n 3, 1) := by decide +kernel
theorem dX1_exchanged_5 : decode cX1_exchanged 5 = .ok (.aload_n 0, 1) := by decide +kernel
theorem dX1_exchanged_6 : decode cX1_exchanged 6 = .ok (.getfield 15, 3) := by decide +kernel
theorem dX1_exchanged_9 : decode cX1_exchanged 9 = .ok (.if_icmp .ge 57, 3) := by decide +kernel
theorem dX1_exchanged_12 : decode cX1_exchanged 12 = .ok (.iconst 0, 1) := by decide +kernel
theorem dX1_exchanged_13 : decode cX1_exchanged 13 = .ok (.istore 4, 2) := by decide +kernel
theorem dX1_exchanged_15 : decode cX1_exchanged 15 = .ok (.iload 4, 2) := by decide +kernel
theorem dX1_exchanged_17 : decode cX1_exchanged 17 = .ok (.aload_n 0, 1) := by decide +kernel
theorem dX1_exchanged_18 : decode cX1_exchanged 18 = .ok (.getfield 19, 3) := by decide +kernel
theorem dX1_exchanged_21 : decode cX1_exchanged 21 = .ok (.if_icmp .ge 39, 3) := by decide +kernel
theorem dX1_exchanged_24 : decode cX1_exchanged 24 = .ok (.iload_n 1, 1) := by decide +kernel
theorem dX1_exchanged_25 : decode cX1_exchanged 25 = .ok (.iload_n 3, 1) := by decide +kernel
theorem dX1_exchanged_26 : decode cX1_exchanged 26 = .ok (.aload_n 0, 1) := by decide +kernel
theorem dX1_exchanged_27 : decode cX1_exchanged 27 = .ok (.getfield 19, 3) := by decide +kernel
theorem dX1_exchanged_30 : decode cX1_exchanged 30 = .ok (.imul, 1) := by decide +kernel
theorem dX1_exchanged_31 : decode cX1_exchanged 31 = .ok (.iload 4, 2) := by decide +kernel
theorem dX1_exchanged_33 : decode cX1_exchanged 33 = .ok (.iadd, 1) := by decide +kernel
theorem dX1_exchanged_34 : decode cX1_exchanged 34 = .ok (.invokestatic 46, 3) := by decide +kernel
theorem dX1_exchanged_37 : decode cX1_exchanged 37 = .ok (.ifCond .eq 17, 3) := by decide +kernel
theorem dX1_exchanged_40 : decode cX1_exchanged 40 = .ok (.iload_n 2, 1) := by decide +kernel
theorem dX1_exchanged_41 : decode cX1_exchanged 41 = .ok (.iconst 1, 1) := by decide +kernel
theorem dX1_exchanged_42 : decode cX1_exchanged 42 = .ok (.iload 4, 2) := by decide +kernel
theorem dX1_exchanged_44 : decode cX1_exchanged 44 = .ok (.aload_n 0, 1) := by decide +kernel
theorem dX1_exchanged_45 : decode cX1_exchanged 45 = .ok (.getfield 15, 3) := by decide +kernel
theorem dX1_exchanged_48 : decode cX1_exchanged 48 = .ok (.imul, 1) := by decide +kernel
theorem dX1_exchanged_49 : decode cX1_exchanged 49 = .ok (.iload_n 3, 1) := by decide +kernel
theorem dX1_exchanged_50 : decode cX1_exchanged 50 = .ok (.iadd, 1) := by decide +kernel
theorem dX1_exchanged_51 : decode cX1_exchanged 51 = .ok (.ishl, 1) := by decide +kernel
theorem dX1_exchanged_52 : decode cX1_exchanged 52 = .ok (.ior, 1) := by decide +kernel
theorem dX1_exchanged_53 : decode cX1_exchanged 53 = .ok (.istore_n 2, 1) := by decide +kernel
theorem dX1_exchanged_54 : decode cX1_exchanged 54 = .ok (.iinc 4 1, 3) := by decide +kernel
theorem dX1_exchanged_57 : decode cX1_exchanged 57 = .ok (.goto (-42), 3) := by decide +kernel
theorem dX1_exchanged_60 : decode cX1_exchanged 60 = .ok (.iinc 3 1, 3) := by decide +kernel
theorem dX1_exchanged_63 : decode cX1_exchanged 63 = .ok (.goto (-59), 3) := by decide +kernel
theorem dX1_exchanged_66 : decode cX1_exchanged 66 = .ok (.iload_n 2, 1) := by decide +kernel
theorem dX1_exchanged_67 : decode cX1_exchanged 67 = .ok (.ireturn, 1) := by decide +kernel
theorem dX2_init_0 : decode cX2_init 0 = .ok (.aload_n 0, 1) := by decide +kernel
theorem dX2_init_1 : decode cX2_init 1 = .ok (.invokespecial 1, 3) := by decide +kernel
theorem dX2_init_4 : decode cX2_init 4 = .ok (.aload_n 0, 1) := by decide +kernel
theorem dX2_init_5 : decode cX2_init 5 = .ok (.iload_n 1, 1) := by decide +kernel
theorem dX2_init_6 : decode cX2_init 6 = .ok (.putfield 7, 3) := by decide +kernel
theorem dX2_init_9 : decode cX2_init 9 = .ok (.aload_n 0, 1) := by decide +kernel
theorem dX2_init_10 : decode cX2_init 10 = .ok (.aload_n 2, 1) := by decide +kernel
theorem dX2_init_11 : decode cX2_init 11 = .ok (.putfield 13, 3) := by decide +kernel
theorem dX2_init_14 : decode cX2_init 14 = .ok (.return_, 1) := by decide +kernel
theorem dX2_hasRow_0 : decode cX2_hasRow 0 = .ok (.iconst 0, 1) := by decide +kernel
theorem dX2_hasRow_1 : decode cX2_hasRow 1 = .ok (.iload_n 1, 1) := by decide +kernel
theorem dX2_hasRow_2 : decode cX2_hasRow 2 = .ok (.if_icmp .gt 16, 3) := by decide +kernel
theorem dX2_hasRow_5 : decode cX2_hasRow 5 = .ok (.iload_n 1, 1) := by decide +kernel
theorem dX2_hasRow_6 : decode cX2_hasRow 6 = .ok (.aload_n 0, 1) := by decide +kernel
theorem dX2_hasRow_7 : decode cX2_hasRow 7 = .ok (.getfield 13, 3) := by decide +kernel
theorem dX2_hasRow_10 : decode cX2_hasRow 10 = .ok (.arraylength, 1) := by decide +kernel
theorem dX2_hasRow_11 : decode cX2_hasRow 11 = .ok (.if_icmp .ge 7, 3) := by decide +kernel
theorem dX2_hasRow_14 : decode cX2_hasRow 14 = .ok (.iconst 1, 1) := by decide +kernel
theorem dX2_hasRow_15 : decode cX2_hasRow 15 = .ok (.goto 4, 3) := by decide +kernel
theorem dX2_hasRow_18 : decode cX2_hasRow 18 = .ok (.iconst 0, 1) := by decide +kernel
theorem dX2_hasRow_19 : decode cX2_hasRow 19 = .ok (.ireturn, 1) := by decide +kernel
theorem dX2_holds_0 : decode cX2_holds 0 = .ok (.aload_n 0, 1) := by decide +kernel
theorem dX2_holds_1 : decode cX2_holds 1 = .ok (.getfield 13, 3) := by decide +kernel
theorem dX2_holds_4 : decode cX2_holds 4 = .ok (.iload_n 1, 1) := by decide +kernel
theorem dX2_holds_5 : decode cX2_holds 5 = .ok (.aaload, 1) := by decide +kernel
theorem dX2_holds_6 : decode cX2_holds 6 = .ok (.arraylength, 1) := by decide +kernel
theorem dX2_holds_7 : decode cX2_holds 7 = .ok (.istore 4, 2) := by decide +kernel
theorem dX2_holds_9 : decode cX2_holds 9 = .ok (.iload_n 3, 1) := by decide +kernel
theorem dX2_holds_10 : decode cX2_holds 10 = .ok (.ifCond .lt 25, 3) := by decide +kernel
theorem dX2_holds_13 : decode cX2_holds 13 = .ok (.iload_n 2, 1) := by decide +kernel
theorem dX2_holds_14 : decode cX2_holds 14 = .ok (.ifCond .lt 21, 3) := by decide +kernel
theorem dX2_holds_17 : decode cX2_holds 17 = .ok (.iload_n 3, 1) := by decide +kernel
theorem dX2_holds_18 : decode cX2_holds 18 = .ok (.iload 4, 2) := by decide +kernel
theorem dX2_holds_20 : decode cX2_holds 20 = .ok (.if_icmp .gt 15, 3) := by decide +kernel
theorem dX2_holds_23 : decode cX2_holds 23 = .ok (.iload_n 2, 1) := by decide +kernel
theorem dX2_holds_24 : decode cX2_holds 24 = .ok (.iload 4, 2) := by decide +kernel
theorem dX2_holds_26 : decode cX2_holds 26 = .ok (.iload_n 3, 1) := by decide +kernel
theorem dX2_holds_27 : decode cX2_holds 27 = .ok (.isub, 1) := by decide +kernel
theorem dX2_holds_28 : decode cX2_holds 28 = .ok (.if_icmp .gt 7, 3) := by decide +kernel
theorem dX2_holds_31 : decode cX2_holds 31 = .ok (.iconst 1, 1) := by decide +kernel
theorem dX2_holds_32 : decode cX2_holds 32 = .ok (.goto 4, 3) := by decide +kernel
theorem dX2_holds_35 : decode cX2_holds 35 = .ok (.iconst 0, 1) := by decide +kernel
theorem dX2_holds_36 : decode cX2_holds 36 = .ok (.ireturn, 1) := by decide +kernel
theorem dX3_init_0 : decode cX3_init 0 = .ok (.aload_n 0, 1) := by decide +kernel
theorem dX3_init_1 : decode cX3_init 1 = .ok (.invokespecial 3, 3) := by decide +kernel
theorem dX3_init_4 : decode cX3_init 4 = .ok (.aload_n 0, 1) := by decide +kernel
theorem dX3_init_5 : decode cX3_init 5 = .ok (.bipush 40, 2) := by decide +kernel
theorem dX3_init_7 : decode cX3_init 7 = .ok (.newarray .int, 2) := by decide +kernel
theorem dX3_init_9 : decode cX3_init 9 = .ok (.putfield 9, 3) := by decide +kernel
theorem dX3_init_12 : decode cX3_init 12 = .ok (.aload_n 0, 1) := by decide +kernel
theorem dX3_init_13 : decode cX3_init 13 = .ok (.bipush 40, 2) := by decide +kernel
theorem dX3_init_15 : decode cX3_init 15 = .ok (.newarray .int, 2) := by decide +kernel
theorem dX3_init_17 : decode cX3_init 17 = .ok (.putfield 15, 3) := by decide +kernel
theorem dX3_init_20 : decode cX3_init 20 = .ok (.aload_n 0, 1) := by decide +kernel
theorem dX3_init_21 : decode cX3_init 21 = .ok (.bipush 40, 2) := by decide +kernel
theorem dX3_init_23 : decode cX3_init 23 = .ok (.newarray .int, 2) := by decide +kernel
theorem dX3_init_25 : decode cX3_init 25 = .ok (.putfield 18, 3) := by decide +kernel
theorem dX3_init_28 : decode cX3_init 28 = .ok (.aload_n 0, 1) := by decide +kernel
theorem dX3_init_29 : decode cX3_init 29 = .ok (.bipush 12, 2) := by decide +kernel
theorem dX3_init_31 : decode cX3_init 31 = .ok (.newarray .long, 2) := by decide +kernel
theorem dX3_init_33 : decode cX3_init 33 = .ok (.putfield 21, 3) := by decide +kernel
theorem dX3_init_36 : decode cX3_init 36 = .ok (.aload_n 0, 1) := by decide +kernel
theorem dX3_init_37 : decode cX3_init 37 = .ok (.bipush 12, 2) := by decide +kernel
theorem dX3_init_39 : decode cX3_init 39 = .ok (.newarray .long, 2) := by decide +kernel
theorem dX3_init_41 : decode cX3_init 41 = .ok (.putfield 25, 3) := by decide +kernel
theorem dX3_init_44 : decode cX3_init 44 = .ok (.aload_n 0, 1) := by decide +kernel
theorem dX3_init_45 : decode cX3_init 45 = .ok (.aload_n 1, 1) := by decide +kernel
theorem dX3_init_46 : decode cX3_init 46 = .ok (.putfield 28, 3) := by decide +kernel
theorem dX3_init_49 : decode cX3_init 49 = .ok (.return_, 1) := by decide +kernel
theorem dX3_makeSure_0 : decode cX3_makeSure 0 = .ok (.aload_n 0, 1) := by decide +kernel
theorem dX3_makeSure_1 : decode cX3_makeSure 1 = .ok (.getfield 9, 3) := by decide +kernel
theorem dX3_makeSure_4 : decode cX3_makeSure 4 = .ok (.iconst 1, 1) := by decide +kernel
theorem dX3_makeSure_5 : decode cX3_makeSure 5 = .ok (.invokestatic 32, 3) := by decide +kernel
theorem dX3_makeSure_8 : decode cX3_makeSure 8 = .ok (.aload_n 0, 1) := by decide +kernel
theorem dX3_makeSure_9 : decode cX3_makeSure 9 = .ok (.getfield 15, 3) := by decide +kernel
theorem dX3_makeSure_12 : decode cX3_makeSure 12 = .ok (.bipush (-9), 2) := by decide +kernel
theorem dX3_makeSure_14 : decode cX3_makeSure 14 = .ok (.invokestatic 32, 3) := by decide +kernel
theorem dX3_makeSure_17 : decode cX3_makeSure 17 = .ok (.aload_n 0, 1) := by decide +kernel
theorem dX3_makeSure_18 : decode cX3_makeSure 18 = .ok (.invokevirtual 38, 3) := by decide +kernel
theorem dX3_makeSure_21 : decode cX3_makeSure 21 = .ok (.return_, 1) := by decide +kernel
theorem dX3_become_0 : decode cX3_become 0 = .ok (.aload_n 0, 1) := by decide +kernel
theorem dX3_become_1 : decode cX3_become 1 = .ok (.getfield 9, 3) := by decide +kernel
theorem dX3_become_4 : decode cX3_become 4 = .ok (.iload_n 1, 1) := by decide +kernel
theorem dX3_become_5 : decode cX3_become 5 = .ok (.iaload, 1) := by decide +kernel
theorem dX3_become_6 : decode cX3_become 6 = .ok (.istore 4, 2) := by decide +kernel
theorem dX3_become_8 : decode cX3_become 8 = .ok (.aload_n 0, 1) := by decide +kernel
theorem dX3_become_9 : decode cX3_become 9 = .ok (.getfield 9, 3) := by decide +kernel
theorem dX3_become_12 : decode cX3_become 12 = .ok (.iload_n 1, 1) := by decide +kernel
theorem dX3_become_13 : decode cX3_become 13 = .ok (.iload_n 2, 1) := by decide +kernel
theorem dX3_become_14 : decode cX3_become 14 = .ok (.iastore, 1) := by decide +kernel
theorem dX3_become_15 : decode cX3_become 15 = .ok (.aload_n 0, 1) := by decide +kernel
theorem dX3_become_16 : decode cX3_become 16 = .ok (.getfield 15, 3) := by decide +kernel
theorem dX3_become_19 : decode cX3_become 19 = .ok (.iload_n 1, 1) := by decide +kernel
theorem dX3_become_20 : decode cX3_become 20 = .ok (.iload_n 3, 1) := by decide +kernel
theorem dX3_become_21 : decode cX3_become 21 = .ok (.iastore, 1) := by decide +kernel
theorem dX3_become_22 : decode cX3_become 22 = .ok (.aload_n 0, 1) := by decide +kernel
theorem dX3_become_23 : decode cX3_become 23 = .ok (.invokevirtual 38, 3) := by decide +kernel
theorem dX3_become_26 : decode cX3_become 26 = .ok (.iload 4, 2) := by decide +kernel
theorem dX3_become_28 : decode cX3_become 28 = .ok (.ireturn, 1) := by decide +kernel
theorem dX3_isElder_0 : decode cX3_isElder 0 = .ok (.iconst 0, 1) := by decide +kernel
theorem dX3_isElder_1 : decode cX3_isElder 1 = .ok (.istore_n 2, 1) := by decide +kernel
theorem dX3_isElder_2 : decode cX3_isElder 2 = .ok (.iload_n 2, 1) := by decide +kernel
theorem dX3_isElder_3 : decode cX3_isElder 3 = .ok (.aload_n 0, 1) := by decide +kernel
theorem dX3_isElder_4 : decode cX3_isElder 4 = .ok (.getfield 28, 3) := by decide +kernel
theorem dX3_isElder_7 : decode cX3_isElder 7 = .ok (.getfield 41, 3) := by decide +kernel
theorem dX3_isElder_10 : decode cX3_isElder 10 = .ok (.if_icmp .ge 21, 3) := by decide +kernel
theorem dX3_isElder_13 : decode cX3_isElder 13 = .ok (.aload_n 0, 1) := by decide +kernel
theorem dX3_isElder_14 : decode cX3_isElder 14 = .ok (.getfield 15, 3) := by decide +kernel
theorem dX3_isElder_17 : decode cX3_isElder 17 = .ok (.iload_n 2, 1) := by decide +kernel
theorem dX3_isElder_18 : decode cX3_isElder 18 = .ok (.iaload, 1) := by decide +kernel
theorem dX3_isElder_19 : decode cX3_isElder 19 = .ok (.iload_n 1, 1) := by decide +kernel
theorem dX3_isElder_20 : decode cX3_isElder 20 = .ok (.if_icmp .ne 5, 3) := by decide +kernel
theorem dX3_isElder_23 : decode cX3_isElder 23 = .ok (.iconst 1, 1) := by decide +kernel
theorem dX3_isElder_24 : decode cX3_isElder 24 = .ok (.ireturn, 1) := by decide +kernel
theorem dX3_isElder_25 : decode cX3_isElder 25 = .ok (.iinc 2 1, 3) := by decide +kernel
theorem dX3_isElder_28 : decode cX3_isElder 28 = .ok (.goto (-26), 3) := by decide +kernel
theorem dX3_isElder_31 : decode cX3_isElder 31 = .ok (.iconst 0, 1) := by decide +kernel
theorem dX3_isElder_32 : decode cX3_isElder 32 = .ok (.ireturn, 1) := by decide +kernel
theorem dX3_younger_0 : decode cX3_younger 0 = .ok (.iconst 0, 1) := by decide +kernel
theorem dX3_younger_1 : decode cX3_younger 1 = .ok (.istore_n 1, 1) := by decide +kernel
theorem dX3_younger_2 : decode cX3_younger 2 = .ok (.iconst 0, 1) := by decide +kernel
theorem dX3_younger_3 : decode cX3_younger 3 = .ok (.istore_n 2, 1) := by decide +kernel
theorem dX3_younger_4 : decode cX3_younger 4 = .ok (.iload_n 2, 1) := by decide +kernel
theorem dX3_younger_5 : decode cX3_younger 5 = .ok (.aload_n 0, 1) := by decide +kernel
theorem dX3_younger_6 : decode cX3_younger 6 = .ok (.getfield 28, 3) := by decide +kernel
theorem dX3_younger_9 : decode cX3_younger 9 = .ok (.getfield 41, 3) := by decide +kernel
theorem dX3_younger_12 : decode cX3_younger 12 = .ok (.if_icmp .ge 23, 3) := by decide +kernel
theorem dX3_younger_15 : decode cX3_younger 15 = .ok (.aload_n 0, 1) := by decide +kernel
theorem dX3_younger_16 : decode cX3_younger 16 = .ok (.getfield 15, 3) := by decide +kernel
theorem dX3_younger_19 : decode cX3_younger 19 = .ok (.iload_n 2, 1) := by decide +kernel
theorem dX3_younger_20 : decode cX3_younger 20 = .ok (.iaload, 1) := by decide +kernel
theorem dX3_younger_21 : decode cX3_younger 21 = .ok (.bipush (-9), 2) := by decide +kernel
theorem dX3_younger_23 : decode cX3_younger 23 = .ok (.if_icmp .eq 6, 3) := by decide +kernel
theorem dX3_younger_26 : decode cX3_younger 26 = .ok (.iinc 1 1, 3) := by decide +kernel
theorem dX3_younger_29 : decode cX3_younger 29 = .ok (.iinc 2 1, 3) := by decide +kernel
theorem dX3_younger_32 : decode cX3_younger 32 = .ok (.goto (-28), 3) := by decide +kernel
theorem dX3_younger_35 : decode cX3_younger 35 = .ok (.iload_n 1, 1) := by decide +kernel
theorem dX3_younger_36 : decode cX3_younger 36 = .ok (.ireturn, 1) := by decide +kernel
theorem dX3_openBy_0 : decode cX3_openBy 0 = .ok (.aload_n 0, 1) := by decide +kernel
theorem dX3_openBy_1 : decode cX3_openBy 1 = .ok (.getfield 47, 3) := by decide +kernel
theorem dX3_openBy_4 : decode cX3_openBy 4 = .ok (.lstore_n 2, 1) := by decide +kernel
theorem dX3_openBy_5 : decode cX3_openBy 5 = .ok (.iconst 0, 1) := by decide +kernel
theorem dX3_openBy_6 : decode cX3_openBy 6 = .ok (.istore 4, 2) := by decide +kernel
theorem dX3_openBy_8 : decode cX3_openBy 8 = .ok (.iload 4, 2) := by decide +kernel
theorem dX3_openBy_10 : decode cX3_openBy 10 = .ok (.aload_n 0, 1) := by decide +kernel
theorem dX3_openBy_11 : decode cX3_openBy 11 = .ok (.getfield 51, 3) := by decide +kernel
theorem dX3_openBy_14 : decode cX3_openBy 14 = .ok (.if_icmp .ge 38, 3) := by decide +kernel
theorem dX3_openBy_17 : decode cX3_openBy 17 = .ok (.lload_n 2, 1) := by decide +kernel
theorem dX3_openBy_18 : decode cX3_openBy 18 = .ok (.iload_n 1, 1) := by decide +kernel
theorem dX3_openBy_19 : decode cX3_openBy 19 = .ok (.iload 4, 2) := by decide +kernel
theorem dX3_openBy_21 : decode cX3_openBy 21 = .ok (.invokestatic 54, 3) := by decide +kernel
theorem dX3_openBy_24 : decode cX3_openBy 24 = .ok (.ifCond .eq 13, 3) := by decide +kernel
theorem dX3_openBy_27 : decode cX3_openBy 27 = .ok (.aload_n 0, 1) := by decide +kernel
theorem dX3_openBy_28 : decode cX3_openBy 28 = .ok (.getfield 21, 3) := by decide +kernel
theorem dX3_openBy_31 : decode cX3_openBy 31 = .ok (.iload 4, 2) := by decide +kernel
theorem dX3_openBy_33 : decode cX3_openBy 33 = .ok (.laload, 1) := by decide +kernel
theorem dX3_openBy_34 : decode cX3_openBy 34 = .ok (.goto 10, 3) := by decide +kernel
theorem dX3_openBy_37 : decode cX3_openBy 37 = .ok (.aload_n 0, 1) := by decide +kernel
theorem dX3_openBy_38 : decode cX3_openBy 38 = .ok (.getfield 25, 3) := by decide +kernel
theorem dX3_openBy_41 : decode cX3_openBy 41 = .ok (.iload 4, 2) := by decide +kernel
theorem dX3_openBy_43 : decode cX3_openBy 43 = .ok (.laload, 1) := by decide +kernel
theorem dX3_openBy_44 : decode cX3_openBy 44 = .ok (.lor, 1) := by decide +kernel
theorem dX3_openBy_45 : decode cX3_openBy 45 = .ok (.lstore_n 2, 1) := by decide +kernel
theorem dX3_openBy_46 : decode cX3_openBy 46 = .ok (.iinc 4 1, 3) := by decide +kernel
theorem dX3_openBy_49 : decode cX3_openBy 49 = .ok (.goto (-41), 3) := by decide +kernel
theorem dX3_openBy_52 : decode cX3_openBy 52 = .ok (.lload_n 2, 1) := by decide +kernel
theorem dX3_openBy_53 : decode cX3_openBy 53 = .ok (.lreturn, 1) := by decide +kernel
theorem dX3_settle_0 : decode cX3_settle 0 = .ok (.aload_n 0, 1) := by decide +kernel
theorem dX3_settle_1 : decode cX3_settle 1 = .ok (.invokevirtual 58, 3) := by decide +kernel
theorem dX3_settle_4 : decode cX3_settle 4 = .ok (.aload_n 0, 1) := by decide +kernel
theorem dX3_settle_5 : decode cX3_settle 5 = .ok (.lconst 0, 1) := by decide +kernel
theorem dX3_settle_6 : decode cX3_settle 6 = .ok (.putfield 47, 3) := by decide +kernel
theorem dX3_settle_9 : decode cX3_settle 9 = .ok (.aload_n 0, 1) := by decide +kernel
theorem dX3_settle_10 : decode cX3_settle 10 = .ok (.getfield 21, 3) := by decide +kernel
theorem dX3_settle_13 : decode cX3_settle 13 = .ok (.lconst 0, 1) := by decide +kernel
theorem dX3_settle_14 : decode cX3_settle 14 = .ok (.invokestatic 61, 3) := by decide +kernel
theorem dX3_settle_17 : decode cX3_settle 17 = .ok (.aload_n 0, 1) := by decide +kernel
theorem dX3_settle_18 : decode cX3_settle 18 = .ok (.getfield 25, 3) := by decide +kernel
theorem dX3_settle_21 : decode cX3_settle 21 = .ok (.lconst 0, 1) := by decide +kernel
theorem dX3_settle_22 : decode cX3_settle 22 = .ok (.invokestatic 61, 3) := by decide +kernel
theorem dX3_settle_25 : decode cX3_settle 25 = .ok (.iconst 0, 1) := by decide +kernel
theorem dX3_settle_26 : decode cX3_settle 26 = .ok (.istore_n 1, 1) := by decide +kernel
theorem dX3_settle_27 : decode cX3_settle 27 = .ok (.iload_n 1, 1) := by decide +kernel
theorem dX3_settle_28 : decode cX3_settle 28 = .ok (.aload_n 0, 1) := by decide +kernel
theorem dX3_settle_29 : decode cX3_settle 29 = .ok (.getfield 28, 3) := by decide +kernel
theorem dX3_settle_32 : decode cX3_settle 32 = .ok (.getfield 41, 3) := by decide +kernel
theorem dX3_settle_35 : decode cX3_settle 35 = .ok (.if_icmp .ge 25, 3) := by decide +kernel
theorem dX3_settle_38 : decode cX3_settle 38 = .ok (.aload_n 0, 1) := by decide +kernel
theorem dX3_settle_39 : decode cX3_settle 39 = .ok (.iload_n 1, 1) := by decide +kernel
theorem dX3_settle_40 : decode cX3_settle 40 = .ok (.lconst 1, 1) := by decide +kernel
theorem dX3_settle_41 : decode cX3_settle 41 = .ok (.aload_n 0, 1) := by decide +kernel
theorem dX3_settle_42 : decode cX3_settle 42 = .ok (.getfield 28, 3) := by decide +kernel
theorem dX3_settle_45 : decode cX3_settle 45 = .ok (.getfield 64, 3) := by decide +kernel
theorem dX3_settle_48 : decode cX3_settle 48 = .ok (.iload_n 1, 1) := by decide +kernel
theorem dX3_settle_49 : decode cX3_settle 49 = .ok (.iaload, 1) := by decide +kernel
theorem dX3_settle_50 : decode cX3_settle 50 = .ok (.lshl, 1) := by decide +kernel
theorem dX3_settle_51 : decode cX3_settle 51 = .ok (.invokevirtual 67, 3) := by decide +kernel
theorem dX3_settle_54 : decode cX3_settle 54 = .ok (.iinc 1 1, 3) := by decide +kernel
theorem dX3_settle_57 : decode cX3_settle 57 = .ok (.goto (-30), 3) := by decide +kernel
theorem dX3_settle_60 : decode cX3_settle 60 = .ok (.return_, 1) := by decide +kernel
theorem dX3_numberChances_0 : decode cX3_numberChances 0 = .ok (.aload_n 0, 1) := by decide +kernel
theorem dX3_numberChances_1 : decode cX3_numberChances 1 = .ok (.iconst 0, 1) := by decide +kernel
theorem dX3_numberChances_2 : decode cX3_numberChances 2 = .ok (.putfield 51, 3) := by decide +kernel
theorem dX3_numberChances_5 : decode cX3_numberChances 5 = .ok (.iconst 0, 1) := by decide +kernel
theorem dX3_numberChances_6 : decode cX3_numberChances 6 = .ok (.istore_n 1, 1) := by decide +kernel
theorem dX3_numberChances_7 : decode cX3_numberChances 7 = .ok (.iload_n 1, 1) := by decide +kernel
theorem dX3_numberChances_8 : decode cX3_numberChances 8 = .ok (.aload_n 0, 1) := by decide +kernel
theorem dX3_numberChances_9 : decode cX3_numberChances 9 = .ok (.getfield 28, 3) := by decide +kernel
theorem dX3_numberChances_12 : decode cX3_numberChances 12 = .ok (.getfield 41, 3) := by decide +kernel
theorem dX3_numberChances_15 : decode cX3_numberChances 15 = .ok (.if_icmp .ge 47, 3) := by decide +kernel
theorem dX3_numberChances_18 : decode cX3_numberChances 18 = .ok (.aload_n 0, 1) := by decide +kernel
theorem dX3_numberChances_19 : decode cX3_numberChances 19 = .ok (.getfield 18, 3) := by decide +kernel
theorem dX3_numberChances_22 : decode cX3_numberChances 22 = .ok (.iload_n 1, 1) := by decide +kernel
theorem dX3_numberChances_23 : decode cX3_numberChances 23 = .ok (.bipush (-9), 2) := by decide +kernel
theorem dX3_numberChances_25 : decode cX3_numberChances 25 = .ok (.iastore, 1) := by decide +kernel
theorem dX3_numberChances_26 : decode cX3_numberChances 26 = .ok (.aload_n 0, 1) := by decide +kernel
theorem dX3_numberChances_27 : decode cX3_numberChances 27 = .ok (.getfield 9, 3) := by decide +kernel
theorem dX3_numberChances_30 : decode cX3_numberChances 30 = .ok (.iload_n 1, 1) := by decide +kernel
theorem dX3_numberChances_31 : decode cX3_numberChances 31 = .ok (.iaload, 1) := by decide +kernel
theorem dX3_numberChances_32 : decode cX3_numberChances 32 = .ok (.iconst 2, 1) := by decide +kernel
theorem dX3_numberChances_33 : decode cX3_numberChances 33 = .ok (.if_icmp .ne 23, 3) := by decide +kernel
theorem dX3_numberChances_36 : decode cX3_numberChances 36 = .ok (.aload_n 0, 1) := by decide +kernel
theorem dX3_numberChances_37 : decode cX3_numberChances 37 = .ok (.getfield 18, 3) := by decide +kernel
theorem dX3_numberChances_40 : decode cX3_numberChances 40 = .ok (.iload_n 1, 1) := by decide +kernel
theorem dX3_numberChances_41 : decode cX3_numberChances 41 = .ok (.aload_n 0, 1) := by decide +kernel
theorem dX3_numberChances_42 : decode cX3_numberChances 42 = .ok (.getfield 51, 3) := by decide +kernel
theorem dX3_numberChances_45 : decode cX3_numberChances 45 = .ok (.iastore, 1) := by decide +kernel
theorem dX3_numberChances_46 : decode cX3_numberChances 46 = .ok (.aload_n 0, 1) := by decide +kernel
theorem dX3_numberChances_47 : decode cX3_numberChances 47 = .ok (.dup, 1) := by decide +kernel
theorem dX3_numberChances_48 : decode cX3_numberChances 48 = .ok (.getfield 51, 3) := by decide +kernel
theorem dX3_numberChances_51 : decode cX3_numberChances 51 = .ok (.iconst 1, 1) := by decide +kernel
theorem dX3_numberChances_52 : decode cX3_numberChances 52 = .ok (.iadd, 1) := by decide +kernel
theorem dX3_numberChances_53 : decode cX3_numberChances 53 = .ok (.putfield 51, 3) := by decide +kernel
theorem dX3_numberChances_56 : decode cX3_numberChances 56 = .ok (.iinc 1 1, 3) := by decide +kernel
theorem dX3_numberChances_59 : decode cX3_numberChances 59 = .ok (.goto (-52), 3) := by decide +kernel
theorem dX3_numberChances_62 : decode cX3_numberChances 62 = .ok (.return_, 1) := by decide +kernel
theorem dX3_settleOne_0 : decode cX3_settleOne 0 = .ok (.aload_n 0, 1) := by decide +kernel
theorem dX3_settleOne_1 : decode cX3_settleOne 1 = .ok (.getfield 9, 3) := by decide +kernel
theorem dX3_settleOne_4 : decode cX3_settleOne 4 = .ok (.iload_n 1, 1) := by decide +kernel
theorem dX3_settleOne_5 : decode cX3_settleOne 5 = .ok (.iaload, 1) := by decide +kernel
theorem dX3_settleOne_6 : decode cX3_settleOne 6 = .ok (.tableswitch 107 1 4 #[30, 43, 61, 84], 30) := by decide +kernel
theorem dX3_settleOne_36 : decode cX3_settleOne 36 = .ok (.aload_n 0, 1) := by decide +kernel
theorem dX3_settleOne_37 : decode cX3_settleOne 37 = .ok (.dup, 1) := by decide +kernel
theorem dX3_settleOne_38 : decode cX3_settleOne 38 = .ok (.getfield 47, 3) := by decide +kernel
theorem dX3_settleOne_41 : decode cX3_settleOne 41 = .ok (.lload_n 2, 1) := by decide +kernel
theorem dX3_settleOne_42 : decode cX3_settleOne 42 = .ok (.lor, 1) := by decide +kernel
theorem dX3_settleOne_43 : decode cX3_settleOne 43 = .ok (.putfield 47, 3) := by decide +kernel
theorem dX3_settleOne_46 : decode cX3_settleOne 46 = .ok (.goto 67, 3) := by decide +kernel
theorem dX3_settleOne_49 : decode cX3_settleOne 49 = .ok (.aload_n 0, 1) := by decide +kernel
theorem dX3_settleOne_50 : decode cX3_settleOne 50 = .ok (.getfield 21, 3) := by decide +kernel
theorem dX3_settleOne_53 : decode cX3_settleOne 53 = .ok (.aload_n 0, 1) := by decide +kernel
theorem dX3_settleOne_54 : decode cX3_settleOne 54 = .ok (.getfield 18, 3) := by decide +kernel
theorem dX3_settleOne_57 : decode cX3_settleOne 57 = .ok (.iload_n 1, 1) := by decide +kernel
theorem dX3_settleOne_58 : decode cX3_settleOne 58 = .ok (.iaload, 1) := by decide +kernel
theorem dX3_settleOne_59 : decode cX3_settleOne 59 = .ok (.dup2, 1) := by decide +kernel
theorem dX3_settleOne_60 : decode cX3_settleOne 60 = .ok (.laload, 1) := by decide +kernel
theorem dX3_settleOne_61 : decode cX3_settleOne 61 = .ok (.lload_n 2, 1) := by decide +kernel
theorem dX3_settleOne_62 : decode cX3_settleOne 62 = .ok (.lor, 1) := by decide +kernel
theorem dX3_settleOne_63 : decode cX3_settleOne 63 = .ok (.lastore, 1) := by decide +kernel
theorem dX3_settleOne_64 : decode cX3_settleOne 64 = .ok (.goto 49, 3) := by decide +kernel
theorem dX3_settleOne_67 : decode cX3_settleOne 67 = .ok (.aload_n 0, 1) := by decide +kernel
theorem dX3_settleOne_68 : decode cX3_settleOne 68 = .ok (.getfield 21, 3) := by decide +kernel
theorem dX3_settleOne_71 : decode cX3_settleOne 71 = .ok (.aload_n 0, 1) := by decide +kernel
theorem dX3_settleOne_72 : decode cX3_settleOne 72 = .ok (.getfield 18, 3) := by decide +kernel
theorem dX3_settleOne_75 : decode cX3_settleOne 75 = .ok (.aload_n 0, 1) := by decide +kernel
theorem dX3_settleOne_76 : decode cX3_settleOne 76 = .ok (.getfield 15, 3) := by decide +kernel
theorem dX3_settleOne_79 : decode cX3_settleOne 79 = .ok (.iload_n 1, 1) := by decide +kernel
theorem dX3_settleOne_80 : decode cX3_settleOne 80 = .ok (.iaload, 1) := by decide +kernel
theorem dX3_settleOne_81 : decode cX3_settleOne 81 = .ok (.iaload, 1) := by decide +kernel
theorem dX3_settleOne_82 : decode cX3_settleOne 82 = .ok (.dup2, 1) := by decide +kernel
theorem dX3_settleOne_83 : decode cX3_settleOne 83 = .ok (.laload, 1) := by decide +kernel
theorem dX3_settleOne_84 : decode cX3_settleOne 84 = .ok (.lload_n 2, 1) := by decide +kernel
theorem dX3_settleOne_85 : decode cX3_settleOne 85 = .ok (.lor, 1) := by decide +kernel
theorem dX3_settleOne_86 : decode cX3_settleOne 86 = .ok (.lastore, 1) := by decide +kernel
theorem dX3_settleOne_87 : decode cX3_settleOne 87 = .ok (.goto 26, 3) := by decide +kernel
theorem dX3_settleOne_90 : decode cX3_settleOne 90 = .ok (.aload_n 0, 1) := by decide +kernel
theorem dX3_settleOne_91 : decode cX3_settleOne 91 = .ok (.getfield 25, 3) := by decide +kernel
theorem dX3_settleOne_94 : decode cX3_settleOne 94 = .ok (.aload_n 0, 1) := by decide +kernel
theorem dX3_settleOne_95 : decode cX3_settleOne 95 = .ok (.getfield 18, 3) := by decide +kernel
theorem dX3_settleOne_98 : decode cX3_settleOne 98 = .ok (.aload_n 0, 1) := by decide +kernel
theorem dX3_settleOne_99 : decode cX3_settleOne 99 = .ok (.getfield 15, 3) := by decide +kernel
theorem dX3_settleOne_102 : decode cX3_settleOne 102 = .ok (.iload_n 1, 1) := by decide +kernel
theorem dX3_settleOne_103 : decode cX3_settleOne 103 = .ok (.iaload, 1) := by decide +kernel
theorem dX3_settleOne_104 : decode cX3_settleOne 104 = .ok (.iaload, 1) := by decide +kernel
theorem dX3_settleOne_105 : decode cX3_settleOne 105 = .ok (.dup2, 1) := by decide +kernel
theorem dX3_settleOne_106 : decode cX3_settleOne 106 = .ok (.laload, 1) := by decide +kernel
theorem dX3_settleOne_107 : decode cX3_settleOne 107 = .ok (.lload_n 2, 1) := by decide +kernel
theorem dX3_settleOne_108 : decode cX3_settleOne 108 = .ok (.lor, 1) := by decide +kernel
theorem dX3_settleOne_109 : decode cX3_settleOne 109 = .ok (.lastore, 1) := by decide +kernel
theorem dX3_settleOne_110 : decode cX3_settleOne 110 = .ok (.goto 3, 3) := by decide +kernel
theorem dX3_settleOne_113 : decode cX3_settleOne 113 = .ok (.return_, 1) := by decide +kernel
theorem dJ6_numberOfTrailingZeros_0f7a4_0 : decode cJ6_numberOfTrailingZeros_0f7a4 0 = .ok (.iload_n 0, 1) := by decide +kernel
theorem dJ6_numberOfTrailingZeros_0f7a4_1 : decode cJ6_numberOfTrailingZeros_0f7a4 1 = .ok (.iconst (-1), 1) := by decide +kernel
theorem dJ6_numberOfTrailingZeros_0f7a4_2 : decode cJ6_numberOfTrailingZeros_0f7a4 2 = .ok (.ixor, 1) := by decide +kernel
theorem dJ6_numberOfTrailingZeros_0f7a4_3 : decode cJ6_numberOfTrailingZeros_0f7a4 3 = .ok (.iload_n 0, 1) := by decide +kernel
theorem dJ6_numberOfTrailingZeros_0f7a4_4 : decode cJ6_numberOfTrailingZeros_0f7a4 4 = .ok (.iconst 1, 1) := by decide +kernel
theorem dJ6_numberOfTrailingZeros_0f7a4_5 : decode cJ6_numberOfTrailingZeros_0f7a4 5 = .ok (.isub, 1) := by decide +kernel
theorem dJ6_numberOfTrailingZeros_0f7a4_6 : decode cJ6_numberOfTrailingZeros_0f7a4 6 = .ok (.iand, 1) := by decide +kernel
theorem dJ6_numberOfTrailingZeros_0f7a4_7 : decode cJ6_numberOfTrailingZeros_0f7a4 7 = .ok (.istore_n 0, 1) := by decide +kernel
theorem dJ6_numberOfTrailingZeros_0f7a4_8 : decode cJ6_numberOfTrailingZeros_0f7a4 8 = .ok (.iload_n 0, 1) := by decide +kernel
theorem dJ6_numberOfTrailingZeros_0f7a4_9 : decode cJ6_numberOfTrailingZeros_0f7a4 9 = .ok (.ifCond .gt 8, 3) := by decide +kernel
theorem dJ6_numberOfTrailingZeros_0f7a4_12 : decode cJ6_numberOfTrailingZeros_0f7a4 12 = .ok (.iload_n 0, 1) := by decide +kernel
theorem dJ6_numberOfTrailingZeros_0f7a4_13 : decode cJ6_numberOfTrailingZeros_0f7a4 13 = .ok (.bipush 32, 2) := by decide +kernel
theorem dJ6_numberOfTrailingZeros_0f7a4_15 : decode cJ6_numberOfTrailingZeros_0f7a4 15 = .ok (.iand, 1) := by decide +kernel
theorem dJ6_numberOfTrailingZeros_0f7a4_16 : decode cJ6_numberOfTrailingZeros_0f7a4 16 = .ok (.ireturn, 1) := by decide +kernel
theorem dJ6_numberOfTrailingZeros_0f7a4_17 : decode cJ6_numberOfTrailingZeros_0f7a4 17 = .ok (.iconst 1, 1) := by decide +kernel
theorem dJ6_numberOfTrailingZeros_0f7a4_18 : decode cJ6_numberOfTrailingZeros_0f7a4 18 = .ok (.istore_n 1, 1) := by decide +kernel
theorem dJ6_numberOfTrailingZeros_0f7a4_19 : decode cJ6_numberOfTrailingZeros_0f7a4 19 = .ok (.iload_n 0, 1) := by decide +kernel
theorem dJ6_numberOfTrailingZeros_0f7a4_20 : decode cJ6_numberOfTrailingZeros_0f7a4 20 = .ok (.ldc_w 264, 3) := by decide +kernel
theorem dJ6_numberOfTrailingZeros_0f7a4_23 : decode cJ6_numberOfTrailingZeros_0f7a4 23 = .ok (.if_icmp .le 11, 3) := by decide +kernel
theorem dJ6_numberOfTrailingZeros_0f7a4_26 : decode cJ6_numberOfTrailingZeros_0f7a4 26 = .ok (.iinc 1 16, 3) := by decide +kernel
theorem dJ6_numberOfTrailingZeros_0f7a4_29 : decode cJ6_numberOfTrailingZeros_0f7a4 29 = .ok (.iload_n 0, 1) := by decide +kernel
theorem dJ6_numberOfTrailingZeros_0f7a4_30 : decode cJ6_numberOfTrailingZeros_0f7a4 30 = .ok (.bipush 16, 2) := by decide +kernel
theorem dJ6_numberOfTrailingZeros_0f7a4_32 : decode cJ6_numberOfTrailingZeros_0f7a4 32 = .ok (.iushr, 1) := by decide +kernel
theorem dJ6_numberOfTrailingZeros_0f7a4_33 : decode cJ6_numberOfTrailingZeros_0f7a4 33 = .ok (.istore_n 0, 1) := by decide +kernel
theorem dJ6_numberOfTrailingZeros_0f7a4_34 : decode cJ6_numberOfTrailingZeros_0f7a4 34 = .ok (.iload_n 0, 1) := by decide +kernel
theorem dJ6_numberOfTrailingZeros_0f7a4_35 : decode cJ6_numberOfTrailingZeros_0f7a4 35 = .ok (.sipush 256, 3) := by decide +kernel
theorem dJ6_numberOfTrailingZeros_0f7a4_38 : decode cJ6_numberOfTrailingZeros_0f7a4 38 = .ok (.if_icmp .le 11, 3) := by decide +kernel
theorem dJ6_numberOfTrailingZeros_0f7a4_41 : decode cJ6_numberOfTrailingZeros_0f7a4 41 = .ok (.iinc 1 8, 3) := by decide +kernel
theorem dJ6_numberOfTrailingZeros_0f7a4_44 : decode cJ6_numberOfTrailingZeros_0f7a4 44 = .ok (.iload_n 0, 1) := by decide +kernel
theorem dJ6_numberOfTrailingZeros_0f7a4_45 : decode cJ6_numberOfTrailingZeros_0f7a4 45 = .ok (.bipush 8, 2) := by decide +kernel
theorem dJ6_numberOfTrailingZeros_0f7a4_47 : decode cJ6_numberOfTrailingZeros_0f7a4 47 = .ok (.iushr, 1) := by decide +kernel
theorem dJ6_numberOfTrailingZeros_0f7a4_48 : decode cJ6_numberOfTrailingZeros_0f7a4 48 = .ok (.istore_n 0, 1) := by decide +kernel
theorem dJ6_numberOfTrailingZeros_0f7a4_49 : decode cJ6_numberOfTrailingZeros_0f7a4 49 = .ok (.iload_n 0, 1) := by decide +kernel
theorem dJ6_numberOfTrailingZeros_0f7a4_50 : decode cJ6_numberOfTrailingZeros_0f7a4 50 = .ok (.bipush 16, 2) := by decide +kernel
theorem dJ6_numberOfTrailingZeros_0f7a4_52 : decode cJ6_numberOfTrailingZeros_0f7a4 52 = .ok (.if_icmp .le 10, 3) := by decide +kernel
theorem dJ6_numberOfTrailingZeros_0f7a4_55 : decode cJ6_numberOfTrailingZeros_0f7a4 55 = .ok (.iinc 1 4, 3) := by decide +kernel
theorem dJ6_numberOfTrailingZeros_0f7a4_58 : decode cJ6_numberOfTrailingZeros_0f7a4 58 = .ok (.iload_n 0, 1) := by decide +kernel
theorem dJ6_numberOfTrailingZeros_0f7a4_59 : decode cJ6_numberOfTrailingZeros_0f7a4 59 = .ok (.iconst 4, 1) := by decide +kernel
theorem dJ6_numberOfTrailingZeros_0f7a4_60 : decode cJ6_numberOfTrailingZeros_0f7a4 60 = .ok (.iushr, 1) := by decide +kernel
theorem dJ6_numberOfTrailingZeros_0f7a4_61 : decode cJ6_numberOfTrailingZeros_0f7a4 61 = .ok (.istore_n 0, 1) := by decide +kernel
theorem dJ6_numberOfTrailingZeros_0f7a4_62 : decode cJ6_numberOfTrailingZeros_0f7a4 62 = .ok (.iload_n 0, 1) := by decide +kernel
theorem dJ6_numberOfTrailingZeros_0f7a4_63 : decode cJ6_numberOfTrailingZeros_0f7a4 63 = .ok (.iconst 4, 1) := by decide +kernel
theorem dJ6_numberOfTrailingZeros_0f7a4_64 : decode cJ6_numberOfTrailingZeros_0f7a4 64 = .ok (.if_icmp .le 10, 3) := by decide +kernel
theorem dJ6_numberOfTrailingZeros_0f7a4_67 : decode cJ6_numberOfTrailingZeros_0f7a4 67 = .ok (.iinc 1 2, 3) := by decide +kernel
theorem dJ6_numberOfTrailingZeros_0f7a4_70 : decode cJ6_numberOfTrailingZeros_0f7a4 70 = .ok (.iload_n 0, 1) := by decide +kernel
theorem dJ6_numberOfTrailingZeros_0f7a4_71 : decode cJ6_numberOfTrailingZeros_0f7a4 71 = .ok (.iconst 2, 1) := by decide +kernel
theorem dJ6_numberOfTrailingZeros_0f7a4_72 : decode cJ6_numberOfTrailingZeros_0f7a4 72 = .ok (.iushr, 1) := by decide +kernel
theorem dJ6_numberOfTrailingZeros_0f7a4_73 : decode cJ6_numberOfTrailingZeros_0f7a4 73 = .ok (.istore_n 0, 1) := by decide +kernel
theorem dJ6_numberOfTrailingZeros_0f7a4_74 : decode cJ6_numberOfTrailingZeros_0f7a4 74 = .ok (.iload_n 1, 1) := by decide +kernel
theorem dJ6_numberOfTrailingZeros_0f7a4_75 : decode cJ6_numberOfTrailingZeros_0f7a4 75 = .ok (.iload_n 0, 1) := by decide +kernel
theorem dJ6_numberOfTrailingZeros_0f7a4_76 : decode cJ6_numberOfTrailingZeros_0f7a4 76 = .ok (.iconst 1, 1) := by decide +kernel
theorem dJ6_numberOfTrailingZeros_0f7a4_77 : decode cJ6_numberOfTrailingZeros_0f7a4 77 = .ok (.iushr, 1) := by decide +kernel
theorem dJ6_numberOfTrailingZeros_0f7a4_78 : decode cJ6_numberOfTrailingZeros_0f7a4 78 = .ok (.iadd, 1) := by decide +kernel
theorem dJ6_numberOfTrailingZeros_0f7a4_79 : decode cJ6_numberOfTrailingZeros_0f7a4 79 = .ok (.ireturn, 1) := by decide +kernel
theorem dJ6_bitCount_0f7a4_0 : decode cJ6_bitCount_0f7a4 0 = .ok (.iload_n 0, 1) := by decide +kernel
theorem dJ6_bitCount_0f7a4_1 : decode cJ6_bitCount_0f7a4 1 = .ok (.iload_n 0, 1) := by decide +kernel
theorem dJ6_bitCount_0f7a4_2 : decode cJ6_bitCount_0f7a4 2 = .ok (.iconst 1, 1) := by decide +kernel
theorem dJ6_bitCount_0f7a4_3 : decode cJ6_bitCount_0f7a4 3 = .ok (.iushr, 1) := by decide +kernel
theorem dJ6_bitCount_0f7a4_4 : decode cJ6_bitCount_0f7a4 4 = .ok (.ldc_w 265, 3) := by decide +kernel
theorem dJ6_bitCount_0f7a4_7 : decode cJ6_bitCount_0f7a4 7 = .ok (.iand, 1) := by decide +kernel
theorem dJ6_bitCount_0f7a4_8 : decode cJ6_bitCount_0f7a4 8 = .ok (.isub, 1) := by decide +kernel
theorem dJ6_bitCount_0f7a4_9 : decode cJ6_bitCount_0f7a4 9 = .ok (.istore_n 0, 1) := by decide +kernel
theorem dJ6_bitCount_0f7a4_10 : decode cJ6_bitCount_0f7a4 10 = .ok (.iload_n 0, 1) := by decide +kernel
theorem dJ6_bitCount_0f7a4_11 : decode cJ6_bitCount_0f7a4 11 = .ok (.ldc_w 266, 3) := by decide +kernel
theorem dJ6_bitCount_0f7a4_14 : decode cJ6_bitCount_0f7a4 14 = .ok (.iand, 1) := by decide +kernel
theorem dJ6_bitCount_0f7a4_15 : decode cJ6_bitCount_0f7a4 15 = .ok (.iload_n 0, 1) := by decide +kernel
theorem dJ6_bitCount_0f7a4_16 : decode cJ6_bitCount_0f7a4 16 = .ok (.iconst 2, 1) := by decide +kernel
theorem dJ6_bitCount_0f7a4_17 : decode cJ6_bitCount_0f7a4 17 = .ok (.iushr, 1) := by decide +kernel
theorem dJ6_bitCount_0f7a4_18 : decode cJ6_bitCount_0f7a4 18 = .ok (.ldc_w 266, 3) := by decide +kernel
theorem dJ6_bitCount_0f7a4_21 : decode cJ6_bitCount_0f7a4 21 = .ok (.iand, 1) := by decide +kernel
theorem dJ6_bitCount_0f7a4_22 : decode cJ6_bitCount_0f7a4 22 = .ok (.iadd, 1) := by decide +kernel
theorem dJ6_bitCount_0f7a4_23 : decode cJ6_bitCount_0f7a4 23 = .ok (.istore_n 0, 1) := by decide +kernel
theorem dJ6_bitCount_0f7a4_24 : decode cJ6_bitCount_0f7a4 24 = .ok (.iload_n 0, 1) := by decide +kernel
theorem dJ6_bitCount_0f7a4_25 : decode cJ6_bitCount_0f7a4 25 = .ok (.iload_n 0, 1) := by decide +kernel
theorem dJ6_bitCount_0f7a4_26 : decode cJ6_bitCount_0f7a4 26 = .ok (.iconst 4, 1) := by decide +kernel
theorem dJ6_bitCount_0f7a4_27 : decode cJ6_bitCount_0f7a4 27 = .ok (.iushr, 1) := by decide +kernel
theorem dJ6_bitCount_0f7a4_28 : decode cJ6_bitCount_0f7a4 28 = .ok (.iadd, 1) := by decide +kernel
theorem dJ6_bitCount_0f7a4_29 : decode cJ6_bitCount_0f7a4 29 = .ok (.ldc_w 267, 3) := by decide +kernel
theorem dJ6_bitCount_0f7a4_32 : decode cJ6_bitCount_0f7a4 32 = .ok (.iand, 1) := by decide +kernel
theorem dJ6_bitCount_0f7a4_33 : decode cJ6_bitCount_0f7a4 33 = .ok (.istore_n 0, 1) := by decide +kernel
theorem dJ6_bitCount_0f7a4_34 : decode cJ6_bitCount_0f7a4 34 = .ok (.iload_n 0, 1) := by decide +kernel
theorem dJ6_bitCount_0f7a4_35 : decode cJ6_bitCount_0f7a4 35 = .ok (.iload_n 0, 1) := by decide +kernel
theorem dJ6_bitCount_0f7a4_36 : decode cJ6_bitCount_0f7a4 36 = .ok (.bipush 8, 2) := by decide +kernel
theorem dJ6_bitCount_0f7a4_38 : decode cJ6_bitCount_0f7a4 38 = .ok (.iushr, 1) := by decide +kernel
theorem dJ6_bitCount_0f7a4_39 : decode cJ6_bitCount_0f7a4 39 = .ok (.iadd, 1) := by decide +kernel
theorem dJ6_bitCount_0f7a4_40 : decode cJ6_bitCount_0f7a4 40 = .ok (.istore_n 0, 1) := by decide +kernel
theorem dJ6_bitCount_0f7a4_41 : decode cJ6_bitCount_0f7a4 41 = .ok (.iload_n 0, 1) := by decide +kernel
theorem dJ6_bitCount_0f7a4_42 : decode cJ6_bitCount_0f7a4 42 = .ok (.iload_n 0, 1) := by decide +kernel
theorem dJ6_bitCount_0f7a4_43 : decode cJ6_bitCount_0f7a4 43 = .ok (.bipush 16, 2) := by decide +kernel
theorem dJ6_bitCount_0f7a4_45 : decode cJ6_bitCount_0f7a4 45 = .ok (.iushr, 1) := by decide +kernel
theorem dJ6_bitCount_0f7a4_46 : decode cJ6_bitCount_0f7a4 46 = .ok (.iadd, 1) := by decide +kernel
theorem dJ6_bitCount_0f7a4_47 : decode cJ6_bitCount_0f7a4 47 = .ok (.istore_n 0, 1) := by decide +kernel
theorem dJ6_bitCount_0f7a4_48 : decode cJ6_bitCount_0f7a4 48 = .ok (.iload_n 0, 1) := by decide +kernel
theorem dJ6_bitCount_0f7a4_49 : decode cJ6_bitCount_0f7a4 49 = .ok (.bipush 63, 2) := by decide +kernel
theorem dJ6_bitCount_0f7a4_51 : decode cJ6_bitCount_0f7a4 51 = .ok (.iand, 1) := by decide +kernel
theorem dJ6_bitCount_0f7a4_52 : decode cJ6_bitCount_0f7a4 52 = .ok (.ireturn, 1) := by decide +kernel
theorem dJ9_max_7cf53_0 : decode cJ9_max_7cf53 0 = .ok (.iload_n 0, 1) := by decide +kernel
theorem dJ9_max_7cf53_1 : decode cJ9_max_7cf53 1 = .ok (.iload_n 1, 1) := by decide +kernel
theorem dJ9_max_7cf53_2 : decode cJ9_max_7cf53 2 = .ok (.if_icmp .lt 7, 3) := by decide +kernel
theorem dJ9_max_7cf53_5 : decode cJ9_max_7cf53 5 = .ok (.iload_n 0, 1) := by decide +kernel
theorem dJ9_max_7cf53_6 : decode cJ9_max_7cf53 6 = .ok (.goto 4, 3) := by decide +kernel
theorem dJ9_max_7cf53_9 : decode cJ9_max_7cf53 9 = .ok (.iload_n 1, 1) := by decide +kernel
theorem dJ9_max_7cf53_10 : decode cJ9_max_7cf53 10 = .ok (.ireturn, 1) := by decide +kernel
theorem dJ9_min_7cf53_0 : decode cJ9_min_7cf53 0 = .ok (.iload_n 0, 1) := by decide +kernel
theorem dJ9_min_7cf53_1 : decode cJ9_min_7cf53 1 = .ok (.iload_n 1, 1) := by decide +kernel
theorem dJ9_min_7cf53_2 : decode cJ9_min_7cf53 2 = .ok (.if_icmp .gt 7, 3) := by decide +kernel
theorem dJ9_min_7cf53_5 : decode cJ9_min_7cf53 5 = .ok (.iload_n 0, 1) := by decide +kernel
theorem dJ9_min_7cf53_6 : decode cJ9_min_7cf53 6 = .ok (.goto 4, 3) := by decide +kernel
theorem dJ9_min_7cf53_9 : decode cJ9_min_7cf53 9 = .ok (.iload_n 1, 1) := by decide +kernel
theorem dJ9_min_7cf53_10 : decode cJ9_min_7cf53 10 = .ok (.ireturn, 1) := by decide +kernel
theorem dJ7_fill_d0a16_0 : decode cJ7_fill_d0a16 0 = .ok (.iconst 0, 1) := by decide +kernel
theorem dJ7_fill_d0a16_1 : decode cJ7_fill_d0a16 1 = .ok (.istore_n 3, 1) := by decide +kernel
theorem dJ7_fill_d0a16_2 : decode cJ7_fill_d0a16 2 = .ok (.aload_n 0, 1) := by decide +kernel
theorem dJ7_fill_d0a16_3 : decode cJ7_fill_d0a16 3 = .ok (.arraylength, 1) := by decide +kernel
theorem dJ7_fill_d0a16_4 : decode cJ7_fill_d0a16 4 = .ok (.istore 4, 2) := by decide +kernel
theorem dJ7_fill_d0a16_6 : decode cJ7_fill_d0a16 6 = .ok (.iload_n 3, 1) := by decide +kernel
theorem dJ7_fill_d0a16_7 : decode cJ7_fill_d0a16 7 = .ok (.iload 4, 2) := by decide +kernel
theorem dJ7_fill_d0a16_9 : decode cJ7_fill_d0a16 9 = .ok (.if_icmp .ge 13, 3) := by decide +kernel
theorem dJ7_fill_d0a16_12 : decode cJ7_fill_d0a16 12 = .ok (.aload_n 0, 1) := by decide +kernel
theorem dJ7_fill_d0a16_13 : decode cJ7_fill_d0a16 13 = .ok (.iload_n 3, 1) := by decide +kernel
theorem dJ7_fill_d0a16_14 : decode cJ7_fill_d0a16 14 = .ok (.lload_n 1, 1) := by decide +kernel
theorem dJ7_fill_d0a16_15 : decode cJ7_fill_d0a16 15 = .ok (.lastore, 1) := by decide +kernel
theorem dJ7_fill_d0a16_16 : decode cJ7_fill_d0a16 16 = .ok (.iinc 3 1, 3) := by decide +kernel
theorem dJ7_fill_d0a16_19 : decode cJ7_fill_d0a16 19 = .ok (.goto (-13), 3) := by decide +kernel
theorem dJ7_fill_d0a16_22 : decode cJ7_fill_d0a16 22 = .ok (.return_, 1) := by decide +kernel
theorem dJ7_fill_53178_0 : decode cJ7_fill_53178 0 = .ok (.iconst 0, 1) := by decide +kernel
theorem dJ7_fill_53178_1 : decode cJ7_fill_53178 1 = .ok (.istore_n 2, 1) := by decide +kernel
theorem dJ7_fill_53178_2 : decode cJ7_fill_53178 2 = .ok (.aload_n 0, 1) := by decide +kernel
theorem dJ7_fill_53178_3 : decode cJ7_fill_53178 3 = .ok (.arraylength, 1) := by decide +kernel
theorem dJ7_fill_53178_4 : decode cJ7_fill_53178 4 = .ok (.istore_n 3, 1) := by decide +kernel
theorem dJ7_fill_53178_5 : decode cJ7_fill_53178 5 = .ok (.iload_n 2, 1) := by decide +kernel
theorem dJ7_fill_53178_6 : decode cJ7_fill_53178 6 = .ok (.iload_n 3, 1) := by decide +kernel
theorem dJ7_fill_53178_7 : decode cJ7_fill_53178 7 = .ok (.if_icmp .ge 13, 3) := by decide +kernel
theorem dJ7_fill_53178_10 : decode cJ7_fill_53178 10 = .ok (.aload_n 0, 1) := by decide +kernel
theorem dJ7_fill_53178_11 : decode cJ7_fill_53178 11 = .ok (.iload_n 2, 1) := by decide +kernel
theorem dJ7_fill_53178_12 : decode cJ7_fill_53178 12 = .ok (.iload_n 1, 1) := by decide +kernel
theorem dJ7_fill_53178_13 : decode cJ7_fill_53178 13 = .ok (.iastore, 1) := by decide +kernel
theorem dJ7_fill_53178_14 : decode cJ7_fill_53178 14 = .ok (.iinc 2 1, 3) := by decide +kernel
theorem dJ7_fill_53178_17 : decode cJ7_fill_53178 17 = .ok (.goto (-12), 3) := by decide +kernel
theorem dJ7_fill_53178_20 : decode cJ7_fill_53178 20 = .ok (.return_, 1) := by decide +kernel
