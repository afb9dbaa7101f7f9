theorem dX5_sizeOf_2 : decode cX5_sizeOf 2 = .ok (.iconst 0, 1) := by decide +kernel
theorem dX5_sizeOf_3 : decode cX5_sizeOf 3 = .ok (.istore_n 3, 1) := by decide +kernel
theorem dX5_sizeOf_4 : decode cX5_sizeOf 4 = .ok (.iload_n 3, 1) := by decide +kernel
theorem dX5_sizeOf_5 : decode cX5_sizeOf 5 = .ok (.aload_n 0, 1) := by decide +kernel
theorem dX5_sizeOf_6 : decode cX5_sizeOf 6 = .ok (.invokevirtual 72, 3) := by decide +kernel
theorem dX5_sizeOf_9 : decode cX5_sizeOf 9 = .ok (.if_icmp .ge 32, 3) := by decide +kernel
theorem dX5_sizeOf_12 : decode cX5_sizeOf 12 = .ok (.iload_n 2, 1) := by decide +kernel
theorem dX5_sizeOf_13 : decode cX5_sizeOf 13 = .ok (.iload_n 1, 1) := by decide +kernel
theorem dX5_sizeOf_14 : decode cX5_sizeOf 14 = .ok (.bipush (-9), 2) := by decide +kernel
theorem dX5_sizeOf_16 : decode cX5_sizeOf 16 = .ok (.if_icmp .eq 16, 3) := by decide +kernel
theorem dX5_sizeOf_19 : decode cX5_sizeOf 19 = .ok (.aload_n 0, 1) := by decide +kernel
theorem dX5_sizeOf_20 : decode cX5_sizeOf 20 = .ok (.iload_n 3, 1) := by decide +kernel
theorem dX5_sizeOf_21 : decode cX5_sizeOf 21 = .ok (.invokevirtual 129, 3) := by decide +kernel
theorem dX5_sizeOf_24 : decode cX5_sizeOf 24 = .ok (.iload_n 1, 1) := by decide +kernel
theorem dX5_sizeOf_25 : decode cX5_sizeOf 25 = .ok (.if_icmp .ne 7, 3) := by decide +kernel
theorem dX5_sizeOf_28 : decode cX5_sizeOf 28 = .ok (.iconst 1, 1) := by decide +kernel
theorem dX5_sizeOf_29 : decode cX5_sizeOf 29 = .ok (.goto 4, 3) := by decide +kernel
theorem dX5_sizeOf_32 : decode cX5_sizeOf 32 = .ok (.iconst 0, 1) := by decide +kernel
theorem dX5_sizeOf_33 : decode cX5_sizeOf 33 = .ok (.iadd, 1) := by decide +kernel
theorem dX5_sizeOf_34 : decode cX5_sizeOf 34 = .ok (.istore_n 2, 1) := by decide +kernel
theorem dX5_sizeOf_35 : decode cX5_sizeOf 35 = .ok (.iinc 3 1, 3) := by decide +kernel
theorem dX5_sizeOf_38 : decode cX5_sizeOf 38 = .ok (.goto (-34), 3) := by decide +kernel
theorem dX5_sizeOf_41 : decode cX5_sizeOf 41 = .ok (.iload_n 2, 1) := by decide +kernel
theorem dX5_sizeOf_42 : decode cX5_sizeOf 42 = .ok (.ireturn, 1) := by decide +kernel
theorem dX5_heapCount_0 : decode cX5_heapCount 0 = .ok (.iconst 0, 1) := by decide +kernel
theorem dX5_heapCount_1 : decode cX5_heapCount 1 = .ok (.istore_n 1, 1) := by decide +kernel
theorem dX5_heapCount_2 : decode cX5_heapCount 2 = .ok (.iconst 0, 1) := by decide +kernel
theorem dX5_heapCount_3 : decode cX5_heapCount 3 = .ok (.istore_n 2, 1) := by decide +kernel
theorem dX5_heapCount_4 : decode cX5_heapCount 4 = .ok (.iload_n 2, 1) := by decide +kernel
theorem dX5_heapCount_5 : decode cX5_heapCount 5 = .ok (.aload_n 0, 1) := by decide +kernel
theorem dX5_heapCount_6 : decode cX5_heapCount 6 = .ok (.invokevirtual 72, 3) := by decide +kernel
theorem dX5_heapCount_9 : decode cX5_heapCount 9 = .ok (.if_icmp .ge 26, 3) := by decide +kernel
theorem dX5_heapCount_12 : decode cX5_heapCount 12 = .ok (.iload_n 1, 1) := by decide +kernel
theorem dX5_heapCount_13 : decode cX5_heapCount 13 = .ok (.aload_n 0, 1) := by decide +kernel
theorem dX5_heapCount_14 : decode cX5_heapCount 14 = .ok (.iload_n 2, 1) := by decide +kernel
theorem dX5_heapCount_15 : decode cX5_heapCount 15 = .ok (.invokevirtual 129, 3) := by decide +kernel
theorem dX5_heapCount_18 : decode cX5_heapCount 18 = .ok (.iload_n 2, 1) := by decide +kernel
theorem dX5_heapCount_19 : decode cX5_heapCount 19 = .ok (.if_icmp .ne 7, 3) := by decide +kernel
theorem dX5_heapCount_22 : decode cX5_heapCount 22 = .ok (.iconst 1, 1) := by decide +kernel
theorem dX5_heapCount_23 : decode cX5_heapCount 23 = .ok (.goto 4, 3) := by decide +kernel
theorem dX5_heapCount_26 : decode cX5_heapCount 26 = .ok (.iconst 0, 1) := by decide +kernel
theorem dX5_heapCount_27 : decode cX5_heapCount 27 = .ok (.iadd, 1) := by decide +kernel
theorem dX5_heapCount_28 : decode cX5_heapCount 28 = .ok (.istore_n 1, 1) := by decide +kernel
theorem dX5_heapCount_29 : decode cX5_heapCount 29 = .ok (.iinc 2 1, 3) := by decide +kernel
theorem dX5_heapCount_32 : decode cX5_heapCount 32 = .ok (.goto (-28), 3) := by decide +kernel
theorem dX5_heapCount_35 : decode cX5_heapCount 35 = .ok (.iload_n 1, 1) := by decide +kernel
theorem dX5_heapCount_36 : decode cX5_heapCount 36 = .ok (.ireturn, 1) := by decide +kernel
theorem dX5_heaps_0 : decode cX5_heaps 0 = .ok (.aload_n 0, 1) := by decide +kernel
theorem dX5_heaps_1 : decode cX5_heaps 1 = .ok (.iconst 0, 1) := by decide +kernel
theorem dX5_heaps_2 : decode cX5_heaps 2 = .ok (.putfield 58, 3) := by decide +kernel
theorem dX5_heaps_5 : decode cX5_heaps 5 = .ok (.aload_n 0, 1) := by decide +kernel
theorem dX5_heaps_6 : decode cX5_heaps 6 = .ok (.iload_n 1, 1) := by decide +kernel
theorem dX5_heaps_7 : decode cX5_heaps 7 = .ok (.invokevirtual 107, 3) := by decide +kernel
theorem dX5_heaps_10 : decode cX5_heaps 10 = .ok (.ifCond .eq 12, 3) := by decide +kernel
theorem dX5_heaps_13 : decode cX5_heaps 13 = .ok (.iload_n 2, 1) := by decide +kernel
theorem dX5_heaps_14 : decode cX5_heaps 14 = .ok (.iconst 0, 1) := by decide +kernel
theorem dX5_heaps_15 : decode cX5_heaps 15 = .ok (.iconst 1, 1) := by decide +kernel
theorem dX5_heaps_16 : decode cX5_heaps 16 = .ok (.invokestatic 81, 3) := by decide +kernel
theorem dX5_heaps_19 : decode cX5_heaps 19 = .ok (.ifCond .ne 5, 3) := by decide +kernel
theorem dX5_heaps_22 : decode cX5_heaps 22 = .ok (.iconst (-1), 1) := by decide +kernel
theorem dX5_heaps_23 : decode cX5_heaps 23 = .ok (.ireturn, 1) := by decide +kernel
theorem dX5_heaps_24 : decode cX5_heaps 24 = .ok (.aload_n 0, 1) := by decide +kernel
theorem dX5_heaps_25 : decode cX5_heaps 25 = .ok (.iload_n 1, 1) := by decide +kernel
theorem dX5_heaps_26 : decode cX5_heaps 26 = .ok (.invokevirtual 132, 3) := by decide +kernel
theorem dX5_heaps_29 : decode cX5_heaps 29 = .ok (.iload_n 2, 1) := by decide +kernel
theorem dX5_heaps_30 : decode cX5_heaps 30 = .ok (.ifCond .ne 8, 3) := by decide +kernel
theorem dX5_heaps_33 : decode cX5_heaps 33 = .ok (.aload_n 0, 1) := by decide +kernel
theorem dX5_heaps_34 : decode cX5_heaps 34 = .ok (.invokevirtual 158, 3) := by decide +kernel
theorem dX5_heaps_37 : decode cX5_heaps 37 = .ok (.ireturn, 1) := by decide +kernel
theorem dX5_heaps_38 : decode cX5_heaps 38 = .ok (.iconst 0, 1) := by decide +kernel
theorem dX5_heaps_39 : decode cX5_heaps 39 = .ok (.istore_n 3, 1) := by decide +kernel
theorem dX5_heaps_40 : decode cX5_heaps 40 = .ok (.iconst 0, 1) := by decide +kernel
theorem dX5_heaps_41 : decode cX5_heaps 41 = .ok (.istore 4, 2) := by decide +kernel
theorem dX5_heaps_43 : decode cX5_heaps 43 = .ok (.iload 4, 2) := by decide +kernel
theorem dX5_heaps_45 : decode cX5_heaps 45 = .ok (.aload_n 0, 1) := by decide +kernel
theorem dX5_heaps_46 : decode cX5_heaps 46 = .ok (.invokevirtual 72, 3) := by decide +kernel
theorem dX5_heaps_49 : decode cX5_heaps 49 = .ok (.if_icmp .ge 34, 3) := by decide +kernel
theorem dX5_heaps_52 : decode cX5_heaps 52 = .ok (.aload_n 0, 1) := by decide +kernel
theorem dX5_heaps_53 : decode cX5_heaps 53 = .ok (.aload_n 0, 1) := by decide +kernel
theorem dX5_heaps_54 : decode cX5_heaps 54 = .ok (.iload 4, 2) := by decide +kernel
theorem dX5_heaps_56 : decode cX5_heaps 56 = .ok (.invokevirtual 129, 3) := by decide +kernel
theorem dX5_heaps_59 : decode cX5_heaps 59 = .ok (.invokevirtual 161, 3) := by decide +kernel
theorem dX5_heaps_62 : decode cX5_heaps 62 = .ok (.istore 5, 2) := by decide +kernel
theorem dX5_heaps_64 : decode cX5_heaps 64 = .ok (.iload 5, 2) := by decide +kernel
theorem dX5_heaps_66 : decode cX5_heaps 66 = .ok (.iload_n 3, 1) := by decide +kernel
theorem dX5_heaps_67 : decode cX5_heaps 67 = .ok (.if_icmp .le 8, 3) := by decide +kernel
theorem dX5_heaps_70 : decode cX5_heaps 70 = .ok (.iload 5, 2) := by decide +kernel
theorem dX5_heaps_72 : decode cX5_heaps 72 = .ok (.goto 4, 3) := by decide +kernel
theorem dX5_heaps_75 : decode cX5_heaps 75 = .ok (.iload_n 3, 1) := by decide +kernel
theorem dX5_heaps_76 : decode cX5_heaps 76 = .ok (.istore_n 3, 1) := by decide +kernel
theorem dX5_heaps_77 : decode cX5_heaps 77 = .ok (.iinc 4 1, 3) := by decide +kernel
theorem dX5_heaps_80 : decode cX5_heaps 80 = .ok (.goto (-37), 3) := by decide +kernel
theorem dX5_heaps_83 : decode cX5_heaps 83 = .ok (.iload_n 3, 1) := by decide +kernel
theorem dX5_heaps_84 : decode cX5_heaps 84 = .ok (.ireturn, 1) := by decide +kernel
theorem dX5_bits_0 : decode cX5_bits 0 = .ok (.iconst 0, 1) := by decide +kernel
theorem dX5_bits_1 : decode cX5_bits 1 = .ok (.istore_n 1, 1) := by decide +kernel
theorem dX5_bits_2 : decode cX5_bits 2 = .ok (.iconst 0, 1) := by decide +kernel
theorem dX5_bits_3 : decode cX5_bits 3 = .ok (.istore_n 2, 1) := by decide +kernel
theorem dX5_bits_4 : decode cX5_bits 4 = .ok (.iload_n 2, 1) := by decide +kernel
theorem dX5_bits_5 : decode cX5_bits 5 = .ok (.bipush 12, 2) := by decide +kernel
theorem dX5_bits_7 : decode cX5_bits 7 = .ok (.if_icmp .ge 17, 3) := by decide +kernel
theorem dX5_bits_10 : decode cX5_bits 10 = .ok (.iload_n 1, 1) := by decide +kernel
theorem dX5_bits_11 : decode cX5_bits 11 = .ok (.iload_n 0, 1) := by decide +kernel
theorem dX5_bits_12 : decode cX5_bits 12 = .ok (.iload_n 2, 1) := by decide +kernel
theorem dX5_bits_13 : decode cX5_bits 13 = .ok (.ishr, 1) := by decide +kernel
theorem dX5_bits_14 : decode cX5_bits 14 = .ok (.iconst 1, 1) := by decide +kernel
theorem dX5_bits_15 : decode cX5_bits 15 = .ok (.iand, 1) := by decide +kernel
theorem dX5_bits_16 : decode cX5_bits 16 = .ok (.iadd, 1) := by decide +kernel
theorem dX5_bits_17 : decode cX5_bits 17 = .ok (.istore_n 1, 1) := by decide +kernel
theorem dX5_bits_18 : decode cX5_bits 18 = .ok (.iinc 2 1, 3) := by decide +kernel
theorem dX5_bits_21 : decode cX5_bits 21 = .ok (.goto (-17), 3) := by decide +kernel
theorem dX5_bits_24 : decode cX5_bits 24 = .ok (.iload_n 1, 1) := by decide +kernel
theorem dX5_bits_25 : decode cX5_bits 25 = .ok (.ireturn, 1) := by decide +kernel
theorem dX5_isSize_0 : decode cX5_isSize 0 = .ok (.iload_n 1, 1) := by decide +kernel
theorem dX5_isSize_1 : decode cX5_isSize 1 = .ok (.iconst 0, 1) := by decide +kernel
theorem dX5_isSize_2 : decode cX5_isSize 2 = .ok (.aload_n 0, 1) := by decide +kernel
theorem dX5_isSize_3 : decode cX5_isSize 3 = .ok (.invokevirtual 85, 3) := by decide +kernel
theorem dX5_isSize_6 : decode cX5_isSize 6 = .ok (.invokestatic 81, 3) := by decide +kernel
theorem dX5_isSize_9 : decode cX5_isSize 9 = .ok (.ireturn, 1) := by decide +kernel
theorem dX5_countOf_0 : decode cX5_countOf 0 = .ok (.aload_n 0, 1) := by decide +kernel
theorem dX5_countOf_1 : decode cX5_countOf 1 = .ok (.invokevirtual 138, 3) := by decide +kernel
theorem dX5_countOf_4 : decode cX5_countOf 4 = .ok (.iconst 0, 1) := by decide +kernel
theorem dX5_countOf_5 : decode cX5_countOf 5 = .ok (.istore_n 3, 1) := by decide +kernel
theorem dX5_countOf_6 : decode cX5_countOf 6 = .ok (.iconst 0, 1) := by decide +kernel
theorem dX5_countOf_7 : decode cX5_countOf 7 = .ok (.istore 4, 2) := by decide +kernel
theorem dX5_countOf_9 : decode cX5_countOf 9 = .ok (.iload 4, 2) := by decide +kernel
theorem dX5_countOf_11 : decode cX5_countOf 11 = .ok (.iconst 1, 1) := by decide +kernel
theorem dX5_countOf_12 : decode cX5_countOf 12 = .ok (.aload_n 0, 1) := by decide +kernel
theorem dX5_countOf_13 : decode cX5_countOf 13 = .ok (.invokevirtual 85, 3) := by decide +kernel
theorem dX5_countOf_16 : decode cX5_countOf 16 = .ok (.ishl, 1) := by decide +kernel
theorem dX5_countOf_17 : decode cX5_countOf 17 = .ok (.if_icmp .ge 36, 3) := by decide +kernel
theorem dX5_countOf_20 : decode cX5_countOf 20 = .ok (.iload_n 3, 1) := by decide +kernel
theorem dX5_countOf_21 : decode cX5_countOf 21 = .ok (.iload 4, 2) := by decide +kernel
theorem dX5_countOf_23 : decode cX5_countOf 23 = .ok (.invokestatic 164, 3) := by decide +kernel
theorem dX5_countOf_26 : decode cX5_countOf 26 = .ok (.iload_n 2, 1) := by decide +kernel
theorem dX5_countOf_27 : decode cX5_countOf 27 = .ok (.if_icmp .ne 17, 3) := by decide +kernel
theorem dX5_countOf_30 : decode cX5_countOf 30 = .ok (.aload_n 0, 1) := by decide +kernel
theorem dX5_countOf_31 : decode cX5_countOf 31 = .ok (.iload 4, 2) := by decide +kernel
theorem dX5_countOf_33 : decode cX5_countOf 33 = .ok (.iload_n 1, 1) := by decide +kernel
theorem dX5_countOf_34 : decode cX5_countOf 34 = .ok (.invokevirtual 141, 3) := by decide +kernel
theorem dX5_countOf_37 : decode cX5_countOf 37 = .ok (.ifCond .eq 7, 3) := by decide +kernel
theorem dX5_countOf_40 : decode cX5_countOf 40 = .ok (.iconst 1, 1) := by decide +kernel
theorem dX5_countOf_41 : decode cX5_countOf 41 = .ok (.goto 4, 3) := by decide +kernel
theorem dX5_countOf_44 : decode cX5_countOf 44 = .ok (.iconst 0, 1) := by decide +kernel
theorem dX5_countOf_45 : decode cX5_countOf 45 = .ok (.iadd, 1) := by decide +kernel
theorem dX5_countOf_46 : decode cX5_countOf 46 = .ok (.istore_n 3, 1) := by decide +kernel
theorem dX5_countOf_47 : decode cX5_countOf 47 = .ok (.iinc 4 1, 3) := by decide +kernel
theorem dX5_countOf_50 : decode cX5_countOf 50 = .ok (.goto (-41), 3) := by decide +kernel
theorem dX5_countOf_53 : decode cX5_countOf 53 = .ok (.iload_n 3, 1) := by decide +kernel
theorem dX5_countOf_54 : decode cX5_countOf 54 = .ok (.ireturn, 1) := by decide +kernel
theorem dX5_count_0 : decode cX5_count 0 = .ok (.aload_n 0, 1) := by decide +kernel
theorem dX5_count_1 : decode cX5_count 1 = .ok (.iconst 0, 1) := by decide +kernel
theorem dX5_count_2 : decode cX5_count 2 = .ok (.putfield 58, 3) := by decide +kernel
theorem dX5_count_5 : decode cX5_count 5 = .ok (.iload_n 1, 1) := by decide +kernel
theorem dX5_count_6 : decode cX5_count 6 = .ok (.iconst 0, 1) := by decide +kernel
theorem dX5_count_7 : decode cX5_count 7 = .ok (.iconst 3, 1) := by decide +kernel
theorem dX5_count_8 : decode cX5_count 8 = .ok (.invokestatic 81, 3) := by decide +kernel
theorem dX5_count_11 : decode cX5_count 11 = .ok (.ifCond .eq 20, 3) := by decide +kernel
theorem dX5_count_14 : decode cX5_count 14 = .ok (.aload_n 0, 1) := by decide +kernel
theorem dX5_count_15 : decode cX5_count 15 = .ok (.iload_n 2, 1) := by decide +kernel
theorem dX5_count_16 : decode cX5_count 16 = .ok (.invokevirtual 167, 3) := by decide +kernel
theorem dX5_count_19 : decode cX5_count 19 = .ok (.ifCond .eq 12, 3) := by decide +kernel
theorem dX5_count_22 : decode cX5_count 22 = .ok (.aload_n 0, 1) := by decide +kernel
theorem dX5_count_23 : decode cX5_count 23 = .ok (.iload_n 1, 1) := by decide +kernel
theorem dX5_count_24 : decode cX5_count 24 = .ok (.iload_n 2, 1) := by decide +kernel
theorem dX5_count_25 : decode cX5_count 25 = .ok (.invokevirtual 170, 3) := by decide +kernel
theorem dX5_count_28 : decode cX5_count 28 = .ok (.goto 4, 3) := by decide +kernel
theorem dX5_count_31 : decode cX5_count 31 = .ok (.iconst (-1), 1) := by decide +kernel
theorem dX5_count_32 : decode cX5_count 32 = .ok (.ireturn, 1) := by decide +kernel
theorem dX5_walls_0 : decode cX5_walls 0 = .ok (.aload_n 0, 1) := by decide +kernel
theorem dX5_walls_1 : decode cX5_walls 1 = .ok (.iconst 0, 1) := by decide +kernel
theorem dX5_walls_2 : decode cX5_walls 2 = .ok (.putfield 58, 3) := by decide +kernel
theorem dX5_walls_5 : decode cX5_walls 5 = .ok (.aload_n 0, 1) := by decide +kernel
theorem dX5_walls_6 : decode cX5_walls 6 = .ok (.getfield 69, 3) := by decide +kernel
theorem dX5_walls_9 : decode cX5_walls 9 = .ok (.ifCond .eq 6, 3) := by decide +kernel
theorem dX5_walls_12 : decode cX5_walls 12 = .ok (.bipush (-2), 2) := by decide +kernel
theorem dX5_walls_14 : decode cX5_walls 14 = .ok (.ireturn, 1) := by decide +kernel
theorem dX5_walls_15 : decode cX5_walls 15 = .ok (.iload_n 1, 1) := by decide +kernel
theorem dX5_walls_16 : decode cX5_walls 16 = .ok (.iconst 0, 1) := by decide +kernel
theorem dX5_walls_17 : decode cX5_walls 17 = .ok (.iconst 1, 1) := by decide +kernel
theorem dX5_walls_18 : decode cX5_walls 18 = .ok (.invokestatic 81, 3) := by decide +kernel
theorem dX5_walls_21 : decode cX5_walls 21 = .ok (.ifCond .eq 11, 3) := by decide +kernel
theorem dX5_walls_24 : decode cX5_walls 24 = .ok (.aload_n 0, 1) := by decide +kernel
theorem dX5_walls_25 : decode cX5_walls 25 = .ok (.iload_n 2, 1) := by decide +kernel
theorem dX5_walls_26 : decode cX5_walls 26 = .ok (.invokevirtual 167, 3) := by decide +kernel
theorem dX5_walls_29 : decode cX5_walls 29 = .ok (.ifCond .ne 5, 3) := by decide +kernel
theorem dX5_walls_32 : decode cX5_walls 32 = .ok (.iconst (-1), 1) := by decide +kernel
theorem dX5_walls_33 : decode cX5_walls 33 = .ok (.ireturn, 1) := by decide +kernel
theorem dX5_walls_34 : decode cX5_walls 34 = .ok (.iconst 0, 1) := by decide +kernel
theorem dX5_walls_35 : decode cX5_walls 35 = .ok (.istore_n 3, 1) := by decide +kernel
theorem dX5_walls_36 : decode cX5_walls 36 = .ok (.iconst 0, 1) := by decide +kernel
theorem dX5_walls_37 : decode cX5_walls 37 = .ok (.istore 4, 2) := by decide +kernel
theorem dX5_walls_39 : decode cX5_walls 39 = .ok (.iload 4, 2) := by decide +kernel
theorem dX5_walls_41 : decode cX5_walls 41 = .ok (.iconst 1, 1) := by decide +kernel
theorem dX5_walls_42 : decode cX5_walls 42 = .ok (.aload_n 0, 1) := by decide +kernel
theorem dX5_walls_43 : decode cX5_walls 43 = .ok (.invokevirtual 85, 3) := by decide +kernel
theorem dX5_walls_46 : decode cX5_walls 46 = .ok (.ishl, 1) := by decide +kernel
theorem dX5_walls_47 : decode cX5_walls 47 = .ok (.if_icmp .ge 49, 3) := by decide +kernel
theorem dX5_walls_50 : decode cX5_walls 50 = .ok (.iload 4, 2) := by decide +kernel
theorem dX5_walls_52 : decode cX5_walls 52 = .ok (.invokestatic 164, 3) := by decide +kernel
theorem dX5_walls_55 : decode cX5_walls 55 = .ok (.iload_n 2, 1) := by decide +kernel
theorem dX5_walls_56 : decode cX5_walls 56 = .ok (.if_icmp .ne 34, 3) := by decide +kernel
theorem dX5_walls_59 : decode cX5_walls 59 = .ok (.aload_n 0, 1) := by decide +kernel
theorem dX5_walls_60 : decode cX5_walls 60 = .ok (.iload 4, 2) := by decide +kernel
theorem dX5_walls_62 : decode cX5_walls 62 = .ok (.invokevirtual 132, 3) := by decide +kernel
theorem dX5_walls_65 : decode cX5_walls 65 = .ok (.iload_n 3, 1) := by decide +kernel
theorem dX5_walls_66 : decode cX5_walls 66 = .ok (.aload_n 0, 1) := by decide +kernel
theorem dX5_walls_67 : decode cX5_walls 67 = .ok (.iload_n 1, 1) := by decide +kernel
theorem dX5_walls_68 : decode cX5_walls 68 = .ok (.iconst 1, 1) := by decide +kernel
theorem dX5_walls_69 : decode cX5_walls 69 = .ok (.if_icmp .ne 7, 3) := by decide +kernel
theorem dX5_walls_72 : decode cX5_walls 72 = .ok (.iconst 1, 1) := by decide +kernel
theorem dX5_walls_73 : decode cX5_walls 73 = .ok (.goto 4, 3) := by decide +kernel
theorem dX5_walls_76 : decode cX5_walls 76 = .ok (.iconst 0, 1) := by decide +kernel
theorem dX5_walls_77 : decode cX5_walls 77 = .ok (.invokevirtual 151, 3) := by decide +kernel
theorem dX5_walls_80 : decode cX5_walls 80 = .ok (.ifCond .eq 7, 3) := by decide +kernel
theorem dX5_walls_83 : decode cX5_walls 83 = .ok (.iconst 1, 1) := by decide +kernel
theorem dX5_walls_84 : decode cX5_walls 84 = .ok (.goto 4, 3) := by decide +kernel
theorem dX5_walls_87 : decode cX5_walls 87 = .ok (.iconst 0, 1) := by decide +kernel
theorem dX5_walls_88 : decode cX5_walls 88 = .ok (.iadd, 1) := by decide +kernel
theorem dX5_walls_89 : decode cX5_walls 89 = .ok (.istore_n 3, 1) := by decide +kernel
theorem dX5_walls_90 : decode cX5_walls 90 = .ok (.iinc 4 1, 3) := by decide +kernel
theorem dX5_walls_93 : decode cX5_walls 93 = .ok (.goto (-54), 3) := by decide +kernel
theorem dX5_walls_96 : decode cX5_walls 96 = .ok (.iload_n 3, 1) := by decide +kernel
theorem dX5_walls_97 : decode cX5_walls 97 = .ok (.ireturn, 1) := by decide +kernel
theorem dX5_joined_0 : decode cX5_joined 0 = .ok (.aload_n 0, 1) := by decide +kernel
theorem dX5_joined_1 : decode cX5_joined 1 = .ok (.iconst 0, 1) := by decide +kernel
theorem dX5_joined_2 : decode cX5_joined 2 = .ok (.putfield 58, 3) := by decide +kernel
theorem dX5_joined_5 : decode cX5_joined 5 = .ok (.aload_n 0, 1) := by decide +kernel
theorem dX5_joined_6 : decode cX5_joined 6 = .ok (.iload_n 1, 1) := by decide +kernel
theorem dX5_joined_7 : decode cX5_joined 7 = .ok (.invokevirtual 155, 3) := by decide +kernel
theorem dX5_joined_10 : decode cX5_joined 10 = .ok (.ifCond .eq 19, 3) := by decide +kernel
theorem dX5_joined_13 : decode cX5_joined 13 = .ok (.aload_n 0, 1) := by decide +kernel
theorem dX5_joined_14 : decode cX5_joined 14 = .ok (.iload_n 2, 1) := by decide +kernel
theorem dX5_joined_15 : decode cX5_joined 15 = .ok (.invokevirtual 155, 3) := by decide +kernel
theorem dX5_joined_18 : decode cX5_joined 18 = .ok (.ifCond .eq 11, 3) := by decide +kernel
theorem dX5_joined_21 : decode cX5_joined 21 = .ok (.aload_n 0, 1) := by decide +kernel
theorem dX5_joined_22 : decode cX5_joined 22 = .ok (.iload_n 3, 1) := by decide +kernel
theorem dX5_joined_23 : decode cX5_joined 23 = .ok (.invokevirtual 167, 3) := by decide +kernel
theorem dX5_joined_26 : decode cX5_joined 26 = .ok (.ifCond .ne 5, 3) := by decide +kernel
theorem dX5_joined_29 : decode cX5_joined 29 = .ok (.iconst (-1), 1) := by decide +kernel
theorem dX5_joined_30 : decode cX5_joined 30 = .ok (.ireturn, 1) := by decide +kernel
theorem dX5_joined_31 : decode cX5_joined 31 = .ok (.iconst 0, 1) := by decide +kernel
theorem dX5_joined_32 : decode cX5_joined 32 = .ok (.istore 4, 2) := by decide +kernel
theorem dX5_joined_34 : decode cX5_joined 34 = .ok (.iconst 0, 1) := by decide +kernel
theorem dX5_joined_35 : decode cX5_joined 35 = .ok (.istore 5, 2) := by decide +kernel
theorem dX5_joined_37 : decode cX5_joined 37 = .ok (.iload 5, 2) := by decide +kernel
theorem dX5_joined_39 : decode cX5_joined 39 = .ok (.iconst 1, 1) := by decide +kernel
theorem dX5_joined_40 : decode cX5_joined 40 = .ok (.aload_n 0, 1) := by decide +kernel
theorem dX5_joined_41 : decode cX5_joined 41 = .ok (.invokevirtual 85, 3) := by decide +kernel
theorem dX5_joined_44 : decode cX5_joined 44 = .ok (.ishl, 1) := by decide +kernel
theorem dX5_joined_45 : decode cX5_joined 45 = .ok (.if_icmp .ge 57, 3) := by decide +kernel
theorem dX5_joined_48 : decode cX5_joined 48 = .ok (.iload 5, 2) := by decide +kernel
theorem dX5_joined_50 : decode cX5_joined 50 = .ok (.invokestatic 164, 3) := by decide +kernel
theorem dX5_joined_53 : decode cX5_joined 53 = .ok (.iload_n 3, 1) := by decide +kernel
theorem dX5_joined_54 : decode cX5_joined 54 = .ok (.if_icmp .ne 42, 3) := by decide +kernel
theorem dX5_joined_57 : decode cX5_joined 57 = .ok (.aload_n 0, 1) := by decide +kernel
theorem dX5_joined_58 : decode cX5_joined 58 = .ok (.iload 5, 2) := by decide +kernel
theorem dX5_joined_60 : decode cX5_joined 60 = .ok (.invokevirtual 132, 3) := by decide +kernel
theorem dX5_joined_63 : decode cX5_joined 63 = .ok (.iload 4, 2) := by decide +kernel
theorem dX5_joined_65 : decode cX5_joined 65 = .ok (.aload_n 0, 1) := by decide +kernel
theorem dX5_joined_66 : decode cX5_joined 66 = .ok (.iload_n 1, 1) := by decide +kernel
theorem dX5_joined_67 : decode cX5_joined 67 = .ok (.invokevirtual 129, 3) := by decide +kernel
theorem dX5_joined_70 : decode cX5_joined 70 = .ok (.bipush (-9), 2) := by decide +kernel
theorem dX5_joined_72 : decode cX5_joined 72 = .ok (.if_icmp .eq 20, 3) := by decide +kernel
theorem dX5_joined_75 : decode cX5_joined 75 = .ok (.aload_n 0, 1) := by decide +kernel
theorem dX5_joined_76 : decode cX5_joined 76 = .ok (.iload_n 1, 1) := by decide +kernel
theorem dX5_joined_77 : decode cX5_joined 77 = .ok (.invokevirtual 129, 3) := by decide +kernel
theorem dX5_joined_80 : decode cX5_joined 80 = .ok (.aload_n 0, 1) := by decide +kernel
theorem dX5_joined_81 : decode cX5_joined 81 = .ok (.iload_n 2, 1) := by decide +kernel
theorem dX5_joined_82 : decode cX5_joined 82 = .ok (.invokevirtual 129, 3) := by decide +kernel
theorem dX5_joined_85 : decode cX5_joined 85 = .ok (.if_icmp .ne 7, 3) := by decide +kernel
theorem dX5_joined_88 : decode cX5_joined 88 = .ok (.iconst 1, 1) := by decide +kernel
theorem dX5_joined_89 : decode cX5_joined 89 = .ok (.goto 4, 3) := by decide +kernel
theorem dX5_joined_92 : decode cX5_joined 92 = .ok (.iconst 0, 1) := by decide +kernel
theorem dX5_joined_93 : decode cX5_joined 93 = .ok (.iadd, 1) := by decide +kernel
theorem dX5_joined_94 : decode cX5_joined 94 = .ok (.istore 4, 2) := by decide +kernel
theorem dX5_joined_96 : decode cX5_joined 96 = .ok (.iinc 5 1, 3) := by decide +kernel
theorem dX5_joined_99 : decode cX5_joined 99 = .ok (.goto (-62), 3) := by decide +kernel
theorem dX5_joined_102 : decode cX5_joined 102 = .ok (.iload 4, 2) := by decide +kernel
theorem dX5_joined_104 : decode cX5_joined 104 = .ok (.ireturn, 1) := by decide +kernel
theorem dX5_sized_0 : decode cX5_sized 0 = .ok (.aload_n 0, 1) := by decide +kernel
theorem dX5_sized_1 : decode cX5_sized 1 = .ok (.iconst 0, 1) := by decide +kernel
theorem dX5_sized_2 : decode cX5_sized 2 = .ok (.putfield 58, 3) := by decide +kernel
theorem dX5_sized_5 : decode cX5_sized 5 = .ok (.aload_n 0, 1) := by decide +kernel
theorem dX5_sized_6 : decode cX5_sized 6 = .ok (.iload_n 1, 1) := by decide +kernel
theorem dX5_sized_7 : decode cX5_sized 7 = .ok (.invokevirtual 155, 3) := by decide +kernel
theorem dX5_sized_10 : decode cX5_sized 10 = .ok (.ifCond .eq 21, 3) := by decide +kernel
theorem dX5_sized_13 : decode cX5_sized 13 = .ok (.iload_n 2, 1) := by decide +kernel
theorem dX5_sized_14 : decode cX5_sized 14 = .ok (.iconst 0, 1) := by decide +kernel
theorem dX5_sized_15 : decode cX5_sized 15 = .ok (.bipush 25, 2) := by decide +kernel
theorem dX5_sized_17 : decode cX5_sized 17 = .ok (.invokestatic 81, 3) := by decide +kernel
theorem dX5_sized_20 : decode cX5_sized 20 = .ok (.ifCond .eq 11, 3) := by decide +kernel
theorem dX5_sized_23 : decode cX5_sized 23 = .ok (.aload_n 0, 1) := by decide +kernel
theorem dX5_sized_24 : decode cX5_sized 24 = .ok (.iload_n 3, 1) := by decide +kernel
theorem dX5_sized_25 : decode cX5_sized 25 = .ok (.invokevirtual 167, 3) := by decide +kernel
theorem dX5_sized_28 : decode cX5_sized 28 = .ok (.ifCond .ne 5, 3) := by decide +kernel
theorem dX5_sized_31 : decode cX5_sized 31 = .ok (.iconst (-1), 1) := by decide +kernel
theorem dX5_sized_32 : decode cX5_sized 32 = .ok (.ireturn, 1) := by decide +kernel
theorem dX5_sized_33 : decode cX5_sized 33 = .ok (.iconst 0, 1) := by decide +kernel
theorem dX5_sized_34 : decode cX5_sized 34 = .ok (.istore 4, 2) := by decide +kernel
theorem dX5_sized_36 : decode cX5_sized 36 = .ok (.iconst 0, 1) := by decide +kernel
theorem dX5_sized_37 : decode cX5_sized 37 = .ok (.istore 5, 2) := by decide +kernel
theorem dX5_sized_39 : decode cX5_sized 39 = .ok (.iload 5, 2) := by decide +kernel
theorem dX5_sized_41 : decode cX5_sized 41 = .ok (.iconst 1, 1) := by decide +kernel
theorem dX5_sized_42 : decode cX5_sized 42 = .ok (.aload_n 0, 1) := by decide +kernel
theorem dX5_sized_43 : decode cX5_sized 43 = .ok (.invokevirtual 85, 3) := by decide +kernel
theorem dX5_sized_46 : decode cX5_sized 46 = .ok (.ishl, 1) := by decide +kernel
theorem dX5_sized_47 : decode cX5_sized 47 = .ok (.if_icmp .ge 47, 3) := by decide +kernel
theorem dX5_sized_50 : decode cX5_sized 50 = .ok (.iload 5, 2) := by decide +kernel
theorem dX5_sized_52 : decode cX5_sized 52 = .ok (.invokestatic 164, 3) := by decide +kernel
theorem dX5_sized_55 : decode cX5_sized 55 = .ok (.iload_n 3, 1) := by decide +kernel
theorem dX5_sized_56 : decode cX5_sized 56 = .ok (.if_icmp .ne 32, 3) := by decide +kernel
theorem dX5_sized_59 : decode cX5_sized 59 = .ok (.aload_n 0, 1) := by decide +kernel
theorem dX5_sized_60 : decode cX5_sized 60 = .ok (.iload 5, 2) := by decide +kernel
theorem dX5_sized_62 : decode cX5_sized 62 = .ok (.invokevirtual 132, 3) := by decide +kernel
theorem dX5_sized_65 : decode cX5_sized 65 = .ok (.iload 4, 2) := by decide +kernel
theorem dX5_sized_67 : decode cX5_sized 67 = .ok (.aload_n 0, 1) := by decide +kernel
theorem dX5_sized_68 : decode cX5_sized 68 = .ok (.aload_n 0, 1) := by decide +kernel
theorem dX5_sized_69 : decode cX5_sized 69 = .ok (.iload_n 1, 1) := by decide +kernel
theorem dX5_sized_70 : decode cX5_sized 70 = .ok (.invokevirtual 129, 3) := by decide +kernel
theorem dX5_sized_73 : decode cX5_sized 73 = .ok (.invokevirtual 161, 3) := by decide +kernel
theorem dX5_sized_76 : decode cX5_sized 76 = .ok (.iload_n 2, 1) := by decide +kernel
theorem dX5_sized_77 : decode cX5_sized 77 = .ok (.if_icmp .ne 7, 3) := by decide +kernel
theorem dX5_sized_80 : decode cX5_sized 80 = .ok (.iconst 1, 1) := by decide +kernel
theorem dX5_sized_81 : decode cX5_sized 81 = .ok (.goto 4, 3) := by decide +kernel
theorem dX5_sized_84 : decode cX5_sized 84 = .ok (.iconst 0, 1) := by decide +kernel
theorem dX5_sized_85 : decode cX5_sized 85 = .ok (.iadd, 1) := by decide +kernel
theorem dX5_sized_86 : decode cX5_sized 86 = .ok (.istore 4, 2) := by decide +kernel
theorem dX5_sized_88 : decode cX5_sized 88 = .ok (.iinc 5 1, 3) := by decide +kernel
theorem dX5_sized_91 : decode cX5_sized 91 = .ok (.goto (-52), 3) := by decide +kernel
theorem dX5_sized_94 : decode cX5_sized 94 = .ok (.iload 4, 2) := by decide +kernel
theorem dX5_sized_96 : decode cX5_sized 96 = .ok (.ireturn, 1) := by decide +kernel
theorem dX5_heapSum_0 : decode cX5_heapSum 0 = .ok (.aload_n 0, 1) := by decide +kernel
theorem dX5_heapSum_1 : decode cX5_heapSum 1 = .ok (.iconst 0, 1) := by decide +kernel
theorem dX5_heapSum_2 : decode cX5_heapSum 2 = .ok (.putfield 58, 3) := by decide +kernel
theorem dX5_heapSum_5 : decode cX5_heapSum 5 = .ok (.aload_n 0, 1) := by decide +kernel
theorem dX5_heapSum_6 : decode cX5_heapSum 6 = .ok (.iload_n 1, 1) := by decide +kernel
theorem dX5_heapSum_7 : decode cX5_heapSum 7 = .ok (.invokevirtual 167, 3) := by decide +kernel
theorem dX5_heapSum_10 : decode cX5_heapSum 10 = .ok (.ifCond .ne 5, 3) := by decide +kernel
theorem dX5_heapSum_13 : decode cX5_heapSum 13 = .ok (.iconst (-1), 1) := by decide +kernel
theorem dX5_heapSum_14 : decode cX5_heapSum 14 = .ok (.ireturn, 1) := by decide +kernel
theorem dX5_heapSum_15 : decode cX5_heapSum 15 = .ok (.iconst 0, 1) := by decide +kernel
theorem dX5_heapSum_16 : decode cX5_heapSum 16 = .ok (.istore_n 2, 1) := by decide +kernel
theorem dX5_heapSum_17 : decode cX5_heapSum 17 = .ok (.iconst 0, 1) := by decide +kernel
theorem dX5_heapSum_18 : decode cX5_heapSum 18 = .ok (.istore_n 3, 1) := by decide +kernel
theorem dX5_heapSum_19 : decode cX5_heapSum 19 = .ok (.iload_n 3, 1) := by decide +kernel
theorem dX5_heapSum_20 : decode cX5_heapSum 20 = .ok (.iconst 1, 1) := by decide +kernel
theorem dX5_heapSum_21 : decode cX5_heapSum 21 = .ok (.aload_n 0, 1) := by decide +kernel
theorem dX5_heapSum_22 : decode cX5_heapSum 22 = .ok (.invokevirtual 85, 3) := by decide +kernel
theorem dX5_heapSum_25 : decode cX5_heapSum 25 = .ok (.ishl, 1) := by decide +kernel
theorem dX5_heapSum_26 : decode cX5_heapSum 26 = .ok (.if_icmp .ge 29, 3) := by decide +kernel
theorem dX5_heapSum_29 : decode cX5_heapSum 29 = .ok (.iload_n 3, 1) := by decide +kernel
theorem dX5_heapSum_30 : decode cX5_heapSum 30 = .ok (.invokestatic 164, 3) := by decide +kernel
theorem dX5_heapSum_33 : decode cX5_heapSum 33 = .ok (.iload_n 1, 1) := by decide +kernel
theorem dX5_heapSum_34 : decode cX5_heapSum 34 = .ok (.if_icmp .ne 15, 3) := by decide +kernel
theorem dX5_heapSum_37 : decode cX5_heapSum 37 = .ok (.aload_n 0, 1) := by decide +kernel
theorem dX5_heapSum_38 : decode cX5_heapSum 38 = .ok (.iload_n 3, 1) := by decide +kernel
theorem dX5_heapSum_39 : decode cX5_heapSum 39 = .ok (.invokevirtual 132, 3) := by decide +kernel
theorem dX5_heapSum_42 : decode cX5_heapSum 42 = .ok (.iload_n 2, 1) := by decide +kernel
theorem dX5_heapSum_43 : decode cX5_heapSum 43 = .ok (.aload_n 0, 1) := by decide +kernel
theorem dX5_heapSum_44 : decode cX5_heapSum 44 = .ok (.invokevirtual 158, 3) := by decide +kernel
theorem dX5_heapSum_47 : decode cX5_heapSum 47 = .ok (.iadd, 1) := by decide +kernel
theorem dX5_heapSum_48 : decode cX5_heapSum 48 = .ok (.istore_n 2, 1) := by decide +kernel
theorem dX5_heapSum_49 : decode cX5_heapSum 49 = .ok (.iinc 3 1, 3) := by decide +kernel
theorem dX5_heapSum_52 : decode cX5_heapSum 52 = .ok (.goto (-33), 3) := by decide +kernel
theorem dX5_heapSum_55 : decode cX5_heapSum 55 = .ok (.iload_n 2, 1) := by decide +kernel
theorem dX5_heapSum_56 : decode cX5_heapSum 56 = .ok (.ireturn, 1) := by decide +kernel
theorem dX5_chance_0 : decode cX5_chance 0 = .ok (.aload_n 0, 1) := by decide +kernel
theorem dX5_chance_1 : decode cX5_chance 1 = .ok (.iconst 0, 1) := by decide +kernel
theorem dX5_chance_2 : decode cX5_chance 2 = .ok (.putfield 58, 3) := by decide +kernel
theorem dX5_chance_5 : decode cX5_chance 5 = .ok (.iload_n 1, 1) := by decide +kernel
theorem dX5_chance_6 : decode cX5_chance 6 = .ok (.iconst 0, 1) := by decide +kernel
theorem dX5_chance_7 : decode cX5_chance 7 = .ok (.iconst 3, 1) := by decide +kernel
theorem dX5_chance_8 : decode cX5_chance 8 = .ok (.invokestatic 81, 3) := by decide +kernel
theorem dX5_chance_11 : decode cX5_chance 11 = .ok (.ifCond .eq 22, 3) := by decide +kernel
theorem dX5_chance_14 : decode cX5_chance 14 = .ok (.iload_n 3, 1) := by decide +kernel
theorem dX5_chance_15 : decode cX5_chance 15 = .ok (.iconst 1, 1) := by decide +kernel
theorem dX5_chance_16 : decode cX5_chance 16 = .ok (.bipush 9, 2) := by decide +kernel
theorem dX5_chance_18 : decode cX5_chance 18 = .ok (.invokestatic 81, 3) := by decide +kernel
theorem dX5_chance_21 : decode cX5_chance 21 = .ok (.ifCond .eq 12, 3) := by decide +kernel
theorem dX5_chance_24 : decode cX5_chance 24 = .ok (.iload_n 2, 1) := by decide +kernel
theorem dX5_chance_25 : decode cX5_chance 25 = .ok (.iconst 0, 1) := by decide +kernel
theorem dX5_chance_26 : decode cX5_chance 26 = .ok (.iload_n 3, 1) := by decide +kernel
theorem dX5_chance_27 : decode cX5_chance 27 = .ok (.invokestatic 81, 3) := by decide +kernel
theorem dX5_chance_30 : decode cX5_chance 30 = .ok (.ifCond .ne 7, 3) := by decide +kernel
theorem dX5_chance_33 : decode cX5_chance 33 = .ok (.ldc2_w 173, 3) := by decide +kernel
theorem dX5_chance_36 : decode cX5_chance 36 = .ok (.lreturn, 1) := by decide +kernel
theorem dX5_chance_37 : decode cX5_chance 37 = .ok (.aload_n 0, 1) := by decide +kernel
theorem dX5_chance_38 : decode cX5_chance 38 = .ok (.invokevirtual 85, 3) := by decide +kernel
theorem dX5_chance_41 : decode cX5_chance 41 = .ok (.istore 4, 2) := by decide +kernel
theorem dX5_chance_43 : decode cX5_chance 43 = .ok (.lconst 0, 1) := by decide +kernel
theorem dX5_chance_44 : decode cX5_chance 44 = .ok (.lstore 5, 2) := by decide +kernel
theorem dX5_chance_46 : decode cX5_chance 46 = .ok (.iconst 0, 1) := by decide +kernel
theorem dX5_chance_47 : decode cX5_chance 47 = .ok (.istore 7, 2) := by decide +kernel
theorem dX5_chance_49 : decode cX5_chance 49 = .ok (.iload 7, 2) := by decide +kernel
theorem dX5_chance_51 : decode cX5_chance 51 = .ok (.iload 4, 2) := by decide +kernel
theorem dX5_chance_53 : decode cX5_chance 53 = .ok (.if_icmp .gt 63, 3) := by decide +kernel
theorem dX5_chance_56 : decode cX5_chance 56 = .ok (.aload_n 0, 1) := by decide +kernel
theorem dX5_chance_57 : decode cX5_chance 57 = .ok (.iload_n 1, 1) := by decide +kernel
theorem dX5_chance_58 : decode cX5_chance 58 = .ok (.iload 7, 2) := by decide +kernel
theorem dX5_chance_60 : decode cX5_chance 60 = .ok (.invokevirtual 170, 3) := by decide +kernel
theorem dX5_chance_63 : decode cX5_chance 63 = .ok (.i2l, 1) := by decide +kernel
theorem dX5_chance_64 : decode cX5_chance 64 = .ok (.lstore 8, 2) := by decide +kernel
theorem dX5_chance_66 : decode cX5_chance 66 = .ok (.iconst 0, 1) := by decide +kernel
theorem dX5_chance_67 : decode cX5_chance 67 = .ok (.istore 10, 2) := by decide +kernel
theorem dX5_chance_69 : decode cX5_chance 69 = .ok (.iload 10, 2) := by decide +kernel
theorem dX5_chance_71 : decode cX5_chance 71 = .ok (.iload 4, 2) := by decide +kernel
theorem dX5_chance_73 : decode cX5_chance 73 = .ok (.if_icmp .ge 30, 3) := by decide +kernel
theorem dX5_chance_76 : decode cX5_chance 76 = .ok (.lload 8, 2) := by decide +kernel
theorem dX5_chance_78 : decode cX5_chance 78 = .ok (.iload 10, 2) := by decide +kernel
theorem dX5_chance_80 : decode cX5_chance 80 = .ok (.iload 7, 2) := by decide +kernel
theorem dX5_chance_82 : decode cX5_chance 82 = .ok (.if_icmp .ge 8, 3) := by decide +kernel
theorem dX5_chance_85 : decode cX5_chance 85 = .ok (.iload_n 2, 1) := by decide +kernel
theorem dX5_chance_86 : decode cX5_chance 86 = .ok (.i2l, 1) := by decide +kernel
theorem dX5_chance_87 : decode cX5_chance 87 = .ok (.goto 7, 3) := by decide +kernel
theorem dX5_chance_90 : decode cX5_chance 90 = .ok (.iload_n 3, 1) := by decide +kernel
theorem dX5_chance_91 : decode cX5_chance 91 = .ok (.iload_n 2, 1) := by decide +kernel
theorem dX5_chance_92 : decode cX5_chance 92 = .ok (.isub, 1) := by decide +kernel
theorem dX5_chance_93 : decode cX5_chance 93 = .ok (.i2l, 1) := by decide +kernel
theorem dX5_chance_94 : decode cX5_chance 94 = .ok (.lmul, 1) := by decide +kernel
theorem dX5_chance_95 : decode cX5_chance 95 = .ok (.lstore 8, 2) := by decide +kernel
theorem dX5_chance_97 : decode cX5_chance 97 = .ok (.iinc 10 1, 3) := by decide +kernel
theorem dX5_chance_100 : decode cX5_chance 100 = .ok (.goto (-31), 3) := by decide +kernel
theorem dX5_chance_103 : decode cX5_chance 103 = .ok (.lload 5, 2) := by decide +kernel
theorem dX5_chance_105 : decode cX5_chance 105 = .ok (.lload 8, 2) := by decide +kernel
theorem dX5_chance_107 : decode cX5_chance 107 = .ok (.ladd, 1) := by decide +kernel
theorem dX5_chance_108 : decode cX5_chance 108 = .ok (.lstore 5, 2) := by decide +kernel
theorem dX5_chance_110 : decode cX5_chance 110 = .ok (.iinc 7 1, 3) := by decide +kernel
theorem dX5_chance_113 : decode cX5_chance 113 = .ok (.goto (-64), 3) := by decide +kernel
theorem dX5_chance_116 : decode cX5_chance 116 = .ok (.lload 5, 2) := by decide +kernel
theorem dX5_chance_118 : decode cX5_chance 118 = .ok (.lreturn, 1) := by decide +kernel
theorem dX5_pivot_0 : decode cX5_pivot 0 = .ok (.aload_n 0, 1) := by decide +kernel
theorem dX5_pivot_1 : decode cX5_pivot 1 = .ok (.iconst 0, 1) := by decide +kernel
theorem dX5_pivot_2 : decode cX5_pivot 2 = .ok (.putfield 58, 3) := by decide +kernel
theorem dX5_pivot_5 : decode cX5_pivot 5 = .ok (.iload_n 1, 1) := by decide +kernel
theorem dX5_pivot_6 : decode cX5_pivot 6 = .ok (.iconst 0, 1) := by decide +kernel
theorem dX5_pivot_7 : decode cX5_pivot 7 = .ok (.iconst 3, 1) := by decide +kernel
theorem dX5_pivot_8 : decode cX5_pivot 8 = .ok (.invokestatic 81, 3) := by decide +kernel
theorem dX5_pivot_11 : decode cX5_pivot 11 = .ok (.ifCond .eq 17, 3) := by decide +kernel
theorem dX5_pivot_14 : decode cX5_pivot 14 = .ok (.iload_n 2, 1) := by decide +kernel
theorem dX5_pivot_15 : decode cX5_pivot 15 = .ok (.iconst 0, 1) := by decide +kernel
theorem dX5_pivot_16 : decode cX5_pivot 16 = .ok (.aload_n 0, 1) := by decide +kernel
theorem dX5_pivot_17 : decode cX5_pivot 17 = .ok (.invokevirtual 85, 3) := by decide +kernel
theorem dX5_pivot_20 : decode cX5_pivot 20 = .ok (.iconst 1, 1) := by decide +kernel
theorem dX5_pivot_21 : decode cX5_pivot 21 = .ok (.isub, 1) := by decide +kernel
theorem dX5_pivot_22 : decode cX5_pivot 22 = .ok (.invokestatic 81, 3) := by decide +kernel
theorem dX5_pivot_25 : decode cX5_pivot 25 = .ok (.ifCond .ne 5, 3) := by decide +kernel
theorem dX5_pivot_28 : decode cX5_pivot 28 = .ok (.iconst (-1), 1) := by decide +kernel
theorem dX5_pivot_29 : decode cX5_pivot 29 = .ok (.ireturn, 1) := by decide +kernel
theorem dX5_pivot_30 : decode cX5_pivot 30 = .ok (.aload_n 0, 1) := by decide +kernel
theorem dX5_pivot_31 : decode cX5_pivot 31 = .ok (.invokevirtual 138, 3) := by decide +kernel
theorem dX5_pivot_34 : decode cX5_pivot 34 = .ok (.iconst 0, 1) := by decide +kernel
theorem dX5_pivot_35 : decode cX5_pivot 35 = .ok (.istore_n 3, 1) := by decide +kernel
theorem dX5_pivot_36 : decode cX5_pivot 36 = .ok (.iconst 0, 1) := by decide +kernel
theorem dX5_pivot_37 : decode cX5_pivot 37 = .ok (.istore 4, 2) := by decide +kernel
theorem dX5_pivot_39 : decode cX5_pivot 39 = .ok (.iload 4, 2) := by decide +kernel
theorem dX5_pivot_41 : decode cX5_pivot 41 = .ok (.iconst 1, 1) := by decide +kernel
theorem dX5_pivot_42 : decode cX5_pivot 42 = .ok (.aload_n 0, 1) := by decide +kernel
theorem dX5_pivot_43 : decode cX5_pivot 43 = .ok (.invokevirtual 85, 3) := by decide +kernel
theorem dX5_pivot_46 : decode cX5_pivot 46 = .ok (.ishl, 1) := by decide +kernel
theorem dX5_pivot_47 : decode cX5_pivot 47 = .ok (.if_icmp .ge 51, 3) := by decide +kernel
theorem dX5_pivot_50 : decode cX5_pivot 50 = .ok (.iload_n 3, 1) := by decide +kernel
theorem dX5_pivot_51 : decode cX5_pivot 51 = .ok (.iload 4, 2) := by decide +kernel
theorem dX5_pivot_53 : decode cX5_pivot 53 = .ok (.iload_n 2, 1) := by decide +kernel
theorem dX5_pivot_54 : decode cX5_pivot 54 = .ok (.ishr, 1) := by decide +kernel
theorem dX5_pivot_55 : decode cX5_pivot 55 = .ok (.iconst 1, 1) := by decide +kernel
theorem dX5_pivot_56 : decode cX5_pivot 56 = .ok (.iand, 1) := by decide +kernel
theorem dX5_pivot_57 : decode cX5_pivot 57 = .ok (.iconst 1, 1) := by decide +kernel
theorem dX5_pivot_58 : decode cX5_pivot 58 = .ok (.if_icmp .ne 31, 3) := by decide +kernel
theorem dX5_pivot_61 : decode cX5_pivot 61 = .ok (.aload_n 0, 1) := by decide +kernel
theorem dX5_pivot_62 : decode cX5_pivot 62 = .ok (.iload 4, 2) := by decide +kernel
theorem dX5_pivot_64 : decode cX5_pivot 64 = .ok (.iload_n 1, 1) := by decide +kernel
theorem dX5_pivot_65 : decode cX5_pivot 65 = .ok (.invokevirtual 141, 3) := by decide +kernel
theorem dX5_pivot_68 : decode cX5_pivot 68 = .ok (.ifCond .eq 21, 3) := by decide +kernel
theorem dX5_pivot_71 : decode cX5_pivot 71 = .ok (.aload_n 0, 1) := by decide +kernel
theorem dX5_pivot_72 : decode cX5_pivot 72 = .ok (.iload 4, 2) := by decide +kernel
theorem dX5_pivot_74 : decode cX5_pivot 74 = .ok (.iconst 1, 1) := by decide +kernel
theorem dX5_pivot_75 : decode cX5_pivot 75 = .ok (.iload_n 2, 1) := by decide +kernel
theorem dX5_pivot_76 : decode cX5_pivot 76 = .ok (.ishl, 1) := by decide +kernel
theorem dX5_pivot_77 : decode cX5_pivot 77 = .ok (.isub, 1) := by decide +kernel
theorem dX5_pivot_78 : decode cX5_pivot 78 = .ok (.iload_n 1, 1) := by decide +kernel
theorem dX5_pivot_79 : decode cX5_pivot 79 = .ok (.invokevirtual 141, 3) := by decide +kernel
theorem dX5_pivot_82 : decode cX5_pivot 82 = .ok (.ifCond .ne 7, 3) := by decide +kernel
theorem dX5_pivot_85 : decode cX5_pivot 85 = .ok (.iconst 1, 1) := by decide +kernel
theorem dX5_pivot_86 : decode cX5_pivot 86 = .ok (.goto 4, 3) := by decide +kernel
theorem dX5_pivot_89 : decode cX5_pivot 89 = .ok (.iconst 0, 1) := by decide +kernel
theorem dX5_pivot_90 : decode cX5_pivot 90 = .ok (.iadd, 1) := by decide +kernel
theorem dX5_pivot_91 : decode cX5_pivot 91 = .ok (.istore_n 3, 1) := by decide +kernel
theorem dX5_pivot_92 : decode cX5_pivot 92 = .ok (.iinc 4 1, 3) := by decide +kernel
theorem dX5_pivot_95 : decode cX5_pivot 95 = .ok (.goto (-56), 3) := by decide +kernel
theorem dX5_pivot_98 : decode cX5_pivot 98 = .ok (.iload_n 3, 1) := by decide +kernel
theorem dX5_pivot_99 : decode cX5_pivot 99 = .ok (.ireturn, 1) := by decide +kernel
theorem dX5_first_0 : decode cX5_first 0 = .ok (.aload_n 0, 1) := by decide +kernel
theorem dX5_first_1 : decode cX5_first 1 = .ok (.iconst 0, 1) := by decide +kernel
theorem dX5_first_2 : decode cX5_first 2 = .ok (.putfield 58, 3) := by decide +kernel
theorem dX5_first_5 : decode cX5_first 5 = .ok (.iload_n 1, 1) := by decide +kernel
theorem dX5_first_6 : decode cX5_first 6 = .ok (.iconst 0, 1) := by decide +kernel
theorem dX5_first_7 : decode cX5_first 7 = .ok (.iconst 3, 1) := by decide +kernel
theorem dX5_first_8 : decode cX5_first 8 = .ok (.invokestatic 81, 3) := by decide +kernel
theorem dX5_first_11 : decode cX5_first 11 = .ok (.ifCond .eq 11, 3) := by decide +kernel
theorem dX5_first_14 : decode cX5_first 14 = .ok (.aload_n 0, 1) := by decide +kernel
theorem dX5_first_15 : decode cX5_first 15 = .ok (.iload_n 2, 1) := by decide +kernel
theorem dX5_first_16 : decode cX5_first 16 = .ok (.invokevirtual 167, 3) := by decide +kernel
theorem dX5_first_19 : decode cX5_first 19 = .ok (.ifCond .ne 5, 3) := by decide +kernel
theorem dX5_first_22 : decode cX5_first 22 = .ok (.iconst (-1), 1) := by decide +kernel
theorem dX5_first_23 : decode cX5_first 23 = .ok (.ireturn, 1) := by decide +kernel
theorem dX5_first_24 : decode cX5_first 24 = .ok (.aload_n 0, 1) := by decide +kernel
theorem dX5_first_25 : decode cX5_first 25 = .ok (.invokevirtual 138, 3) := by decide +kernel
theorem dX5_first_28 : decode cX5_first 28 = .ok (.iconst 0, 1) := by decide +kernel
theorem dX5_first_29 : decode cX5_first 29 = .ok (.istore_n 3, 1) := by decide +kernel
theorem dX5_first_30 : decode cX5_first 30 = .ok (.iload_n 3, 1) := by decide +kernel
theorem dX5_first_31 : decode cX5_first 31 = .ok (.iconst 1, 1) := by decide +kernel
theorem dX5_first_32 : decode cX5_first 32 = .ok (.aload_n 0, 1) := by decide +kernel
theorem dX5_first_33 : decode cX5_first 33 = .ok (.invokevirtual 85, 3) := by decide +kernel
theorem dX5_first_36 : decode cX5_first 36 = .ok (.ishl, 1) := by decide +kernel
theorem dX5_first_37 : decode cX5_first 37 = .ok (.if_icmp .ge 28, 3) := by decide +kernel
theorem dX5_first_40 : decode cX5_first 40 = .ok (.iload_n 3, 1) := by decide +kernel
theorem dX5_first_41 : decode cX5_first 41 = .ok (.invokestatic 164, 3) := by decide +kernel
theorem dX5_first_44 : decode cX5_first 44 = .ok (.iload_n 2, 1) := by decide +kernel
theorem dX5_first_45 : decode cX5_first 45 = .ok (.if_icmp .ne 14, 3) := by decide +kernel
theorem dX5_first_48 : decode cX5_first 48 = .ok (.aload_n 0, 1) := by decide +kernel
theorem dX5_first_49 : decode cX5_first 49 = .ok (.iload_n 3, 1) := by decide +kernel
theorem dX5_first_50 : decode cX5_first 50 = .ok (.iload_n 1, 1) := by decide +kernel
theorem dX5_first_51 : decode cX5_first 51 = .ok (.invokevirtual 141, 3) := by decide +kernel
theorem dX5_first_54 : decode cX5_first 54 = .ok (.ifCond .eq 5, 3) := by decide +kernel
theorem dX5_first_57 : decode cX5_first 57 = .ok (.iload_n 3, 1) := by decide +kernel
theorem dX5_first_58 : decode cX5_first 58 = .ok (.ireturn, 1) := by decide +kernel
theorem dX5_first_59 : decode cX5_first 59 = .ok (.iinc 3 1, 3) := by decide +kernel
theorem dX5_first_62 : decode cX5_first 62 = .ok (.goto (-32), 3) := by decide +kernel
theorem dX5_first_65 : decode cX5_first 65 = .ok (.bipush (-9), 2) := by decide +kernel
theorem dX5_first_67 : decode cX5_first 67 = .ok (.ireturn, 1) := by decide +kernel
theorem dX5_no_0 : decode cX5_no 0 = .ok (.aload_n 0, 1) := by decide +kernel
theorem dX5_no_1 : decode cX5_no 1 = .ok (.iload_n 1, 1) := by decide +kernel
theorem dX5_no_2 : decode cX5_no 2 = .ok (.putfield 175, 3) := by decide +kernel
theorem dX5_no_5 : decode cX5_no 5 = .ok (.iload_n 1, 1) := by decide +kernel
theorem dX5_no_6 : decode cX5_no 6 = .ok (.ireturn, 1) := by decide +kernel
theorem dX5_sheet_0 : decode cX5_sheet 0 = .ok (.aload_n 0, 1) := by decide +kernel
theorem dX5_sheet_1 : decode cX5_sheet 1 = .ok (.iconst 0, 1) := by decide +kernel
theorem dX5_sheet_2 : decode cX5_sheet 2 = .ok (.putfield 58, 3) := by decide +kernel
theorem dX5_sheet_5 : decode cX5_sheet 5 = .ok (.aload_n 0, 1) := by decide +kernel
theorem dX5_sheet_6 : decode cX5_sheet 6 = .ok (.iconst 0, 1) := by decide +kernel
theorem dX5_sheet_7 : decode cX5_sheet 7 = .ok (.putfield 175, 3) := by decide +kernel
theorem dX5_sheet_10 : decode cX5_sheet 10 = .ok (.iload_n 1, 1) := by decide +kernel
theorem dX5_sheet_11 : decode cX5_sheet 11 = .ok (.iconst 0, 1) := by decide +kernel
theorem dX5_sheet_12 : decode cX5_sheet 12 = .ok (.iconst 2, 1) := by decide +kernel
theorem dX5_sheet_13 : decode cX5_sheet 13 = .ok (.invokestatic 81, 3) := by decide +kernel
theorem dX5_sheet_16 : decode cX5_sheet 16 = .ok (.ifCond .eq 17, 3) := by decide +kernel
theorem dX5_sheet_19 : decode cX5_sheet 19 = .ok (.iload_n 2, 1) := by decide +kernel
theorem dX5_sheet_20 : decode cX5_sheet 20 = .ok (.iconst 0, 1) := by decide +kernel
theorem dX5_sheet_21 : decode cX5_sheet 21 = .ok (.iconst 1, 1) := by decide +kernel
theorem dX5_sheet_22 : decode cX5_sheet 22 = .ok (.invokestatic 81, 3) := by decide +kernel
theorem dX5_sheet_25 : decode cX5_sheet 25 = .ok (.ifCond .eq 8, 3) := by decide +kernel
theorem dX5_sheet_28 : decode cX5_sheet 28 = .ok (.iload_n 3, 1) := by decide +kernel
theorem dX5_sheet_29 : decode cX5_sheet 29 = .ok (.iconst 4, 1) := by decide +kernel
theorem dX5_sheet_30 : decode cX5_sheet 30 = .ok (.if_icmp .le 9, 3) := by decide +kernel
theorem dX5_sheet_33 : decode cX5_sheet 33 = .ok (.aload_n 0, 1) := by decide +kernel
theorem dX5_sheet_34 : decode cX5_sheet 34 = .ok (.iconst (-1), 1) := by decide +kernel
theorem dX5_sheet_35 : decode cX5_sheet 35 = .ok (.invokevirtual 178, 3) := by decide +kernel
theorem dX5_sheet_38 : decode cX5_sheet 38 = .ok (.ireturn, 1) := by decide +kernel
theorem dX5_sheet_39 : decode cX5_sheet 39 = .ok (.iload_n 3, 1) := by decide +kernel
theorem dX5_sheet_40 : decode cX5_sheet 40 = .ok (.ifCond .ge 10, 3) := by decide +kernel
theorem dX5_sheet_43 : decode cX5_sheet 43 = .ok (.aload_n 0, 1) := by decide +kernel
theorem dX5_sheet_44 : decode cX5_sheet 44 = .ok (.bipush (-15), 2) := by decide +kernel
theorem dX5_sheet_46 : decode cX5_sheet 46 = .ok (.invokevirtual 178, 3) := by decide +kernel
theorem dX5_sheet_49 : decode cX5_sheet 49 = .ok (.ireturn, 1) := by decide +kernel
theorem dX5_sheet_50 : decode cX5_sheet 50 = .ok (.aload_n 0, 1) := by decide +kernel
theorem dX5_sheet_51 : decode cX5_sheet 51 = .ok (.getfield 36, 3) := by decide +kernel
theorem dX5_sheet_54 : decode cX5_sheet 54 = .ok (.iload_n 1, 1) := by decide +kernel
theorem dX5_sheet_55 : decode cX5_sheet 55 = .ok (.iconst 1, 1) := by decide +kernel
theorem dX5_sheet_56 : decode cX5_sheet 56 = .ok (.bastore, 1) := by decide +kernel
theorem dX5_sheet_57 : decode cX5_sheet 57 = .ok (.aload_n 0, 1) := by decide +kernel
theorem dX5_sheet_58 : decode cX5_sheet 58 = .ok (.getfield 39, 3) := by decide +kernel
theorem dX5_sheet_61 : decode cX5_sheet 61 = .ok (.iload_n 1, 1) := by decide +kernel
theorem dX5_sheet_62 : decode cX5_sheet 62 = .ok (.iload_n 2, 1) := by decide +kernel
theorem dX5_sheet_63 : decode cX5_sheet 63 = .ok (.iastore, 1) := by decide +kernel
theorem dX5_sheet_64 : decode cX5_sheet 64 = .ok (.aload_n 0, 1) := by decide +kernel
theorem dX5_sheet_65 : decode cX5_sheet 65 = .ok (.getfield 42, 3) := by decide +kernel
theorem dX5_sheet_68 : decode cX5_sheet 68 = .ok (.iload_n 1, 1) := by decide +kernel
theorem dX5_sheet_69 : decode cX5_sheet 69 = .ok (.iload_n 3, 1) := by decide +kernel
theorem dX5_sheet_70 : decode cX5_sheet 70 = .ok (.iastore, 1) := by decide +kernel
theorem dX5_sheet_71 : decode cX5_sheet 71 = .ok (.iconst 0, 1) := by decide +kernel
theorem dX5_sheet_72 : decode cX5_sheet 72 = .ok (.istore 4, 2) := by decide +kernel
theorem dX5_sheet_74 : decode cX5_sheet 74 = .ok (.iload 4, 2) := by decide +kernel
theorem dX5_sheet_76 : decode cX5_sheet 76 = .ok (.iconst 4, 1) := by decide +kernel
theorem dX5_sheet_77 : decode cX5_sheet 77 = .ok (.if_icmp .ge 22, 3) := by decide +kernel
theorem dX5_sheet_80 : decode cX5_sheet 80 = .ok (.aload_n 0, 1) := by decide +kernel
theorem dX5_sheet_81 : decode cX5_sheet 81 = .ok (.getfield 45, 3) := by decide +kernel
theorem dX5_sheet_84 : decode cX5_sheet 84 = .ok (.iconst 4, 1) := by decide +kernel
theorem dX5_sheet_85 : decode cX5_sheet 85 = .ok (.iload_n 1, 1) := by decide +kernel
theorem dX5_sheet_86 : decode cX5_sheet 86 = .ok (.imul, 1) := by decide +kernel
theorem dX5_sheet_87 : decode cX5_sheet 87 = .ok (.iload 4, 2) := by decide +kernel
theorem dX5_sheet_89 : decode cX5_sheet 89 = .ok (.iadd, 1) := by decide +kernel
theorem dX5_sheet_90 : decode cX5_sheet 90 = .ok (.bipush (-9), 2) := by decide +kernel
theorem dX5_sheet_92 : decode cX5_sheet 92 = .ok (.iastore, 1) := by decide +kernel
theorem dX5_sheet_93 : decode cX5_sheet 93 = .ok (.iinc 4 1, 3) := by decide +kernel
theorem dX5_sheet_96 : decode cX5_sheet 96 = .ok (.goto (-22), 3) := by decide +kernel
theorem dX5_sheet_99 : decode cX5_sheet 99 = .ok (.iconst 1, 1) := by decide +kernel
theorem dX5_sheet_100 : decode cX5_sheet 100 = .ok (.ireturn, 1) := by decide +kernel
theorem dX5_row_0 : decode cX5_row 0 = .ok (.aload_n 0, 1) := by decide +kernel
theorem dX5_row_1 : decode cX5_row 1 = .ok (.iconst 0, 1) := by decide +kernel
theorem dX5_row_2 : decode cX5_row 2 = .ok (.putfield 58, 3) := by decide +kernel
theorem dX5_row_5 : decode cX5_row 5 = .ok (.aload_n 0, 1) := by decide +kernel
theorem dX5_row_6 : decode cX5_row 6 = .ok (.iconst 0, 1) := by decide +kernel
theorem dX5_row_7 : decode cX5_row 7 = .ok (.putfield 175, 3) := by decide +kernel
theorem dX5_row_10 : decode cX5_row 10 = .ok (.iload_n 1, 1) := by decide +kernel
theorem dX5_row_11 : decode cX5_row 11 = .ok (.iconst 0, 1) := by decide +kernel
theorem dX5_row_12 : decode cX5_row 12 = .ok (.iconst 2, 1) := by decide +kernel
theorem dX5_row_13 : decode cX5_row 13 = .ok (.invokestatic 81, 3) := by decide +kernel
theorem dX5_row_16 : decode cX5_row 16 = .ok (.ifCond .eq 9, 3) := by decide +kernel
theorem dX5_row_19 : decode cX5_row 19 = .ok (.iload_n 3, 1) := by decide +kernel
theorem dX5_row_20 : decode cX5_row 20 = .ok (.bipush 40, 2) := by decide +kernel
theorem dX5_row_22 : decode cX5_row 22 = .ok (.if_icmp .le 9, 3) := by decide +kernel
theorem dX5_row_25 : decode cX5_row 25 = .ok (.aload_n 0, 1) := by decide +kernel
theorem dX5_row_26 : decode cX5_row 26 = .ok (.iconst (-1), 1) := by decide +kernel
theorem dX5_row_27 : decode cX5_row 27 = .ok (.invokevirtual 178, 3) := by decide +kernel
theorem dX5_row_30 : decode cX5_row 30 = .ok (.ireturn, 1) := by decide +kernel
theorem dX5_row_31 : decode cX5_row 31 = .ok (.aload_n 0, 1) := by decide +kernel
theorem dX5_row_32 : decode cX5_row 32 = .ok (.getfield 36, 3) := by decide +kernel
theorem dX5_row_35 : decode cX5_row 35 = .ok (.iload_n 1, 1) := by decide +kernel
theorem dX5_row_36 : decode cX5_row 36 = .ok (.baload, 1) := by decide +kernel
theorem dX5_row_37 : decode cX5_row 37 = .ok (.ifCond .ne 10, 3) := by decide +kernel
theorem dX5_row_40 : decode cX5_row 40 = .ok (.aload_n 0, 1) := by decide +kernel
theorem dX5_row_41 : decode cX5_row 41 = .ok (.bipush (-11), 2) := by decide +kernel
theorem dX5_row_43 : decode cX5_row 43 = .ok (.invokevirtual 178, 3) := by decide +kernel
theorem dX5_row_46 : decode cX5_row 46 = .ok (.ireturn, 1) := by decide +kernel
theorem dX5_row_47 : decode cX5_row 47 = .ok (.iload_n 2, 1) := by decide +kernel
theorem dX5_row_48 : decode cX5_row 48 = .ok (.iconst 0, 1) := by decide +kernel
theorem dX5_row_49 : decode cX5_row 49 = .ok (.aload_n 0, 1) := by decide +kernel
theorem dX5_row_50 : decode cX5_row 50 = .ok (.getfield 42, 3) := by decide +kernel
theorem dX5_row_53 : decode cX5_row 53 = .ok (.iload_n 1, 1) := by decide +kernel
theorem dX5_row_54 : decode cX5_row 54 = .ok (.iaload, 1) := by decide +kernel
theorem dX5_row_55 : decode cX5_row 55 = .ok (.iconst 1, 1) := by decide +kernel
theorem dX5_row_56 : decode cX5_row 56 = .ok (.isub, 1) := by decide +kernel
theorem dX5_row_57 : decode cX5_row 57 = .ok (.invokestatic 81, 3) := by decide +kernel
theorem dX5_row_60 : decode cX5_row 60 = .ok (.ifCond .ne 10, 3) := by decide +kernel
theorem dX5_row_63 : decode cX5_row 63 = .ok (.aload_n 0, 1) := by decide +kernel
theorem dX5_row_64 : decode cX5_row 64 = .ok (.bipush (-12), 2) := by decide +kernel
theorem dX5_row_66 : decode cX5_row 66 = .ok (.invokevirtual 178, 3) := by decide +kernel
theorem dX5_row_69 : decode cX5_row 69 = .ok (.ireturn, 1) := by decide +kernel
theorem dX5_row_70 : decode cX5_row 70 = .ok (.iload_n 3, 1) := by decide +kernel
theorem dX5_row_71 : decode cX5_row 71 = .ok (.ifCond .ge 10, 3) := by decide +kernel
theorem dX5_row_74 : decode cX5_row 74 = .ok (.aload_n 0, 1) := by decide +kernel
theorem dX5_row_75 : decode cX5_row 75 = .ok (.bipush (-15), 2) := by decide +kernel
theorem dX5_row_77 : decode cX5_row 77 = .ok (.invokevirtual 178, 3) := by decide +kernel
theorem dX5_row_80 : decode cX5_row 80 = .ok (.ireturn, 1) := by decide +kernel
theorem dX5_row_81 : decode cX5_row 81 = .ok (.aload_n 0, 1) := by decide +kernel
theorem dX5_row_82 : decode cX5_row 82 = .ok (.getfield 45, 3) := by decide +kernel
theorem dX5_row_85 : decode cX5_row 85 = .ok (.iconst 4, 1) := by decide +kernel
theorem dX5_row_86 : decode cX5_row 86 = .ok (.iload_n 1, 1) := by decide +kernel
theorem dX5_row_87 : decode cX5_row 87 = .ok (.imul, 1) := by decide +kernel
theorem dX5_row_88 : decode cX5_row 88 = .ok (.iload_n 2, 1) := by decide +kernel
theorem dX5_row_89 : decode cX5_row 89 = .ok (.iadd, 1) := by decide +kernel
theorem dX5_row_90 : decode cX5_row 90 = .ok (.iload_n 3, 1) := by decide +kernel
theorem dX5_row_91 : decode cX5_row 91 = .ok (.iastore, 1) := by decide +kernel
theorem dX5_row_92 : decode cX5_row 92 = .ok (.iconst 0, 1) := by decide +kernel
theorem dX5_row_93 : decode cX5_row 93 = .ok (.istore 4, 2) := by decide +kernel
theorem dX5_row_95 : decode cX5_row 95 = .ok (.iload 4, 2) := by decide +kernel
theorem dX5_row_97 : decode cX5_row 97 = .ok (.bipush 40, 2) := by decide +kernel
theorem dX5_row_99 : decode cX5_row 99 = .ok (.if_icmp .ge 28, 3) := by decide +kernel
theorem dX5_row_102 : decode cX5_row 102 = .ok (.aload_n 0, 1) := by decide +kernel
theorem dX5_row_103 : decode cX5_row 103 = .ok (.getfield 48, 3) := by decide +kernel
theorem dX5_row_106 : decode cX5_row 106 = .ok (.sipush 160, 3) := by decide +kernel
theorem dX5_row_109 : decode cX5_row 109 = .ok (.iload_n 1, 1) := by decide +kernel
theorem dX5_row_110 : decode cX5_row 110 = .ok (.imul, 1) := by decide +kernel
theorem dX5_row_111 : decode cX5_row 111 = .ok (.bipush 40, 2) := by decide +kernel
theorem dX5_row_113 : decode cX5_row 113 = .ok (.iload_n 2, 1) := by decide +kernel
theorem dX5_row_114 : decode cX5_row 114 = .ok (.imul, 1) := by decide +kernel
theorem dX5_row_115 : decode cX5_row 115 = .ok (.iadd, 1) := by decide +kernel
theorem dX5_row_116 : decode cX5_row 116 = .ok (.iload 4, 2) := by decide +kernel
theorem dX5_row_118 : decode cX5_row 118 = .ok (.iadd, 1) := by decide +kernel
theorem dX5_row_119 : decode cX5_row 119 = .ok (.iconst 0, 1) := by decide +kernel
theorem dX5_row_120 : decode cX5_row 120 = .ok (.iastore, 1) := by decide +kernel
theorem dX5_row_121 : decode cX5_row 121 = .ok (.iinc 4 1, 3) := by decide +kernel
theorem dX5_row_124 : decode cX5_row 124 = .ok (.goto (-29), 3) := by decide +kernel
theorem dX5_row_127 : decode cX5_row 127 = .ok (.iconst 1, 1) := by decide +kernel
theorem dX5_row_128 : decode cX5_row 128 = .ok (.ireturn, 1) := by decide +kernel
theorem dX5_put_0 : decode cX5_put 0 = .ok (.aload_n 0, 1) := by decide +kernel
theorem dX5_put_1 : decode cX5_put 1 = .ok (.iconst 0, 1) := by decide +kernel
theorem dX5_put_2 : decode cX5_put 2 = .ok (.putfield 58, 3) := by decide +kernel
theorem dX5_put_5 : decode cX5_put 5 = .ok (.aload_n 0, 1) := by decide +kernel
theorem dX5_put_6 : decode cX5_put 6 = .ok (.iconst 0, 1) := by decide +kernel
theorem dX5_put_7 : decode cX5_put 7 = .ok (.putfield 175, 3) := by decide +kernel
theorem dX5_put_10 : decode cX5_put 10 = .ok (.iload_n 1, 1) := by decide +kernel
theorem dX5_put_11 : decode cX5_put 11 = .ok (.iconst 0, 1) := by decide +kernel
theorem dX5_put_12 : decode cX5_put 12 = .ok (.iconst 2, 1) := by decide +kernel
theorem dX5_put_13 : decode cX5_put 13 = .ok (.invokestatic 81, 3) := by decide +kernel
theorem dX5_put_16 : decode cX5_put 16 = .ok (.ifCond .eq 12, 3) := by decide +kernel
theorem dX5_put_19 : decode cX5_put 19 = .ok (.iload_n 2, 1) := by decide +kernel
theorem dX5_put_20 : decode cX5_put 20 = .ok (.iconst 0, 1) := by decide +kernel
theorem dX5_put_21 : decode cX5_put 21 = .ok (.iconst 1, 1) := by decide +kernel
theorem dX5_put_22 : decode cX5_put 22 = .ok (.invokestatic 81, 3) := by decide +kernel
theorem dX5_put_25 : decode cX5_put 25 = .ok (.ifCond .ne 9, 3) := by decide +kernel
theorem dX5_put_28 : decode cX5_put 28 = .ok (.aload_n 0, 1) := by decide +kernel
theorem dX5_put_29 : decode cX5_put 29 = .ok (.iconst (-1), 1) := by decide +kernel
theorem dX5_put_30 : decode cX5_put 30 = .ok (.invokevirtual 178, 3) := by decide +kernel
theorem dX5_put_33 : decode cX5_put 33 = .ok (.ireturn, 1) := by decide +kernel
theorem dX5_put_34 : decode cX5_put 34 = .ok (.aload_n 0, 1) := by decide +kernel
theorem dX5_put_35 : decode cX5_put 35 = .ok (.getfield 36, 3) := by decide +kernel
theorem dX5_put_38 : decode cX5_put 38 = .ok (.iload_n 1, 1) := by decide +kernel
theorem dX5_put_39 : decode cX5_put 39 = .ok (.baload, 1) := by decide +kernel
theorem dX5_put_40 : decode cX5_put 40 = .ok (.ifCond .ne 10, 3) := by decide +kernel
theorem dX5_put_43 : decode cX5_put 43 = .ok (.aload_n 0, 1) := by decide +kernel
theorem dX5_put_44 : decode cX5_put 44 = .ok (.bipush (-11), 2) := by decide +kernel
theorem dX5_put_46 : decode cX5_put 46 = .ok (.invokevirtual 178, 3) := by decide +kernel
theorem dX5_put_49 : decode cX5_put 49 = .ok (.ireturn, 1) := by decide +kernel
theorem dX5_put_50 : decode cX5_put 50 = .ok (.aload_n 0, 1) := by decide +kernel
theorem dX5_put_51 : decode cX5_put 51 = .ok (.getfield 39, 3) := by decide +kernel
theorem dX5_put_54 : decode cX5_put 54 = .ok (.iload_n 1, 1) := by decide +kernel
theorem dX5_put_55 : decode cX5_put 55 = .ok (.iaload, 1) := by decide +kernel
theorem dX5_put_56 : decode cX5_put 56 = .ok (.iload_n 2, 1) := by decide +kernel
theorem dX5_put_57 : decode cX5_put 57 = .ok (.if_icmp .eq 10, 3) := by decide +kernel
theorem dX5_put_60 : decode cX5_put 60 = .ok (.aload_n 0, 1) := by decide +kernel
theorem dX5_put_61 : decode cX5_put 61 = .ok (.bipush (-13), 2) := by decide +kernel
theorem dX5_put_63 : decode cX5_put 63 = .ok (.invokevirtual 178, 3) := by decide +kernel
theorem dX5_put_66 : decode cX5_put 66 = .ok (.ireturn, 1) := by decide +kernel
theorem dX5_put_67 : decode cX5_put 67 = .ok (.iload_n 3, 1) := by decide +kernel
theorem dX5_put_68 : decode cX5_put 68 = .ok (.iconst 0, 1) := by decide +kernel
theorem dX5_put_69 : decode cX5_put 69 = .ok (.aload_n 0, 1) := by decide +kernel
theorem dX5_put_70 : decode cX5_put 70 = .ok (.getfield 42, 3) := by decide +kernel
theorem dX5_put_73 : decode cX5_put 73 = .ok (.iload_n 1, 1) := by decide +kernel
theorem dX5_put_74 : decode cX5_put 74 = .ok (.iaload, 1) := by decide +kernel
theorem dX5_put_75 : decode cX5_put 75 = .ok (.iconst 1, 1) := by decide +kernel
theorem dX5_put_76 : decode cX5_put 76 = .ok (.isub, 1) := by decide +kernel
theorem dX5_put_77 : decode cX5_put 77 = .ok (.invokestatic 81, 3) := by decide +kernel
theorem dX5_put_80 : decode cX5_put 80 = .ok (.ifCond .ne 10, 3) := by decide +kernel
theorem dX5_put_83 : decode cX5_put 83 = .ok (.aload_n 0, 1) := by decide +kernel
theorem dX5_put_84 : decode cX5_put 84 = .ok (.bipush (-12), 2) := by decide +kernel
theorem dX5_put_86 : decode cX5_put 86 = .ok (.invokevirtual 178, 3) := by decide +kernel
theorem dX5_put_89 : decode cX5_put 89 = .ok (.ireturn, 1) := by decide +kernel
theorem dX5_put_90 : decode cX5_put 90 = .ok (.aload_n 0, 1) := by decide +kernel
theorem dX5_put_91 : decode cX5_put 91 = .ok (.getfield 45, 3) := by decide +kernel
theorem dX5_put_94 : decode cX5_put 94 = .ok (.iconst 4, 1) := by decide +kernel
theorem dX5_put_95 : decode cX5_put 95 = .ok (.iload_n 1, 1) := by decide +kernel
theorem dX5_put_96 : decode cX5_put 96 = .ok (.imul, 1) := by decide +kernel
theorem dX5_put_97 : decode cX5_put 97 = .ok (.iload_n 3, 1) := by decide +kernel
theorem dX5_put_98 : decode cX5_put 98 = .ok (.iadd, 1) := by decide +kernel
theorem dX5_put_99 : decode cX5_put 99 = .ok (.iaload, 1) := by decide +kernel
theorem dX5_put_100 : decode cX5_put 100 = .ok (.istore 6, 2) := by decide +kernel
theorem dX5_put_102 : decode cX5_put 102 = .ok (.iload 6, 2) := by decide +kernel
theorem dX5_put_104 : decode cX5_put 104 = .ok (.bipush (-9), 2) := by decide +kernel
theorem dX5_put_106 : decode cX5_put 106 = .ok (.if_icmp .ne 10, 3) := by decide +kernel
theorem dX5_put_109 : decode cX5_put 109 = .ok (.aload_n 0, 1) := by decide +kernel
theorem dX5_put_110 : decode cX5_put 110 = .ok (.bipush (-11), 2) := by decide +kernel
theorem dX5_put_112 : decode cX5_put 112 = .ok (.invokevirtual 178, 3) := by decide +kernel
theorem dX5_put_115 : decode cX5_put 115 = .ok (.ireturn, 1) := by decide +kernel
theorem dX5_put_116 : decode cX5_put 116 = .ok (.iload 4, 2) := by decide +kernel
theorem dX5_put_118 : decode cX5_put 118 = .ok (.iconst 0, 1) := by decide +kernel
theorem dX5_put_119 : decode cX5_put 119 = .ok (.iload 6, 2) := by decide +kernel
theorem dX5_put_121 : decode cX5_put 121 = .ok (.iconst 1, 1) := by decide +kernel
theorem dX5_put_122 : decode cX5_put 122 = .ok (.isub, 1) := by decide +kernel
theorem dX5_put_123 : decode cX5_put 123 = .ok (.invokestatic 81, 3) := by decide +kernel
theorem dX5_put_126 : decode cX5_put 126 = .ok (.ifCond .ne 10, 3) := by decide +kernel
theorem dX5_put_129 : decode cX5_put 129 = .ok (.aload_n 0, 1) := by decide +kernel
theorem dX5_put_130 : decode cX5_put 130 = .ok (.bipush (-12), 2) := by decide +kernel
theorem dX5_put_132 : decode cX5_put 132 = .ok (.invokevirtual 178, 3) := by decide +kernel
theorem dX5_put_135 : decode cX5_put 135 = .ok (.ireturn, 1) := by decide +kernel
theorem dX5_put_136 : decode cX5_put 136 = .ok (.aload_n 0, 1) := by decide +kernel
theorem dX5_put_137 : decode cX5_put 137 = .ok (.getfield 48, 3) := by decide +kernel
theorem dX5_put_140 : decode cX5_put 140 = .ok (.sipush 160, 3) := by decide +kernel
theorem dX5_put_143 : decode cX5_put 143 = .ok (.iload_n 1, 1) := by decide +kernel
theorem dX5_put_144 : decode cX5_put 144 = .ok (.imul, 1) := by decide +kernel
theorem dX5_put_145 : decode cX5_put 145 = .ok (.bipush 40, 2) := by decide +kernel
theorem dX5_put_147 : decode cX5_put 147 = .ok (.iload_n 3, 1) := by decide +kernel
theorem dX5_put_148 : decode cX5_put 148 = .ok (.imul, 1) := by decide +kernel
theorem dX5_put_149 : decode cX5_put 149 = .ok (.iadd, 1) := by decide +kernel
theorem dX5_put_150 : decode cX5_put 150 = .ok (.iload 4, 2) := by decide +kernel
theorem dX5_put_152 : decode cX5_put 152 = .ok (.iadd, 1) := by decide +kernel
theorem dX5_put_153 : decode cX5_put 153 = .ok (.iload_n 2, 1) := by decide +kernel
theorem dX5_put_154 : decode cX5_put 154 = .ok (.ifCond .ne 9, 3) := by decide +kernel
theorem dX5_put_157 : decode cX5_put 157 = .ok (.iload 5, 2) := by decide +kernel
theorem dX5_put_159 : decode cX5_put 159 = .ok (.i2b, 1) := by decide +kernel
theorem dX5_put_160 : decode cX5_put 160 = .ok (.goto 5, 3) := by decide +kernel
theorem dX5_put_163 : decode cX5_put 163 = .ok (.iload 5, 2) := by decide +kernel
theorem dX5_put_165 : decode cX5_put 165 = .ok (.iastore, 1) := by decide +kernel
theorem dX5_put_166 : decode cX5_put 166 = .ok (.iconst 1, 1) := by decide +kernel
theorem dX5_put_167 : decode cX5_put 167 = .ok (.ireturn, 1) := by decide +kernel
theorem dX5_areThere_0 : decode cX5_areThere 0 = .ok (.iload_n 0, 1) := by decide +kernel
theorem dX5_areThere_1 : decode cX5_areThere 1 = .ok (.ifCond .lt 22, 3) := by decide +kernel
theorem dX5_areThere_4 : decode cX5_areThere 4 = .ok (.iload_n 1, 1) := by decide +kernel
theorem dX5_areThere_5 : decode cX5_areThere 5 = .ok (.ifCond .lt 18, 3) := by decide +kernel
theorem dX5_areThere_8 : decode cX5_areThere 8 = .ok (.iload_n 0, 1) := by decide +kernel
theorem dX5_areThere_9 : decode cX5_areThere 9 = .ok (.i2l, 1) := by decide +kernel
theorem dX5_areThere_10 : decode cX5_areThere 10 = .ok (.iload_n 1, 1) := by decide +kernel
theorem dX5_areThere_11 : decode cX5_areThere 11 = .ok (.i2l, 1) := by decide +kernel
theorem dX5_areThere_12 : decode cX5_areThere 12 = .ok (.ladd, 1) := by decide +kernel
theorem dX5_areThere_13 : decode cX5_areThere 13 = .ok (.iload_n 2, 1) := by decide +kernel
theorem dX5_areThere_14 : decode cX5_areThere 14 = .ok (.i2l, 1) := by decide +kernel
theorem dX5_areThere_15 : decode cX5_areThere 15 = .ok (.lcmp, 1) := by decide +kernel
theorem dX5_areThere_16 : decode cX5_areThere 16 = .ok (.ifCond .gt 7, 3) := by decide +kernel
theorem dX5_areThere_19 : decode cX5_areThere 19 = .ok (.iconst 1, 1) := by decide +kernel
theorem dX5_areThere_20 : decode cX5_areThere 20 = .ok (.goto 4, 3) := by decide +kernel
theorem dX5_areThere_23 : decode cX5_areThere 23 = .ok (.iconst 0, 1) := by decide +kernel
theorem dX5_areThere_24 : decode cX5_areThere 24 = .ok (.ireturn, 1) := by decide +kernel
theorem dX5_copy_0 : decode cX5_copy 0 = .ok (.aload_n 0, 1) := by decide +kernel
theorem dX5_copy_1 : decode cX5_copy 1 = .ok (.iconst 0, 1) := by decide +kernel
theorem dX5_copy_2 : decode cX5_copy 2 = .ok (.putfield 58, 3) := by decide +kernel
theorem dX5_copy_5 : decode cX5_copy 5 = .ok (.aload_n 0, 1) := by decide +kernel
theorem dX5_copy_6 : decode cX5_copy 6 = .ok (.iconst 0, 1) := by decide +kernel
theorem dX5_copy_7 : decode cX5_copy 7 = .ok (.putfield 175, 3) := by decide +kernel
theorem dX5_copy_10 : decode cX5_copy 10 = .ok (.iload_n 1, 1) := by decide +kernel
theorem dX5_copy_11 : decode cX5_copy 11 = .ok (.iconst 0, 1) := by decide +kernel
theorem dX5_copy_12 : decode cX5_copy 12 = .ok (.iconst 2, 1) := by decide +kernel
theorem dX5_copy_13 : decode cX5_copy 13 = .ok (.invokestatic 81, 3) := by decide +kernel
theorem dX5_copy_16 : decode cX5_copy 16 = .ok (.ifCond .eq 13, 3) := by decide +kernel
theorem dX5_copy_19 : decode cX5_copy 19 = .ok (.iload 4, 2) := by decide +kernel
theorem dX5_copy_21 : decode cX5_copy 21 = .ok (.iconst 0, 1) := by decide +kernel
theorem dX5_copy_22 : decode cX5_copy 22 = .ok (.iconst 2, 1) := by decide +kernel
theorem dX5_copy_23 : decode cX5_copy 23 = .ok (.invokestatic 81, 3) := by decide +kernel
theorem dX5_copy_26 : decode cX5_copy 26 = .ok (.ifCond .ne 9, 3) := by decide +kernel
theorem dX5_copy_29 : decode cX5_copy 29 = .ok (.aload_n 0, 1) := by decide +kernel
theorem dX5_copy_30 : decode cX5_copy 30 = .ok (.iconst (-1), 1) := by decide +kernel
theorem dX5_copy_31 : decode cX5_copy 31 = .ok (.invokevirtual 178, 3) := by decide +kernel
theorem dX5_copy_34 : decode cX5_copy 34 = .ok (.ireturn, 1) := by decide +kernel
theorem dX5_copy_35 : decode cX5_copy 35 = .ok (.aload_n 0, 1) := by decide +kernel
theorem dX5_copy_36 : decode cX5_copy 36 = .ok (.getfield 36, 3) := by decide +kernel
theorem dX5_copy_39 : decode cX5_copy 39 = .ok (.iload_n 1, 1) := by decide +kernel
theorem dX5_copy_40 : decode cX5_copy 40 = .ok (.baload, 1) := by decide +kernel
theorem dX5_copy_41 : decode cX5_copy 41 = .ok (.ifCond .eq 13, 3) := by decide +kernel
theorem dX5_copy_44 : decode cX5_copy 44 = .ok (.aload_n 0, 1) := by decide +kernel
theorem dX5_copy_45 : decode cX5_copy 45 = .ok (.getfield 36, 3) := by decide +kernel
theorem dX5_copy_48 : decode cX5_copy 48 = .ok (.iload 4, 2) := by decide +kernel
theorem dX5_copy_50 : decode cX5_copy 50 = .ok (.baload, 1) := by decide +kernel
theorem dX5_copy_51 : decode cX5_copy 51 = .ok (.ifCond .ne 10, 3) := by decide +kernel
theorem dX5_copy_54 : decode cX5_copy 54 = .ok (.aload_n 0, 1) := by decide +kernel
theorem dX5_copy_55 : decode cX5_copy 55 = .ok (.bipush (-11), 2) := by decide +kernel
theorem dX5_copy_57 : decode cX5_copy 57 = .ok (.invokevirtual 178, 3) := by decide +kernel
theorem dX5_copy_60 : decode cX5_copy 60 = .ok (.ireturn, 1) := by decide +kernel
theorem dX5_copy_61 : decode cX5_copy 61 = .ok (.aload_n 0, 1) := by decide +kernel
theorem dX5_copy_62 : decode cX5_copy 62 = .ok (.getfield 39, 3) := by decide +kernel
theorem dX5_copy_65 : decode cX5_copy 65 = .ok (.iload_n 1, 1) := by decide +kernel
theorem dX5_copy_66 : decode cX5_copy 66 = .ok (.iaload, 1) := by decide +kernel
theorem dX5_copy_67 : decode cX5_copy 67 = .ok (.aload_n 0, 1) := by decide +kernel
theorem dX5_copy_68 : decode cX5_copy 68 = .ok (.getfield 39, 3) := by decide +kernel
theorem dX5_copy_71 : decode cX5_copy 71 = .ok (.iload 4, 2) := by decide +kernel
theorem dX5_copy_73 : decode cX5_copy 73 = .ok (.iaload, 1) := by decide +kernel
theorem dX5_copy_74 : decode cX5_copy 74 = .ok (.if_icmp .eq 10, 3) := by decide +kernel
theorem dX5_copy_77 : decode cX5_copy 77 = .ok (.aload_n 0, 1) := by decide +kernel
theorem dX5_copy_78 : decode cX5_copy 78 = .ok (.bipush (-13), 2) := by decide +kernel
theorem dX5_copy_80 : decode cX5_copy 80 = .ok (.invokevirtual 178, 3) := by decide +kernel
theorem dX5_copy_83 : decode cX5_copy 83 = .ok (.ireturn, 1) := by decide +kernel
theorem dX5_copy_84 : decode cX5_copy 84 = .ok (.iload_n 2, 1) := by decide +kernel
theorem dX5_copy_85 : decode cX5_copy 85 = .ok (.iconst 0, 1) := by decide +kernel
theorem dX5_copy_86 : decode cX5_copy 86 = .ok (.aload_n 0, 1) := by decide +kernel
theorem dX5_copy_87 : decode cX5_copy 87 = .ok (.getfield 42, 3) := by decide +kernel
theorem dX5_copy_90 : decode cX5_copy 90 = .ok (.iload_n 1, 1) := by decide +kernel
theorem dX5_copy_91 : decode cX5_copy 91 = .ok (.iaload, 1) := by decide +kernel
theorem dX5_copy_92 : decode cX5_copy 92 = .ok (.iconst 1, 1) := by decide +kernel
theorem dX5_copy_93 : decode cX5_copy 93 = .ok (.isub, 1) := by decide +kernel
theorem dX5_copy_94 : decode cX5_copy 94 = .ok (.invokestatic 81, 3) := by decide +kernel
theorem dX5_copy_97 : decode cX5_copy 97 = .ok (.ifCond .eq 21, 3) := by decide +kernel
theorem dX5_copy_100 : decode cX5_copy 100 = .ok (.iload 5, 2) := by decide +kernel
theorem dX5_copy_102 : decode cX5_copy 102 = .ok (.iconst 0, 1) := by decide +kernel
theorem dX5_copy_103 : decode cX5_copy 103 = .ok (.aload_n 0, 1) := by decide +kernel
theorem dX5_copy_104 : decode cX5_copy 104 = .ok (.getfield 42, 3) := by decide +kernel
theorem dX5_copy_107 : decode cX5_copy 107 = .ok (.iload 4, 2) := by decide +kernel
theorem dX5_copy_109 : decode cX5_copy 109 = .ok (.iaload, 1) := by decide +kernel
theorem dX5_copy_110 : decode cX5_copy 110 = .ok (.iconst 1, 1) := by decide +kernel
theorem dX5_copy_111 : decode cX5_copy 111 = .ok (.isub, 1) := by decide +kernel
theorem dX5_copy_112 : decode cX5_copy 112 = .ok (.invokestatic 81, 3) := by decide +kernel
theorem dX5_copy_115 : decode cX5_copy 115 = .ok (.ifCond .ne 10, 3) := by decide +kernel
theorem dX5_copy_118 : decode cX5_copy 118 = .ok (.aload_n 0, 1) := by decide +kernel
theorem dX5_copy_119 : decode cX5_copy 119 = .ok (.bipush (-12), 2) := by decide +kernel
theorem dX5_copy_121 : decode cX5_copy 121 = .ok (.invokevirtual 178, 3) := by decide +kernel
theorem dX5_copy_124 : decode cX5_copy 124 = .ok (.ireturn, 1) := by decide +kernel
theorem dX5_copy_125 : decode cX5_copy 125 = .ok (.aload_n 0, 1) := by decide +kernel
theorem dX5_copy_126 : decode cX5_copy 126 = .ok (.getfield 45, 3) := by decide +kernel
theorem dX5_copy_129 : decode cX5_copy 129 = .ok (.iconst 4, 1) := by decide +kernel
theorem dX5_copy_130 : decode cX5_copy 130 = .ok (.iload_n 1, 1) := by decide +kernel
theorem dX5_copy_131 : decode cX5_copy 131 = .ok (.imul, 1) := by decide +kernel
theorem dX5_copy_132 : decode cX5_copy 132 = .ok (.iload_n 2, 1) := by decide +kernel
theorem dX5_copy_133 : decode cX5_copy 133 = .ok (.iadd, 1) := by decide +kernel
theorem dX5_copy_134 : decode cX5_copy 134 = .ok (.iaload, 1) := by decide +kernel
theorem dX5_copy_135 : decode cX5_copy 135 = .ok (.istore 8, 2) := by decide +kernel
theorem dX5_copy_137 : decode cX5_copy 137 = .ok (.aload_n 0, 1) := by decide +kernel
theorem dX5_copy_138 : decode cX5_copy 138 = .ok (.getfield 45, 3) := by decide +kernel
theorem dX5_copy_141 : decode cX5_copy 141 = .ok (.iconst 4, 1) := by decide +kernel
theorem dX5_copy_142 : decode cX5_copy 142 = .ok (.iload 4, 2) := by decide +kernel
theorem dX5_copy_144 : decode cX5_copy 144 = .ok (.imul, 1) := by decide +kernel
theorem dX5_copy_145 : decode cX5_copy 145 = .ok (.iload 5, 2) := by decide +kernel
theorem dX5_copy_147 : decode cX5_copy 147 = .ok (.iadd, 1) := by decide +kernel
theorem dX5_copy_148 : decode cX5_copy 148 = .ok (.iaload, 1) := by decide +kernel
theorem dX5_copy_149 : decode cX5_copy 149 = .ok (.istore 9, 2) := by decide +kernel
theorem dX5_copy_151 : decode cX5_copy 151 = .ok (.iload 8, 2) := by decide +kernel
theorem dX5_copy_153 : decode cX5_copy 153 = .ok (.bipush (-9), 2) := by decide +kernel
theorem dX5_copy_155 : decode cX5_copy 155 = .ok (.if_icmp .eq 10, 3) := by decide +kernel
theorem dX5_copy_158 : decode cX5_copy 158 = .ok (.iload 9, 2) := by decide +kernel
theorem dX5_copy_160 : decode cX5_copy 160 = .ok (.bipush (-9), 2) := by decide +kernel
theorem dX5_copy_162 : decode cX5_copy 162 = .ok (.if_icmp .ne 10, 3) := by decide +kernel
theorem dX5_copy_165 : decode cX5_copy 165 = .ok (.aload_n 0, 1) := by decide +kernel
theorem dX5_copy_166 : decode cX5_copy 166 = .ok (.bipush (-11), 2) := by decide +kernel
theorem dX5_copy_168 : decode cX5_copy 168 = .ok (.invokevirtual 178, 3) := by decide +kernel
theorem dX5_copy_171 : decode cX5_copy 171 = .ok (.ireturn, 1) := by decide +kernel
theorem dX5_copy_172 : decode cX5_copy 172 = .ok (.iload_n 3, 1) := by decide +kernel
theorem dX5_copy_173 : decode cX5_copy 173 = .ok (.iload 7, 2) := by decide +kernel
theorem dX5_copy_175 : decode cX5_copy 175 = .ok (.iload 8, 2) := by decide +kernel
theorem dX5_copy_177 : decode cX5_copy 177 = .ok (.invokestatic 181, 3) := by decide +kernel
theorem dX5_copy_180 : decode cX5_copy 180 = .ok (.ifCond .eq 15, 3) := by decide +kernel
theorem dX5_copy_183 : decode cX5_copy 183 = .ok (.iload 6, 2) := by decide +kernel
theorem dX5_copy_185 : decode cX5_copy 185 = .ok (.iload 7, 2) := by decide +kernel
theorem dX5_copy_187 : decode cX5_copy 187 = .ok (.iload 9, 2) := by decide +kernel
theorem dX5_copy_189 : decode cX5_copy 189 = .ok (.invokestatic 181, 3) := by decide +kernel
theorem dX5_copy_192 : decode cX5_copy 192 = .ok (.ifCond .ne 10, 3) := by decide +kernel
theorem dX5_copy_195 : decode cX5_copy 195 = .ok (.aload_n 0, 1) := by decide +kernel
theorem dX5_copy_196 : decode cX5_copy 196 = .ok (.bipush (-12), 2) := by decide +kernel
theorem dX5_copy_198 : decode cX5_copy 198 = .ok (.invokevirtual 178, 3) := by decide +kernel
theorem dX5_copy_201 : decode cX5_copy 201 = .ok (.ireturn, 1) := by decide +kernel
theorem dX5_copy_202 : decode cX5_copy 202 = .ok (.iconst 0, 1) := by decide +kernel
theorem dX5_copy_203 : decode cX5_copy 203 = .ok (.istore 10, 2) := by decide +kernel
theorem dX5_copy_205 : decode cX5_copy 205 = .ok (.iload 10, 2) := by decide +kernel
theorem dX5_copy_207 : decode cX5_copy 207 = .ok (.iload 7, 2) := by decide +kernel
theorem dX5_copy_209 : decode cX5_copy 209 = .ok (.if_icmp .ge 36, 3) := by decide +kernel
theorem dX5_copy_212 : decode cX5_copy 212 = .ok (.aload_n 0, 1) := by decide +kernel
theorem dX5_copy_213 : decode cX5_copy 213 = .ok (.getfield 51, 3) := by decide +kernel
theorem dX5_copy_216 : decode cX5_copy 216 = .ok (.iload 10, 2) := by decide +kernel
theorem dX5_copy_218 : decode cX5_copy 218 = .ok (.aload_n 0, 1) := by decide +kernel
theorem dX5_copy_219 : decode cX5_copy 219 = .ok (.getfield 48, 3) := by decide +kernel
theorem dX5_copy_222 : decode cX5_copy 222 = .ok (.sipush 160, 3) := by decide +kernel
theorem dX5_copy_225 : decode cX5_copy 225 = .ok (.iload_n 1, 1) := by decide +kernel
theorem dX5_copy_226 : decode cX5_copy 226 = .ok (.imul, 1) := by decide +kernel
theorem dX5_copy_227 : decode cX5_copy 227 = .ok (.bipush 40, 2) := by decide +kernel
theorem dX5_copy_229 : decode cX5_copy 229 = .ok (.iload_n 2, 1) := by decide +kernel
theorem dX5_copy_230 : decode cX5_copy 230 = .ok (.imul, 1) := by decide +kernel
theorem dX5_copy_231 : decode cX5_copy 231 = .ok (.iadd, 1) := by decide +kernel
theorem dX5_copy_232 : decode cX5_copy 232 = .ok (.iload_n 3, 1) := by decide +kernel
theorem dX5_copy_233 : decode cX5_copy 233 = .ok (.iadd, 1) := by decide +kernel
theorem dX5_copy_234 : decode cX5_copy 234 = .ok (.iload 10, 2) := by decide +kernel
theorem dX5_copy_236 : decode cX5_copy 236 = .ok (.iadd, 1) := by decide +kernel
theorem dX5_copy_237 : decode cX5_copy 237 = .ok (.iaload, 1) := by decide +kernel
theorem dX5_copy_238 : decode cX5_copy 238 = .ok (.iastore, 1) := by decide +kernel
theorem dX5_copy_239 : decode cX5_copy 239 = .ok (.iinc 10 1, 3) := by decide +kernel
theorem dX5_copy_242 : decode cX5_copy 242 = .ok (.goto (-37), 3) := by decide +kernel
theorem dX5_copy_245 : decode cX5_copy 245 = .ok (.iconst 0, 1) := by decide +kernel
theorem dX5_copy_246 : decode cX5_copy 246 = .ok (.istore 10, 2) := by decide +kernel
theorem dX5_copy_248 : decode cX5_copy 248 = .ok (.iload 10, 2) := by decide +kernel
theorem dX5_copy_250 : decode cX5_copy 250 = .ok (.iload 7, 2) := by decide +kernel
theorem dX5_copy_252 : decode cX5_copy 252 = .ok (.if_icmp .ge 39, 3) := by decide +kernel
theorem dX5_copy_255 : decode cX5_copy 255 = .ok (.aload_n 0, 1) := by decide +kernel
theorem dX5_copy_256 : decode cX5_copy 256 = .ok (.getfield 48, 3) := by decide +kernel
theorem dX5_copy_259 : decode cX5_copy 259 = .ok (.sipush 160, 3) := by decide +kernel
theorem dX5_copy_262 : decode cX5_copy 262 = .ok (.iload 4, 2) := by decide +kernel
theorem dX5_copy_264 : decode cX5_copy 264 = .ok (.imul, 1) := by decide +kernel
theorem dX5_copy_265 : decode cX5_copy 265 = .ok (.bipush 40, 2) := by decide +kernel
theorem dX5_copy_267 : decode cX5_copy 267 = .ok (.iload 5, 2) := by decide +kernel
theorem dX5_copy_269 : decode cX5_copy 269 = .ok (.imul, 1) := by decide +kernel
theorem dX5_copy_270 : decode cX5_copy 270 = .ok (.iadd, 1) := by decide +kernel
theorem dX5_copy_271 : decode cX5_copy 271 = .ok (.iload 6, 2) := by decide +kernel
theorem dX5_copy_273 : decode cX5_copy 273 = .ok (.iadd, 1) := by decide +kernel
theorem dX5_copy_274 : decode cX5_copy 274 = .ok (.iload 10, 2) := by decide +kernel
theorem dX5_copy_276 : decode cX5_copy 276 = .ok (.iadd, 1) := by decide +kernel
theorem dX5_copy_277 : decode cX5_copy 277 = .ok (.aload_n 0, 1) := by decide +kernel
theorem dX5_copy_278 : decode cX5_copy 278 = .ok (.getfield 51, 3) := by decide +kernel
theorem dX5_copy_281 : decode cX5_copy 281 = .ok (.iload 10, 2) := by decide +kernel
theorem dX5_copy_283 : decode cX5_copy 283 = .ok (.iaload, 1) := by decide +kernel
theorem dX5_copy_284 : decode cX5_copy 284 = .ok (.iastore, 1) := by decide +kernel
theorem dX5_copy_285 : decode cX5_copy 285 = .ok (.iinc 10 1, 3) := by decide +kernel
theorem dX5_copy_288 : decode cX5_copy 288 = .ok (.goto (-40), 3) := by decide +kernel
theorem dX5_copy_291 : decode cX5_copy 291 = .ok (.iload 7, 2) := by decide +kernel
theorem dX5_copy_293 : decode cX5_copy 293 = .ok (.ireturn, 1) := by decide +kernel
theorem dX5_read_0 : decode cX5_read 0 = .ok (.aload_n 0, 1) := by decide +kernel
theorem dX5_read_1 : decode cX5_read 1 = .ok (.iconst 0, 1) := by decide +kernel
theorem dX5_read_2 : decode cX5_read 2 = .ok (.putfield 58, 3) := by decide +kernel
theorem dX5_read_5 : decode cX5_read 5 = .ok (.aload_n 0, 1) := by decide +kernel
theorem dX5_read_6 : decode cX5_read 6 = .ok (.iconst 0, 1) := by decide +kernel
theorem dX5_read_7 : decode cX5_read 7 = .ok (.putfield 175, 3) := by decide +kernel
theorem dX5_read_10 : decode cX5_read 10 = .ok (.iload_n 1, 1) := by decide +kernel
theorem dX5_read_11 : decode cX5_read 11 = .ok (.iconst 0, 1) := by decide +kernel
theorem dX5_read_12 : decode cX5_read 12 = .ok (.iconst 2, 1) := by decide +kernel
theorem dX5_read_13 : decode cX5_read 13 = .ok (.invokestatic 81, 3) := by decide +kernel
theorem dX5_read_16 : decode cX5_read 16 = .ok (.ifCond .ne 9, 3) := by decide +kernel
theorem dX5_read_19 : decode cX5_read 19 = .ok (.aload_n 0, 1) := by decide +kernel
theorem dX5_read_20 : decode cX5_read 20 = .ok (.iconst (-1), 1) := by decide +kernel
theorem dX5_read_21 : decode cX5_read 21 = .ok (.invokevirtual 178, 3) := by decide +kernel
theorem dX5_read_24 : decode cX5_read 24 = .ok (.ireturn, 1) := by decide +kernel
theorem dX5_read_25 : decode cX5_read 25 = .ok (.aload_n 0, 1) := by decide +kernel
theorem dX5_read_26 : decode cX5_read 26 = .ok (.getfield 36, 3) := by decide +kernel
theorem dX5_read_29 : decode cX5_read 29 = .ok (.iload_n 1, 1) := by decide +kernel
theorem dX5_read_30 : decode cX5_read 30 = .ok (.baload, 1) := by decide +kernel
theorem dX5_read_31 : decode cX5_read 31 = .ok (.ifCond .ne 11, 3) := by decide +kernel
theorem dX5_read_34 : decode cX5_read 34 = .ok (.aload_n 0, 1) := by decide +kernel
theorem dX5_read_35 : decode cX5_read 35 = .ok (.bipush (-11), 2) := by decide +kernel
theorem dX5_read_37 : decode cX5_read 37 = .ok (.putfield 175, 3) := by decide +kernel
theorem dX5_read_40 : decode cX5_read 40 = .ok (.iconst 0, 1) := by decide +kernel
theorem dX5_read_41 : decode cX5_read 41 = .ok (.ireturn, 1) := by decide +kernel
theorem dX5_read_42 : decode cX5_read 42 = .ok (.iload_n 2, 1) := by decide +kernel
theorem dX5_read_43 : decode cX5_read 43 = .ok (.iconst 0, 1) := by decide +kernel
theorem dX5_read_44 : decode cX5_read 44 = .ok (.aload_n 0, 1) := by decide +kernel
theorem dX5_read_45 : decode cX5_read 45 = .ok (.getfield 42, 3) := by decide +kernel
theorem dX5_read_48 : decode cX5_read 48 = .ok (.iload_n 1, 1) := by decide +kernel
theorem dX5_read_49 : decode cX5_read 49 = .ok (.iaload, 1) := by decide +kernel
theorem dX5_read_50 : decode cX5_read 50 = .ok (.iconst 1, 1) := by decide +kernel
theorem dX5_read_51 : decode cX5_read 51 = .ok (.isub, 1) := by decide +kernel
theorem dX5_read_52 : decode cX5_read 52 = .ok (.invokestatic 81, 3) := by decide +kernel
theorem dX5_read_55 : decode cX5_read 55 = .ok (.ifCond .ne 11, 3) := by decide +kernel
theorem dX5_read_58 : decode cX5_read 58 = .ok (.aload_n 0, 1) := by decide +kernel
theorem dX5_read_59 : decode cX5_read 59 = .ok (.bipush (-12), 2) := by decide +kernel
theorem dX5_read_61 : decode cX5_read 61 = .ok (.putfield 175, 3) := by decide +kernel
theorem dX5_read_64 : decode cX5_read 64 = .ok (.iconst 0, 1) := by decide +kernel
theorem dX5_read_65 : decode cX5_read 65 = .ok (.ireturn, 1) := by decide +kernel
theorem dX5_read_66 : decode cX5_read 66 = .ok (.aload_n 0, 1) := by decide +kernel
theorem dX5_read_67 : decode cX5_read 67 = .ok (.getfield 45, 3) := by decide +kernel
theorem dX5_read_70 : decode cX5_read 70 = .ok (.iconst 4, 1) := by decide +kernel
theorem dX5_read_71 : decode cX5_read 71 = .ok (.iload_n 1, 1) := by decide +kernel
theorem dX5_read_72 : decode cX5_read 72 = .ok (.imul, 1) := by decide +kernel
theorem dX5_read_73 : decode cX5_read 73 = .ok (.iload_n 2, 1) := by decide +kernel
theorem dX5_read_74 : decode cX5_read 74 = .ok (.iadd, 1) := by decide +kernel
theorem dX5_read_75 : decode cX5_read 75 = .ok (.iaload, 1) := by decide +kernel
theorem dX5_read_76 : decode cX5_read 76 = .ok (.istore_n 3, 1) := by decide +kernel
theorem dX5_read_77 : decode cX5_read 77 = .ok (.iload_n 3, 1) := by decide +kernel
theorem dX5_read_78 : decode cX5_read 78 = .ok (.bipush (-9), 2) := by decide +kernel
theorem dX5_read_80 : decode cX5_read 80 = .ok (.if_icmp .ne 11, 3) := by decide +kernel
theorem dX5_read_83 : decode cX5_read 83 = .ok (.aload_n 0, 1) := by decide +kernel
theorem dX5_read_84 : decode cX5_read 84 = .ok (.bipush (-11), 2) := by decide +kernel
theorem dX5_read_86 : decode cX5_read 86 = .ok (.putfield 175, 3) := by decide +kernel
theorem dX5_read_89 : decode cX5_read 89 = .ok (.iconst 0, 1) := by decide +kernel
theorem dX5_read_90 : decode cX5_read 90 = .ok (.ireturn, 1) := by decide +kernel
theorem dX5_read_91 : decode cX5_read 91 = .ok (.iconst 0, 1) := by decide +kernel
theorem dX5_read_92 : decode cX5_read 92 = .ok (.istore 4, 2) := by decide +kernel
theorem dX5_read_94 : decode cX5_read 94 = .ok (.iload 4, 2) := by decide +kernel
theorem dX5_read_96 : decode cX5_read 96 = .ok (.iload_n 3, 1) := by decide +kernel
theorem dX5_read_97 : decode cX5_read 97 = .ok (.if_icmp .ge 58, 3) := by decide +kernel
theorem dX5_read_100 : decode cX5_read 100 = .ok (.iload 4, 2) := by decide +kernel
theorem dX5_read_102 : decode cX5_read 102 = .ok (.aload_n 0, 1) := by decide +kernel
theorem dX5_read_103 : decode cX5_read 103 = .ok (.invokevirtual 78, 3) := by decide +kernel
theorem dX5_read_106 : decode cX5_read 106 = .ok (.if_icmp .ge 49, 3) := by decide +kernel
theorem dX5_read_109 : decode cX5_read 109 = .ok (.aload_n 0, 1) := by decide +kernel
theorem dX5_read_110 : decode cX5_read 110 = .ok (.iload 4, 2) := by decide +kernel
theorem dX5_read_112 : decode cX5_read 112 = .ok (.aload_n 0, 1) := by decide +kernel
theorem dX5_read_113 : decode cX5_read 113 = .ok (.getfield 48, 3) := by decide +kernel
theorem dX5_read_116 : decode cX5_read 116 = .ok (.sipush 160, 3) := by decide +kernel
theorem dX5_read_119 : decode cX5_read 119 = .ok (.iload_n 1, 1) := by decide +kernel
theorem dX5_read_120 : decode cX5_read 120 = .ok (.imul, 1) := by decide +kernel
theorem dX5_read_121 : decode cX5_read 121 = .ok (.bipush 40, 2) := by decide +kernel
theorem dX5_read_123 : decode cX5_read 123 = .ok (.iload_n 2, 1) := by decide +kernel
theorem dX5_read_124 : decode cX5_read 124 = .ok (.imul, 1) := by decide +kernel
theorem dX5_read_125 : decode cX5_read 125 = .ok (.iadd, 1) := by decide +kernel
theorem dX5_read_126 : decode cX5_read 126 = .ok (.iload 4, 2) := by decide +kernel
theorem dX5_read_128 : decode cX5_read 128 = .ok (.iadd, 1) := by decide +kernel
theorem dX5_read_129 : decode cX5_read 129 = .ok (.iaload, 1) := by decide +kernel
theorem dX5_read_130 : decode cX5_read 130 = .ok (.invokevirtual 95, 3) := by decide +kernel
theorem dX5_read_133 : decode cX5_read 133 = .ok (.istore 5, 2) := by decide +kernel
theorem dX5_read_135 : decode cX5_read 135 = .ok (.iload 5, 2) := by decide +kernel
theorem dX5_read_137 : decode cX5_read 137 = .ok (.ifCond .ge 12, 3) := by decide +kernel
theorem dX5_read_140 : decode cX5_read 140 = .ok (.aload_n 0, 1) := by decide +kernel
theorem dX5_read_141 : decode cX5_read 141 = .ok (.iload 5, 2) := by decide +kernel
theorem dX5_read_143 : decode cX5_read 143 = .ok (.putfield 175, 3) := by decide +kernel
theorem dX5_read_146 : decode cX5_read 146 = .ok (.iload 4, 2) := by decide +kernel
theorem dX5_read_148 : decode cX5_read 148 = .ok (.ireturn, 1) := by decide +kernel
theorem dX5_read_149 : decode cX5_read 149 = .ok (.iinc 4 1, 3) := by decide +kernel
theorem dX5_read_152 : decode cX5_read 152 = .ok (.goto (-58), 3) := by decide +kernel
theorem dX5_read_155 : decode cX5_read 155 = .ok (.iload 4, 2) := by decide +kernel
theorem dX5_read_157 : decode cX5_read 157 = .ok (.ireturn, 1) := by decide +kernel
theorem dX5_trace_0 : decode cX5_trace 0 = .ok (.aload_n 0, 1) := by decide +kernel
theorem dX5_trace_1 : decode cX5_trace 1 = .ok (.iconst 0, 1) := by decide +kernel
theorem dX5_trace_2 : decode cX5_trace 2 = .ok (.putfield 58, 3) := by decide +kernel
theorem dX5_trace_5 : decode cX5_trace 5 = .ok (.aload_n 0, 1) := by decide +kernel
theorem dX5_trace_6 : decode cX5_trace 6 = .ok (.getfield 110, 3) := by decide +kernel
theorem dX5_trace_9 : decode cX5_trace 9 = .ok (.lreturn, 1) := by decide +kernel
theorem dX5_status_0 : decode cX5_status 0 = .ok (.aload_n 0, 1) := by decide +kernel
theorem dX5_status_1 : decode cX5_status 1 = .ok (.iconst 0, 1) := by decide +kernel
theorem dX5_status_2 : decode cX5_status 2 = .ok (.putfield 58, 3) := by decide +kernel
theorem dX5_status_5 : decode cX5_status 5 = .ok (.aload_n 0, 1) := by decide +kernel
theorem dX5_status_6 : decode cX5_status 6 = .ok (.getfield 175, 3) := by decide +kernel
theorem dX5_status_9 : decode cX5_status 9 = .ok (.ireturn, 1) := by decide +kernel
