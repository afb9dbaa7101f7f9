theorem dX5_init_0 : decode cX5_init 0 = .ok (.aload_n 0, 1) := by decide +kernel
theorem dX5_init_1 : decode cX5_init 1 = .ok (.invokespecial 1, 3) := by decide +kernel
theorem dX5_init_4 : decode cX5_init 4 = .ok (.aload_n 0, 1) := by decide +kernel
theorem dX5_init_5 : decode cX5_init 5 = .ok (.iconst 2, 1) := by decide +kernel
theorem dX5_init_6 : decode cX5_init 6 = .ok (.putfield 7, 3) := by decide +kernel
theorem dX5_init_9 : decode cX5_init 9 = .ok (.aload_n 0, 1) := by decide +kernel
theorem dX5_init_10 : decode cX5_init 10 = .ok (.iconst 2, 1) := by decide +kernel
theorem dX5_init_11 : decode cX5_init 11 = .ok (.putfield 13, 3) := by decide +kernel
theorem dX5_init_14 : decode cX5_init 14 = .ok (.aload_n 0, 1) := by decide +kernel
theorem dX5_init_15 : decode cX5_init 15 = .ok (.bipush 40, 2) := by decide +kernel
theorem dX5_init_17 : decode cX5_init 17 = .ok (.newarray .int, 2) := by decide +kernel
theorem dX5_init_19 : decode cX5_init 19 = .ok (.putfield 16, 3) := by decide +kernel
theorem dX5_init_22 : decode cX5_init 22 = .ok (.aload_n 0, 1) := by decide +kernel
theorem dX5_init_23 : decode cX5_init 23 = .ok (.bipush 40, 2) := by decide +kernel
theorem dX5_init_25 : decode cX5_init 25 = .ok (.newarray .int, 2) := by decide +kernel
theorem dX5_init_27 : decode cX5_init 27 = .ok (.putfield 20, 3) := by decide +kernel
theorem dX5_init_30 : decode cX5_init 30 = .ok (.aload_n 0, 1) := by decide +kernel
theorem dX5_init_31 : decode cX5_init 31 = .ok (.bipush 25, 2) := by decide +kernel
theorem dX5_init_33 : decode cX5_init 33 = .ok (.newarray .int, 2) := by decide +kernel
theorem dX5_init_35 : decode cX5_init 35 = .ok (.putfield 23, 3) := by decide +kernel
theorem dX5_init_38 : decode cX5_init 38 = .ok (.aload_n 0, 1) := by decide +kernel
theorem dX5_init_39 : decode cX5_init 39 = .ok (.bipush 40, 2) := by decide +kernel
theorem dX5_init_41 : decode cX5_init 41 = .ok (.newarray .boolean, 2) := by decide +kernel
theorem dX5_init_43 : decode cX5_init 43 = .ok (.putfield 26, 3) := by decide +kernel
theorem dX5_init_46 : decode cX5_init 46 = .ok (.aload_n 0, 1) := by decide +kernel
theorem dX5_init_47 : decode cX5_init 47 = .ok (.sipush 4096, 3) := by decide +kernel
theorem dX5_init_50 : decode cX5_init 50 = .ok (.newarray .int, 2) := by decide +kernel
theorem dX5_init_52 : decode cX5_init 52 = .ok (.putfield 30, 3) := by decide +kernel
theorem dX5_init_55 : decode cX5_init 55 = .ok (.aload_n 0, 1) := by decide +kernel
theorem dX5_init_56 : decode cX5_init 56 = .ok (.bipush 36, 2) := by decide +kernel
theorem dX5_init_58 : decode cX5_init 58 = .ok (.newarray .boolean, 2) := by decide +kernel
theorem dX5_init_60 : decode cX5_init 60 = .ok (.putfield 33, 3) := by decide +kernel
theorem dX5_init_63 : decode cX5_init 63 = .ok (.aload_n 0, 1) := by decide +kernel
theorem dX5_init_64 : decode cX5_init 64 = .ok (.iconst 3, 1) := by decide +kernel
theorem dX5_init_65 : decode cX5_init 65 = .ok (.newarray .boolean, 2) := by decide +kernel
theorem dX5_init_67 : decode cX5_init 67 = .ok (.putfield 36, 3) := by decide +kernel
theorem dX5_init_70 : decode cX5_init 70 = .ok (.aload_n 0, 1) := by decide +kernel
theorem dX5_init_71 : decode cX5_init 71 = .ok (.iconst 3, 1) := by decide +kernel
theorem dX5_init_72 : decode cX5_init 72 = .ok (.newarray .int, 2) := by decide +kernel
theorem dX5_init_74 : decode cX5_init 74 = .ok (.putfield 39, 3) := by decide +kernel
theorem dX5_init_77 : decode cX5_init 77 = .ok (.aload_n 0, 1) := by decide +kernel
theorem dX5_init_78 : decode cX5_init 78 = .ok (.iconst 3, 1) := by decide +kernel
theorem dX5_init_79 : decode cX5_init 79 = .ok (.newarray .int, 2) := by decide +kernel
theorem dX5_init_81 : decode cX5_init 81 = .ok (.putfield 42, 3) := by decide +kernel
theorem dX5_init_84 : decode cX5_init 84 = .ok (.aload_n 0, 1) := by decide +kernel
theorem dX5_init_85 : decode cX5_init 85 = .ok (.bipush 12, 2) := by decide +kernel
theorem dX5_init_87 : decode cX5_init 87 = .ok (.newarray .int, 2) := by decide +kernel
theorem dX5_init_89 : decode cX5_init 89 = .ok (.putfield 45, 3) := by decide +kernel
theorem dX5_init_92 : decode cX5_init 92 = .ok (.aload_n 0, 1) := by decide +kernel
theorem dX5_init_93 : decode cX5_init 93 = .ok (.sipush 480, 3) := by decide +kernel
theorem dX5_init_96 : decode cX5_init 96 = .ok (.newarray .int, 2) := by decide +kernel
theorem dX5_init_98 : decode cX5_init 98 = .ok (.putfield 48, 3) := by decide +kernel
theorem dX5_init_101 : decode cX5_init 101 = .ok (.aload_n 0, 1) := by decide +kernel
theorem dX5_init_102 : decode cX5_init 102 = .ok (.bipush 40, 2) := by decide +kernel
theorem dX5_init_104 : decode cX5_init 104 = .ok (.newarray .int, 2) := by decide +kernel
theorem dX5_init_106 : decode cX5_init 106 = .ok (.putfield 51, 3) := by decide +kernel
theorem dX5_init_109 : decode cX5_init 109 = .ok (.aload_n 0, 1) := by decide +kernel
theorem dX5_init_110 : decode cX5_init 110 = .ok (.iconst 1, 1) := by decide +kernel
theorem dX5_init_111 : decode cX5_init 111 = .ok (.invokevirtual 54, 3) := by decide +kernel
theorem dX5_init_114 : decode cX5_init 114 = .ok (.return_, 1) := by decide +kernel
theorem dX5_in_0 : decode cX5_in 0 = .ok (.iload_n 0, 1) := by decide +kernel
theorem dX5_in_1 : decode cX5_in 1 = .ok (.iload_n 1, 1) := by decide +kernel
theorem dX5_in_2 : decode cX5_in 2 = .ok (.if_icmp .lt 12, 3) := by decide +kernel
theorem dX5_in_5 : decode cX5_in 5 = .ok (.iload_n 0, 1) := by decide +kernel
theorem dX5_in_6 : decode cX5_in 6 = .ok (.iload_n 2, 1) := by decide +kernel
theorem dX5_in_7 : decode cX5_in 7 = .ok (.if_icmp .gt 7, 3) := by decide +kernel
theorem dX5_in_10 : decode cX5_in 10 = .ok (.iconst 1, 1) := by decide +kernel
theorem dX5_in_11 : decode cX5_in 11 = .ok (.goto 4, 3) := by decide +kernel
theorem dX5_in_14 : decode cX5_in 14 = .ok (.iconst 0, 1) := by decide +kernel
theorem dX5_in_15 : decode cX5_in 15 = .ok (.ireturn, 1) := by decide +kernel
theorem dX5_all_0 : decode cX5_all 0 = .ok (.iconst 0, 1) := by decide +kernel
theorem dX5_all_1 : decode cX5_all 1 = .ok (.istore_n 2, 1) := by decide +kernel
theorem dX5_all_2 : decode cX5_all 2 = .ok (.iload_n 2, 1) := by decide +kernel
theorem dX5_all_3 : decode cX5_all 3 = .ok (.bipush 40, 2) := by decide +kernel
theorem dX5_all_5 : decode cX5_all 5 = .ok (.if_icmp .ge 24, 3) := by decide +kernel
theorem dX5_all_8 : decode cX5_all 8 = .ok (.aload_n 0, 1) := by decide +kernel
theorem dX5_all_9 : decode cX5_all 9 = .ok (.getfield 16, 3) := by decide +kernel
theorem dX5_all_12 : decode cX5_all 12 = .ok (.iload_n 2, 1) := by decide +kernel
theorem dX5_all_13 : decode cX5_all 13 = .ok (.iload_n 1, 1) := by decide +kernel
theorem dX5_all_14 : decode cX5_all 14 = .ok (.iastore, 1) := by decide +kernel
theorem dX5_all_15 : decode cX5_all 15 = .ok (.aload_n 0, 1) := by decide +kernel
theorem dX5_all_16 : decode cX5_all 16 = .ok (.getfield 20, 3) := by decide +kernel
theorem dX5_all_19 : decode cX5_all 19 = .ok (.iload_n 2, 1) := by decide +kernel
theorem dX5_all_20 : decode cX5_all 20 = .ok (.bipush (-9), 2) := by decide +kernel
theorem dX5_all_22 : decode cX5_all 22 = .ok (.iastore, 1) := by decide +kernel
theorem dX5_all_23 : decode cX5_all 23 = .ok (.iinc 2 1, 3) := by decide +kernel
theorem dX5_all_26 : decode cX5_all 26 = .ok (.goto (-24), 3) := by decide +kernel
theorem dX5_all_29 : decode cX5_all 29 = .ok (.aload_n 0, 1) := by decide +kernel
theorem dX5_all_30 : decode cX5_all 30 = .ok (.iconst 0, 1) := by decide +kernel
theorem dX5_all_31 : decode cX5_all 31 = .ok (.putfield 61, 3) := by decide +kernel
theorem dX5_all_34 : decode cX5_all 34 = .ok (.return_, 1) := by decide +kernel
theorem dX5_places_0 : decode cX5_places 0 = .ok (.aload_n 0, 1) := by decide +kernel
theorem dX5_places_1 : decode cX5_places 1 = .ok (.getfield 7, 3) := by decide +kernel
theorem dX5_places_4 : decode cX5_places 4 = .ok (.aload_n 0, 1) := by decide +kernel
theorem dX5_places_5 : decode cX5_places 5 = .ok (.getfield 13, 3) := by decide +kernel
theorem dX5_places_8 : decode cX5_places 8 = .ok (.imul, 1) := by decide +kernel
theorem dX5_places_9 : decode cX5_places 9 = .ok (.ireturn, 1) := by decide +kernel
theorem dX5_across_0 : decode cX5_across 0 = .ok (.aload_n 0, 1) := by decide +kernel
theorem dX5_across_1 : decode cX5_across 1 = .ok (.getfield 7, 3) := by decide +kernel
theorem dX5_across_4 : decode cX5_across 4 = .ok (.aload_n 0, 1) := by decide +kernel
theorem dX5_across_5 : decode cX5_across 5 = .ok (.getfield 13, 3) := by decide +kernel
theorem dX5_across_8 : decode cX5_across 8 = .ok (.iconst 1, 1) := by decide +kernel
theorem dX5_across_9 : decode cX5_across 9 = .ok (.isub, 1) := by decide +kernel
theorem dX5_across_10 : decode cX5_across 10 = .ok (.imul, 1) := by decide +kernel
theorem dX5_across_11 : decode cX5_across 11 = .ok (.ireturn, 1) := by decide +kernel
theorem dX5_roads_0 : decode cX5_roads 0 = .ok (.aload_n 0, 1) := by decide +kernel
theorem dX5_roads_1 : decode cX5_roads 1 = .ok (.invokevirtual 65, 3) := by decide +kernel
theorem dX5_roads_4 : decode cX5_roads 4 = .ok (.aload_n 0, 1) := by decide +kernel
theorem dX5_roads_5 : decode cX5_roads 5 = .ok (.getfield 7, 3) := by decide +kernel
theorem dX5_roads_8 : decode cX5_roads 8 = .ok (.iconst 1, 1) := by decide +kernel
theorem dX5_roads_9 : decode cX5_roads 9 = .ok (.isub, 1) := by decide +kernel
theorem dX5_roads_10 : decode cX5_roads 10 = .ok (.aload_n 0, 1) := by decide +kernel
theorem dX5_roads_11 : decode cX5_roads 11 = .ok (.getfield 13, 3) := by decide +kernel
theorem dX5_roads_14 : decode cX5_roads 14 = .ok (.imul, 1) := by decide +kernel
theorem dX5_roads_15 : decode cX5_roads 15 = .ok (.iadd, 1) := by decide +kernel
theorem dX5_roads_16 : decode cX5_roads 16 = .ok (.ireturn, 1) := by decide +kernel
theorem dX5_things_0 : decode cX5_things 0 = .ok (.aload_n 0, 1) := by decide +kernel
theorem dX5_things_1 : decode cX5_things 1 = .ok (.getfield 69, 3) := by decide +kernel
theorem dX5_things_4 : decode cX5_things 4 = .ok (.ifCond .eq 10, 3) := by decide +kernel
theorem dX5_things_7 : decode cX5_things 7 = .ok (.aload_n 0, 1) := by decide +kernel
theorem dX5_things_8 : decode cX5_things 8 = .ok (.invokevirtual 72, 3) := by decide +kernel
theorem dX5_things_11 : decode cX5_things 11 = .ok (.goto 7, 3) := by decide +kernel
theorem dX5_things_14 : decode cX5_things 14 = .ok (.aload_n 0, 1) := by decide +kernel
theorem dX5_things_15 : decode cX5_things 15 = .ok (.invokevirtual 75, 3) := by decide +kernel
theorem dX5_things_18 : decode cX5_things 18 = .ok (.ireturn, 1) := by decide +kernel
theorem dX5_isThing_0 : decode cX5_isThing 0 = .ok (.iload_n 1, 1) := by decide +kernel
theorem dX5_isThing_1 : decode cX5_isThing 1 = .ok (.iconst 0, 1) := by decide +kernel
theorem dX5_isThing_2 : decode cX5_isThing 2 = .ok (.aload_n 0, 1) := by decide +kernel
theorem dX5_isThing_3 : decode cX5_isThing 3 = .ok (.invokevirtual 78, 3) := by decide +kernel
theorem dX5_isThing_6 : decode cX5_isThing 6 = .ok (.iconst 1, 1) := by decide +kernel
theorem dX5_isThing_7 : decode cX5_isThing 7 = .ok (.isub, 1) := by decide +kernel
theorem dX5_isThing_8 : decode cX5_isThing 8 = .ok (.invokestatic 81, 3) := by decide +kernel
theorem dX5_isThing_11 : decode cX5_isThing 11 = .ok (.ireturn, 1) := by decide +kernel
theorem dX5_isPlace_0 : decode cX5_isPlace 0 = .ok (.iload_n 1, 1) := by decide +kernel
theorem dX5_isPlace_1 : decode cX5_isPlace 1 = .ok (.iconst 0, 1) := by decide +kernel
theorem dX5_isPlace_2 : decode cX5_isPlace 2 = .ok (.aload_n 0, 1) := by decide +kernel
theorem dX5_isPlace_3 : decode cX5_isPlace 3 = .ok (.invokevirtual 72, 3) := by decide +kernel
theorem dX5_isPlace_6 : decode cX5_isPlace 6 = .ok (.iconst 1, 1) := by decide +kernel
theorem dX5_isPlace_7 : decode cX5_isPlace 7 = .ok (.isub, 1) := by decide +kernel
theorem dX5_isPlace_8 : decode cX5_isPlace 8 = .ok (.invokestatic 81, 3) := by decide +kernel
theorem dX5_isPlace_11 : decode cX5_isPlace 11 = .ok (.ireturn, 1) := by decide +kernel
theorem dX5_end_0 : decode cX5_end 0 = .ok (.iload_n 1, 1) := by decide +kernel
theorem dX5_end_1 : decode cX5_end 1 = .ok (.aload_n 0, 1) := by decide +kernel
theorem dX5_end_2 : decode cX5_end 2 = .ok (.invokevirtual 65, 3) := by decide +kernel
theorem dX5_end_5 : decode cX5_end 5 = .ok (.if_icmp .ge 38, 3) := by decide +kernel
theorem dX5_end_8 : decode cX5_end 8 = .ok (.iload_n 1, 1) := by decide +kernel
theorem dX5_end_9 : decode cX5_end 9 = .ok (.aload_n 0, 1) := by decide +kernel
theorem dX5_end_10 : decode cX5_end 10 = .ok (.getfield 13, 3) := by decide +kernel
theorem dX5_end_13 : decode cX5_end 13 = .ok (.iconst 1, 1) := by decide +kernel
theorem dX5_end_14 : decode cX5_end 14 = .ok (.isub, 1) := by decide +kernel
theorem dX5_end_15 : decode cX5_end 15 = .ok (.idiv, 1) := by decide +kernel
theorem dX5_end_16 : decode cX5_end 16 = .ok (.aload_n 0, 1) := by decide +kernel
theorem dX5_end_17 : decode cX5_end 17 = .ok (.getfield 13, 3) := by decide +kernel
theorem dX5_end_20 : decode cX5_end 20 = .ok (.imul, 1) := by decide +kernel
theorem dX5_end_21 : decode cX5_end 21 = .ok (.iload_n 1, 1) := by decide +kernel
theorem dX5_end_22 : decode cX5_end 22 = .ok (.aload_n 0, 1) := by decide +kernel
theorem dX5_end_23 : decode cX5_end 23 = .ok (.getfield 13, 3) := by decide +kernel
theorem dX5_end_26 : decode cX5_end 26 = .ok (.iconst 1, 1) := by decide +kernel
theorem dX5_end_27 : decode cX5_end 27 = .ok (.isub, 1) := by decide +kernel
theorem dX5_end_28 : decode cX5_end 28 = .ok (.irem, 1) := by decide +kernel
theorem dX5_end_29 : decode cX5_end 29 = .ok (.iadd, 1) := by decide +kernel
theorem dX5_end_30 : decode cX5_end 30 = .ok (.istore_n 3, 1) := by decide +kernel
theorem dX5_end_31 : decode cX5_end 31 = .ok (.iload_n 2, 1) := by decide +kernel
theorem dX5_end_32 : decode cX5_end 32 = .ok (.ifCond .eq 9, 3) := by decide +kernel
theorem dX5_end_35 : decode cX5_end 35 = .ok (.iload_n 3, 1) := by decide +kernel
theorem dX5_end_36 : decode cX5_end 36 = .ok (.iconst 1, 1) := by decide +kernel
theorem dX5_end_37 : decode cX5_end 37 = .ok (.iadd, 1) := by decide +kernel
theorem dX5_end_38 : decode cX5_end 38 = .ok (.goto 4, 3) := by decide +kernel
theorem dX5_end_41 : decode cX5_end 41 = .ok (.iload_n 3, 1) := by decide +kernel
theorem dX5_end_42 : decode cX5_end 42 = .ok (.ireturn, 1) := by decide +kernel
theorem dX5_end_43 : decode cX5_end 43 = .ok (.iload_n 1, 1) := by decide +kernel
theorem dX5_end_44 : decode cX5_end 44 = .ok (.aload_n 0, 1) := by decide +kernel
theorem dX5_end_45 : decode cX5_end 45 = .ok (.invokevirtual 65, 3) := by decide +kernel
theorem dX5_end_48 : decode cX5_end 48 = .ok (.isub, 1) := by decide +kernel
theorem dX5_end_49 : decode cX5_end 49 = .ok (.istore_n 3, 1) := by decide +kernel
theorem dX5_end_50 : decode cX5_end 50 = .ok (.iload_n 2, 1) := by decide +kernel
theorem dX5_end_51 : decode cX5_end 51 = .ok (.ifCond .eq 12, 3) := by decide +kernel
theorem dX5_end_54 : decode cX5_end 54 = .ok (.iload_n 3, 1) := by decide +kernel
theorem dX5_end_55 : decode cX5_end 55 = .ok (.aload_n 0, 1) := by decide +kernel
theorem dX5_end_56 : decode cX5_end 56 = .ok (.getfield 13, 3) := by decide +kernel
theorem dX5_end_59 : decode cX5_end 59 = .ok (.iadd, 1) := by decide +kernel
theorem dX5_end_60 : decode cX5_end 60 = .ok (.goto 4, 3) := by decide +kernel
theorem dX5_end_63 : decode cX5_end 63 = .ok (.iload_n 3, 1) := by decide +kernel
theorem dX5_end_64 : decode cX5_end 64 = .ok (.ireturn, 1) := by decide +kernel
theorem dX5_chances_0 : decode cX5_chances 0 = .ok (.iconst 0, 1) := by decide +kernel
theorem dX5_chances_1 : decode cX5_chances 1 = .ok (.istore_n 1, 1) := by decide +kernel
theorem dX5_chances_2 : decode cX5_chances 2 = .ok (.iconst 0, 1) := by decide +kernel
theorem dX5_chances_3 : decode cX5_chances 3 = .ok (.istore_n 2, 1) := by decide +kernel
theorem dX5_chances_4 : decode cX5_chances 4 = .ok (.iload_n 2, 1) := by decide +kernel
theorem dX5_chances_5 : decode cX5_chances 5 = .ok (.aload_n 0, 1) := by decide +kernel
theorem dX5_chances_6 : decode cX5_chances 6 = .ok (.invokevirtual 78, 3) := by decide +kernel
theorem dX5_chances_9 : decode cX5_chances 9 = .ok (.if_icmp .ge 27, 3) := by decide +kernel
theorem dX5_chances_12 : decode cX5_chances 12 = .ok (.iload_n 1, 1) := by decide +kernel
theorem dX5_chances_13 : decode cX5_chances 13 = .ok (.aload_n 0, 1) := by decide +kernel
theorem dX5_chances_14 : decode cX5_chances 14 = .ok (.getfield 16, 3) := by decide +kernel
theorem dX5_chances_17 : decode cX5_chances 17 = .ok (.iload_n 2, 1) := by decide +kernel
theorem dX5_chances_18 : decode cX5_chances 18 = .ok (.iaload, 1) := by decide +kernel
theorem dX5_chances_19 : decode cX5_chances 19 = .ok (.iconst 2, 1) := by decide +kernel
theorem dX5_chances_20 : decode cX5_chances 20 = .ok (.if_icmp .ne 7, 3) := by decide +kernel
theorem dX5_chances_23 : decode cX5_chances 23 = .ok (.iconst 1, 1) := by decide +kernel
theorem dX5_chances_24 : decode cX5_chances 24 = .ok (.goto 4, 3) := by decide +kernel
theorem dX5_chances_27 : decode cX5_chances 27 = .ok (.iconst 0, 1) := by decide +kernel
theorem dX5_chances_28 : decode cX5_chances 28 = .ok (.iadd, 1) := by decide +kernel
theorem dX5_chances_29 : decode cX5_chances 29 = .ok (.istore_n 1, 1) := by decide +kernel
theorem dX5_chances_30 : decode cX5_chances 30 = .ok (.iinc 2 1, 3) := by decide +kernel
theorem dX5_chances_33 : decode cX5_chances 33 = .ok (.goto (-29), 3) := by decide +kernel
theorem dX5_chances_36 : decode cX5_chances 36 = .ok (.iload_n 1, 1) := by decide +kernel
theorem dX5_chances_37 : decode cX5_chances 37 = .ok (.ireturn, 1) := by decide +kernel
theorem dX5_numberOf_0 : decode cX5_numberOf 0 = .ok (.iconst 0, 1) := by decide +kernel
theorem dX5_numberOf_1 : decode cX5_numberOf 1 = .ok (.istore_n 2, 1) := by decide +kernel
theorem dX5_numberOf_2 : decode cX5_numberOf 2 = .ok (.iconst 0, 1) := by decide +kernel
theorem dX5_numberOf_3 : decode cX5_numberOf 3 = .ok (.istore_n 3, 1) := by decide +kernel
theorem dX5_numberOf_4 : decode cX5_numberOf 4 = .ok (.iload_n 3, 1) := by decide +kernel
theorem dX5_numberOf_5 : decode cX5_numberOf 5 = .ok (.iload_n 1, 1) := by decide +kernel
theorem dX5_numberOf_6 : decode cX5_numberOf 6 = .ok (.if_icmp .ge 27, 3) := by decide +kernel
theorem dX5_numberOf_9 : decode cX5_numberOf 9 = .ok (.iload_n 2, 1) := by decide +kernel
theorem dX5_numberOf_10 : decode cX5_numberOf 10 = .ok (.aload_n 0, 1) := by decide +kernel
theorem dX5_numberOf_11 : decode cX5_numberOf 11 = .ok (.getfield 16, 3) := by decide +kernel
theorem dX5_numberOf_14 : decode cX5_numberOf 14 = .ok (.iload_n 3, 1) := by decide +kernel
theorem dX5_numberOf_15 : decode cX5_numberOf 15 = .ok (.iaload, 1) := by decide +kernel
theorem dX5_numberOf_16 : decode cX5_numberOf 16 = .ok (.iconst 2, 1) := by decide +kernel
theorem dX5_numberOf_17 : decode cX5_numberOf 17 = .ok (.if_icmp .ne 7, 3) := by decide +kernel
theorem dX5_numberOf_20 : decode cX5_numberOf 20 = .ok (.iconst 1, 1) := by decide +kernel
theorem dX5_numberOf_21 : decode cX5_numberOf 21 = .ok (.goto 4, 3) := by decide +kernel
theorem dX5_numberOf_24 : decode cX5_numberOf 24 = .ok (.iconst 0, 1) := by decide +kernel
theorem dX5_numberOf_25 : decode cX5_numberOf 25 = .ok (.iadd, 1) := by decide +kernel
theorem dX5_numberOf_26 : decode cX5_numberOf 26 = .ok (.istore_n 2, 1) := by decide +kernel
theorem dX5_numberOf_27 : decode cX5_numberOf 27 = .ok (.iinc 3 1, 3) := by decide +kernel
theorem dX5_numberOf_30 : decode cX5_numberOf 30 = .ok (.goto (-26), 3) := by decide +kernel
theorem dX5_numberOf_33 : decode cX5_numberOf 33 = .ok (.iload_n 2, 1) := by decide +kernel
theorem dX5_numberOf_34 : decode cX5_numberOf 34 = .ok (.ireturn, 1) := by decide +kernel
theorem dX5_isElder_0 : decode cX5_isElder 0 = .ok (.iconst 0, 1) := by decide +kernel
theorem dX5_isElder_1 : decode cX5_isElder 1 = .ok (.istore_n 2, 1) := by decide +kernel
theorem dX5_isElder_2 : decode cX5_isElder 2 = .ok (.iconst 0, 1) := by decide +kernel
theorem dX5_isElder_3 : decode cX5_isElder 3 = .ok (.istore_n 3, 1) := by decide +kernel
theorem dX5_isElder_4 : decode cX5_isElder 4 = .ok (.iload_n 3, 1) := by decide +kernel
theorem dX5_isElder_5 : decode cX5_isElder 5 = .ok (.aload_n 0, 1) := by decide +kernel
theorem dX5_isElder_6 : decode cX5_isElder 6 = .ok (.invokevirtual 78, 3) := by decide +kernel
theorem dX5_isElder_9 : decode cX5_isElder 9 = .ok (.if_icmp .ge 27, 3) := by decide +kernel
theorem dX5_isElder_12 : decode cX5_isElder 12 = .ok (.iload_n 2, 1) := by decide +kernel
theorem dX5_isElder_13 : decode cX5_isElder 13 = .ok (.aload_n 0, 1) := by decide +kernel
theorem dX5_isElder_14 : decode cX5_isElder 14 = .ok (.getfield 20, 3) := by decide +kernel
theorem dX5_isElder_17 : decode cX5_isElder 17 = .ok (.iload_n 3, 1) := by decide +kernel
theorem dX5_isElder_18 : decode cX5_isElder 18 = .ok (.iaload, 1) := by decide +kernel
theorem dX5_isElder_19 : decode cX5_isElder 19 = .ok (.iload_n 1, 1) := by decide +kernel
theorem dX5_isElder_20 : decode cX5_isElder 20 = .ok (.if_icmp .ne 7, 3) := by decide +kernel
theorem dX5_isElder_23 : decode cX5_isElder 23 = .ok (.iconst 1, 1) := by decide +kernel
theorem dX5_isElder_24 : decode cX5_isElder 24 = .ok (.goto 4, 3) := by decide +kernel
theorem dX5_isElder_27 : decode cX5_isElder 27 = .ok (.iconst 0, 1) := by decide +kernel
theorem dX5_isElder_28 : decode cX5_isElder 28 = .ok (.ior, 1) := by decide +kernel
theorem dX5_isElder_29 : decode cX5_isElder 29 = .ok (.istore_n 2, 1) := by decide +kernel
theorem dX5_isElder_30 : decode cX5_isElder 30 = .ok (.iinc 3 1, 3) := by decide +kernel
theorem dX5_isElder_33 : decode cX5_isElder 33 = .ok (.goto (-29), 3) := by decide +kernel
theorem dX5_isElder_36 : decode cX5_isElder 36 = .ok (.iload_n 2, 1) := by decide +kernel
theorem dX5_isElder_37 : decode cX5_isElder 37 = .ok (.ireturn, 1) := by decide +kernel
theorem dX5_isSetting_0 : decode cX5_isSetting 0 = .ok (.iload_n 1, 1) := by decide +kernel
theorem dX5_isSetting_1 : decode cX5_isSetting 1 = .ok (.iconst 0, 1) := by decide +kernel
theorem dX5_isSetting_2 : decode cX5_isSetting 2 = .ok (.iconst 1, 1) := by decide +kernel
theorem dX5_isSetting_3 : decode cX5_isSetting 3 = .ok (.aload_n 0, 1) := by decide +kernel
theorem dX5_isSetting_4 : decode cX5_isSetting 4 = .ok (.invokevirtual 85, 3) := by decide +kernel
theorem dX5_isSetting_7 : decode cX5_isSetting 7 = .ok (.ishl, 1) := by decide +kernel
theorem dX5_isSetting_8 : decode cX5_isSetting 8 = .ok (.iconst 1, 1) := by decide +kernel
theorem dX5_isSetting_9 : decode cX5_isSetting 9 = .ok (.isub, 1) := by decide +kernel
theorem dX5_isSetting_10 : decode cX5_isSetting 10 = .ok (.invokestatic 81, 3) := by decide +kernel
theorem dX5_isSetting_13 : decode cX5_isSetting 13 = .ok (.ireturn, 1) := by decide +kernel
theorem dX5_ground_0 : decode cX5_ground 0 = .ok (.aload_n 0, 1) := by decide +kernel
theorem dX5_ground_1 : decode cX5_ground 1 = .ok (.iconst 0, 1) := by decide +kernel
theorem dX5_ground_2 : decode cX5_ground 2 = .ok (.putfield 58, 3) := by decide +kernel
theorem dX5_ground_5 : decode cX5_ground 5 = .ok (.iload_n 1, 1) := by decide +kernel
theorem dX5_ground_6 : decode cX5_ground 6 = .ok (.iconst 1, 1) := by decide +kernel
theorem dX5_ground_7 : decode cX5_ground 7 = .ok (.iconst 5, 1) := by decide +kernel
theorem dX5_ground_8 : decode cX5_ground 8 = .ok (.invokestatic 81, 3) := by decide +kernel
theorem dX5_ground_11 : decode cX5_ground 11 = .ok (.ifCond .eq 12, 3) := by decide +kernel
theorem dX5_ground_14 : decode cX5_ground 14 = .ok (.iload_n 2, 1) := by decide +kernel
theorem dX5_ground_15 : decode cX5_ground 15 = .ok (.iconst 1, 1) := by decide +kernel
theorem dX5_ground_16 : decode cX5_ground 16 = .ok (.iconst 5, 1) := by decide +kernel
theorem dX5_ground_17 : decode cX5_ground 17 = .ok (.invokestatic 81, 3) := by decide +kernel
theorem dX5_ground_20 : decode cX5_ground 20 = .ok (.ifCond .ne 5, 3) := by decide +kernel
theorem dX5_ground_23 : decode cX5_ground 23 = .ok (.iconst (-1), 1) := by decide +kernel
theorem dX5_ground_24 : decode cX5_ground 24 = .ok (.ireturn, 1) := by decide +kernel
theorem dX5_ground_25 : decode cX5_ground 25 = .ok (.aload_n 0, 1) := by decide +kernel
theorem dX5_ground_26 : decode cX5_ground 26 = .ok (.iload_n 1, 1) := by decide +kernel
theorem dX5_ground_27 : decode cX5_ground 27 = .ok (.putfield 7, 3) := by decide +kernel
theorem dX5_ground_30 : decode cX5_ground 30 = .ok (.aload_n 0, 1) := by decide +kernel
theorem dX5_ground_31 : decode cX5_ground 31 = .ok (.iload_n 2, 1) := by decide +kernel
theorem dX5_ground_32 : decode cX5_ground 32 = .ok (.putfield 13, 3) := by decide +kernel
theorem dX5_ground_35 : decode cX5_ground 35 = .ok (.aload_n 0, 1) := by decide +kernel
theorem dX5_ground_36 : decode cX5_ground 36 = .ok (.iload_n 3, 1) := by decide +kernel
theorem dX5_ground_37 : decode cX5_ground 37 = .ok (.putfield 69, 3) := by decide +kernel
theorem dX5_ground_40 : decode cX5_ground 40 = .ok (.aload_n 0, 1) := by decide +kernel
theorem dX5_ground_41 : decode cX5_ground 41 = .ok (.iconst 1, 1) := by decide +kernel
theorem dX5_ground_42 : decode cX5_ground 42 = .ok (.invokevirtual 54, 3) := by decide +kernel
theorem dX5_ground_45 : decode cX5_ground 45 = .ok (.aload_n 0, 1) := by decide +kernel
theorem dX5_ground_46 : decode cX5_ground 46 = .ok (.invokevirtual 78, 3) := by decide +kernel
theorem dX5_ground_49 : decode cX5_ground 49 = .ok (.ireturn, 1) := by decide +kernel
theorem dX5_becomes_0 : decode cX5_becomes 0 = .ok (.aload_n 0, 1) := by decide +kernel
theorem dX5_becomes_1 : decode cX5_becomes 1 = .ok (.iload_n 1, 1) := by decide +kernel
theorem dX5_becomes_2 : decode cX5_becomes 2 = .ok (.invokevirtual 88, 3) := by decide +kernel
theorem dX5_becomes_5 : decode cX5_becomes 5 = .ok (.ifCond .eq 12, 3) := by decide +kernel
theorem dX5_becomes_8 : decode cX5_becomes 8 = .ok (.iload_n 2, 1) := by decide +kernel
theorem dX5_becomes_9 : decode cX5_becomes 9 = .ok (.iconst 0, 1) := by decide +kernel
theorem dX5_becomes_10 : decode cX5_becomes 10 = .ok (.iconst 2, 1) := by decide +kernel
theorem dX5_becomes_11 : decode cX5_becomes 11 = .ok (.invokestatic 81, 3) := by decide +kernel
theorem dX5_becomes_14 : decode cX5_becomes 14 = .ok (.ifCond .ne 5, 3) := by decide +kernel
theorem dX5_becomes_17 : decode cX5_becomes 17 = .ok (.iconst (-1), 1) := by decide +kernel
theorem dX5_becomes_18 : decode cX5_becomes 18 = .ok (.ireturn, 1) := by decide +kernel
theorem dX5_becomes_19 : decode cX5_becomes 19 = .ok (.iload_n 2, 1) := by decide +kernel
theorem dX5_becomes_20 : decode cX5_becomes 20 = .ok (.iconst 2, 1) := by decide +kernel
theorem dX5_becomes_21 : decode cX5_becomes 21 = .ok (.if_icmp .eq 14, 3) := by decide +kernel
theorem dX5_becomes_24 : decode cX5_becomes 24 = .ok (.aload_n 0, 1) := by decide +kernel
theorem dX5_becomes_25 : decode cX5_becomes 25 = .ok (.iload_n 1, 1) := by decide +kernel
theorem dX5_becomes_26 : decode cX5_becomes 26 = .ok (.invokevirtual 92, 3) := by decide +kernel
theorem dX5_becomes_29 : decode cX5_becomes 29 = .ok (.ifCond .eq 6, 3) := by decide +kernel
theorem dX5_becomes_32 : decode cX5_becomes 32 = .ok (.bipush (-2), 2) := by decide +kernel
theorem dX5_becomes_34 : decode cX5_becomes 34 = .ok (.ireturn, 1) := by decide +kernel
theorem dX5_becomes_35 : decode cX5_becomes 35 = .ok (.iload_n 2, 1) := by decide +kernel
theorem dX5_becomes_36 : decode cX5_becomes 36 = .ok (.iconst 2, 1) := by decide +kernel
theorem dX5_becomes_37 : decode cX5_becomes 37 = .ok (.if_icmp .ne 25, 3) := by decide +kernel
theorem dX5_becomes_40 : decode cX5_becomes 40 = .ok (.aload_n 0, 1) := by decide +kernel
theorem dX5_becomes_41 : decode cX5_becomes 41 = .ok (.getfield 16, 3) := by decide +kernel
theorem dX5_becomes_44 : decode cX5_becomes 44 = .ok (.iload_n 1, 1) := by decide +kernel
theorem dX5_becomes_45 : decode cX5_becomes 45 = .ok (.iaload, 1) := by decide +kernel
theorem dX5_becomes_46 : decode cX5_becomes 46 = .ok (.iconst 2, 1) := by decide +kernel
theorem dX5_becomes_47 : decode cX5_becomes 47 = .ok (.if_icmp .eq 15, 3) := by decide +kernel
theorem dX5_becomes_50 : decode cX5_becomes 50 = .ok (.aload_n 0, 1) := by decide +kernel
theorem dX5_becomes_51 : decode cX5_becomes 51 = .ok (.invokevirtual 85, 3) := by decide +kernel
theorem dX5_becomes_54 : decode cX5_becomes 54 = .ok (.bipush 12, 2) := by decide +kernel
theorem dX5_becomes_56 : decode cX5_becomes 56 = .ok (.if_icmp .ne 6, 3) := by decide +kernel
theorem dX5_becomes_59 : decode cX5_becomes 59 = .ok (.bipush (-3), 2) := by decide +kernel
theorem dX5_becomes_61 : decode cX5_becomes 61 = .ok (.ireturn, 1) := by decide +kernel
theorem dX5_becomes_62 : decode cX5_becomes 62 = .ok (.aload_n 0, 1) := by decide +kernel
theorem dX5_becomes_63 : decode cX5_becomes 63 = .ok (.getfield 16, 3) := by decide +kernel
theorem dX5_becomes_66 : decode cX5_becomes 66 = .ok (.iload_n 1, 1) := by decide +kernel
theorem dX5_becomes_67 : decode cX5_becomes 67 = .ok (.iaload, 1) := by decide +kernel
theorem dX5_becomes_68 : decode cX5_becomes 68 = .ok (.istore_n 3, 1) := by decide +kernel
theorem dX5_becomes_69 : decode cX5_becomes 69 = .ok (.aload_n 0, 1) := by decide +kernel
theorem dX5_becomes_70 : decode cX5_becomes 70 = .ok (.getfield 16, 3) := by decide +kernel
theorem dX5_becomes_73 : decode cX5_becomes 73 = .ok (.iload_n 1, 1) := by decide +kernel
theorem dX5_becomes_74 : decode cX5_becomes 74 = .ok (.iload_n 2, 1) := by decide +kernel
theorem dX5_becomes_75 : decode cX5_becomes 75 = .ok (.iastore, 1) := by decide +kernel
theorem dX5_becomes_76 : decode cX5_becomes 76 = .ok (.aload_n 0, 1) := by decide +kernel
theorem dX5_becomes_77 : decode cX5_becomes 77 = .ok (.getfield 20, 3) := by decide +kernel
theorem dX5_becomes_80 : decode cX5_becomes 80 = .ok (.iload_n 1, 1) := by decide +kernel
theorem dX5_becomes_81 : decode cX5_becomes 81 = .ok (.bipush (-9), 2) := by decide +kernel
theorem dX5_becomes_83 : decode cX5_becomes 83 = .ok (.iastore, 1) := by decide +kernel
theorem dX5_becomes_84 : decode cX5_becomes 84 = .ok (.aload_n 0, 1) := by decide +kernel
theorem dX5_becomes_85 : decode cX5_becomes 85 = .ok (.iconst 0, 1) := by decide +kernel
theorem dX5_becomes_86 : decode cX5_becomes 86 = .ok (.putfield 61, 3) := by decide +kernel
theorem dX5_becomes_89 : decode cX5_becomes 89 = .ok (.iload_n 3, 1) := by decide +kernel
theorem dX5_becomes_90 : decode cX5_becomes 90 = .ok (.ireturn, 1) := by decide +kernel
theorem dX5_kind_0 : decode cX5_kind 0 = .ok (.aload_n 0, 1) := by decide +kernel
theorem dX5_kind_1 : decode cX5_kind 1 = .ok (.iconst 0, 1) := by decide +kernel
theorem dX5_kind_2 : decode cX5_kind 2 = .ok (.putfield 58, 3) := by decide +kernel
theorem dX5_kind_5 : decode cX5_kind 5 = .ok (.aload_n 0, 1) := by decide +kernel
theorem dX5_kind_6 : decode cX5_kind 6 = .ok (.iload_n 1, 1) := by decide +kernel
theorem dX5_kind_7 : decode cX5_kind 7 = .ok (.iload_n 2, 1) := by decide +kernel
theorem dX5_kind_8 : decode cX5_kind 8 = .ok (.invokevirtual 95, 3) := by decide +kernel
theorem dX5_kind_11 : decode cX5_kind 11 = .ok (.ireturn, 1) := by decide +kernel
theorem dX5_twin_0 : decode cX5_twin 0 = .ok (.aload_n 0, 1) := by decide +kernel
theorem dX5_twin_1 : decode cX5_twin 1 = .ok (.iconst 0, 1) := by decide +kernel
theorem dX5_twin_2 : decode cX5_twin 2 = .ok (.putfield 58, 3) := by decide +kernel
theorem dX5_twin_5 : decode cX5_twin 5 = .ok (.aload_n 0, 1) := by decide +kernel
theorem dX5_twin_6 : decode cX5_twin 6 = .ok (.iload_n 1, 1) := by decide +kernel
theorem dX5_twin_7 : decode cX5_twin 7 = .ok (.invokevirtual 88, 3) := by decide +kernel
theorem dX5_twin_10 : decode cX5_twin 10 = .ok (.ifCond .eq 26, 3) := by decide +kernel
theorem dX5_twin_13 : decode cX5_twin 13 = .ok (.aload_n 0, 1) := by decide +kernel
theorem dX5_twin_14 : decode cX5_twin 14 = .ok (.iload_n 2, 1) := by decide +kernel
theorem dX5_twin_15 : decode cX5_twin 15 = .ok (.invokevirtual 88, 3) := by decide +kernel
theorem dX5_twin_18 : decode cX5_twin 18 = .ok (.ifCond .eq 18, 3) := by decide +kernel
theorem dX5_twin_21 : decode cX5_twin 21 = .ok (.iload_n 1, 1) := by decide +kernel
theorem dX5_twin_22 : decode cX5_twin 22 = .ok (.iload_n 2, 1) := by decide +kernel
theorem dX5_twin_23 : decode cX5_twin 23 = .ok (.if_icmp .eq 13, 3) := by decide +kernel
theorem dX5_twin_26 : decode cX5_twin 26 = .ok (.aload_n 0, 1) := by decide +kernel
theorem dX5_twin_27 : decode cX5_twin 27 = .ok (.getfield 16, 3) := by decide +kernel
theorem dX5_twin_30 : decode cX5_twin 30 = .ok (.iload_n 2, 1) := by decide +kernel
theorem dX5_twin_31 : decode cX5_twin 31 = .ok (.iaload, 1) := by decide +kernel
theorem dX5_twin_32 : decode cX5_twin 32 = .ok (.iconst 2, 1) := by decide +kernel
theorem dX5_twin_33 : decode cX5_twin 33 = .ok (.if_icmp .eq 5, 3) := by decide +kernel
theorem dX5_twin_36 : decode cX5_twin 36 = .ok (.iconst (-1), 1) := by decide +kernel
theorem dX5_twin_37 : decode cX5_twin 37 = .ok (.ireturn, 1) := by decide +kernel
theorem dX5_twin_38 : decode cX5_twin 38 = .ok (.aload_n 0, 1) := by decide +kernel
theorem dX5_twin_39 : decode cX5_twin 39 = .ok (.iload_n 1, 1) := by decide +kernel
theorem dX5_twin_40 : decode cX5_twin 40 = .ok (.invokevirtual 92, 3) := by decide +kernel
theorem dX5_twin_43 : decode cX5_twin 43 = .ok (.ifCond .eq 6, 3) := by decide +kernel
theorem dX5_twin_46 : decode cX5_twin 46 = .ok (.bipush (-2), 2) := by decide +kernel
theorem dX5_twin_48 : decode cX5_twin 48 = .ok (.ireturn, 1) := by decide +kernel
theorem dX5_twin_49 : decode cX5_twin 49 = .ok (.aload_n 0, 1) := by decide +kernel
theorem dX5_twin_50 : decode cX5_twin 50 = .ok (.getfield 16, 3) := by decide +kernel
theorem dX5_twin_53 : decode cX5_twin 53 = .ok (.iload_n 1, 1) := by decide +kernel
theorem dX5_twin_54 : decode cX5_twin 54 = .ok (.iaload, 1) := by decide +kernel
theorem dX5_twin_55 : decode cX5_twin 55 = .ok (.istore 4, 2) := by decide +kernel
theorem dX5_twin_57 : decode cX5_twin 57 = .ok (.aload_n 0, 1) := by decide +kernel
theorem dX5_twin_58 : decode cX5_twin 58 = .ok (.getfield 16, 3) := by decide +kernel
theorem dX5_twin_61 : decode cX5_twin 61 = .ok (.iload_n 1, 1) := by decide +kernel
theorem dX5_twin_62 : decode cX5_twin 62 = .ok (.iload_n 3, 1) := by decide +kernel
theorem dX5_twin_63 : decode cX5_twin 63 = .ok (.ifCond .eq 7, 3) := by decide +kernel
theorem dX5_twin_66 : decode cX5_twin 66 = .ok (.iconst 4, 1) := by decide +kernel
theorem dX5_twin_67 : decode cX5_twin 67 = .ok (.goto 4, 3) := by decide +kernel
theorem dX5_twin_70 : decode cX5_twin 70 = .ok (.iconst 3, 1) := by decide +kernel
theorem dX5_twin_71 : decode cX5_twin 71 = .ok (.iastore, 1) := by decide +kernel
theorem dX5_twin_72 : decode cX5_twin 72 = .ok (.aload_n 0, 1) := by decide +kernel
theorem dX5_twin_73 : decode cX5_twin 73 = .ok (.getfield 20, 3) := by decide +kernel
theorem dX5_twin_76 : decode cX5_twin 76 = .ok (.iload_n 1, 1) := by decide +kernel
theorem dX5_twin_77 : decode cX5_twin 77 = .ok (.iload_n 2, 1) := by decide +kernel
theorem dX5_twin_78 : decode cX5_twin 78 = .ok (.iastore, 1) := by decide +kernel
theorem dX5_twin_79 : decode cX5_twin 79 = .ok (.aload_n 0, 1) := by decide +kernel
theorem dX5_twin_80 : decode cX5_twin 80 = .ok (.iconst 0, 1) := by decide +kernel
theorem dX5_twin_81 : decode cX5_twin 81 = .ok (.putfield 61, 3) := by decide +kernel
theorem dX5_twin_84 : decode cX5_twin 84 = .ok (.iload 4, 2) := by decide +kernel
theorem dX5_twin_86 : decode cX5_twin 86 = .ok (.ireturn, 1) := by decide +kernel
theorem dX5_about_0 : decode cX5_about 0 = .ok (.aload_n 0, 1) := by decide +kernel
theorem dX5_about_1 : decode cX5_about 1 = .ok (.iconst 0, 1) := by decide +kernel
theorem dX5_about_2 : decode cX5_about 2 = .ok (.putfield 58, 3) := by decide +kernel
theorem dX5_about_5 : decode cX5_about 5 = .ok (.aload_n 0, 1) := by decide +kernel
theorem dX5_about_6 : decode cX5_about 6 = .ok (.iload_n 1, 1) := by decide +kernel
theorem dX5_about_7 : decode cX5_about 7 = .ok (.invokevirtual 88, 3) := by decide +kernel
theorem dX5_about_10 : decode cX5_about 10 = .ok (.ifCond .eq 12, 3) := by decide +kernel
theorem dX5_about_13 : decode cX5_about 13 = .ok (.iload_n 2, 1) := by decide +kernel
theorem dX5_about_14 : decode cX5_about 14 = .ok (.iconst 0, 1) := by decide +kernel
theorem dX5_about_15 : decode cX5_about 15 = .ok (.iconst 4, 1) := by decide +kernel
theorem dX5_about_16 : decode cX5_about 16 = .ok (.invokestatic 81, 3) := by decide +kernel
theorem dX5_about_19 : decode cX5_about 19 = .ok (.ifCond .ne 5, 3) := by decide +kernel
theorem dX5_about_22 : decode cX5_about 22 = .ok (.iconst (-1), 1) := by decide +kernel
theorem dX5_about_23 : decode cX5_about 23 = .ok (.ireturn, 1) := by decide +kernel
theorem dX5_about_24 : decode cX5_about 24 = .ok (.iload_n 2, 1) := by decide +kernel
theorem dX5_about_25 : decode cX5_about 25 = .ok (.tableswitch 84 0 3 #[31, 38, 45, 66], 31) := by decide +kernel
theorem dX5_about_56 : decode cX5_about 56 = .ok (.aload_n 0, 1) := by decide +kernel
theorem dX5_about_57 : decode cX5_about 57 = .ok (.getfield 16, 3) := by decide +kernel
theorem dX5_about_60 : decode cX5_about 60 = .ok (.iload_n 1, 1) := by decide +kernel
theorem dX5_about_61 : decode cX5_about 61 = .ok (.iaload, 1) := by decide +kernel
theorem dX5_about_62 : decode cX5_about 62 = .ok (.ireturn, 1) := by decide +kernel
theorem dX5_about_63 : decode cX5_about 63 = .ok (.aload_n 0, 1) := by decide +kernel
theorem dX5_about_64 : decode cX5_about 64 = .ok (.getfield 20, 3) := by decide +kernel
theorem dX5_about_67 : decode cX5_about 67 = .ok (.iload_n 1, 1) := by decide +kernel
theorem dX5_about_68 : decode cX5_about 68 = .ok (.iaload, 1) := by decide +kernel
theorem dX5_about_69 : decode cX5_about 69 = .ok (.ireturn, 1) := by decide +kernel
theorem dX5_about_70 : decode cX5_about 70 = .ok (.aload_n 0, 1) := by decide +kernel
theorem dX5_about_71 : decode cX5_about 71 = .ok (.getfield 16, 3) := by decide +kernel
theorem dX5_about_74 : decode cX5_about 74 = .ok (.iload_n 1, 1) := by decide +kernel
theorem dX5_about_75 : decode cX5_about 75 = .ok (.iaload, 1) := by decide +kernel
theorem dX5_about_76 : decode cX5_about 76 = .ok (.iconst 2, 1) := by decide +kernel
theorem dX5_about_77 : decode cX5_about 77 = .ok (.if_icmp .ne 11, 3) := by decide +kernel
theorem dX5_about_80 : decode cX5_about 80 = .ok (.aload_n 0, 1) := by decide +kernel
theorem dX5_about_81 : decode cX5_about 81 = .ok (.iload_n 1, 1) := by decide +kernel
theorem dX5_about_82 : decode cX5_about 82 = .ok (.invokevirtual 99, 3) := by decide +kernel
theorem dX5_about_85 : decode cX5_about 85 = .ok (.goto 5, 3) := by decide +kernel
theorem dX5_about_88 : decode cX5_about 88 = .ok (.bipush (-9), 2) := by decide +kernel
theorem dX5_about_90 : decode cX5_about 90 = .ok (.ireturn, 1) := by decide +kernel
theorem dX5_about_91 : decode cX5_about 91 = .ok (.aload_n 0, 1) := by decide +kernel
theorem dX5_about_92 : decode cX5_about 92 = .ok (.getfield 69, 3) := by decide +kernel
theorem dX5_about_95 : decode cX5_about 95 = .ok (.ifCond .eq 7, 3) := by decide +kernel
theorem dX5_about_98 : decode cX5_about 98 = .ok (.iload_n 1, 1) := by decide +kernel
theorem dX5_about_99 : decode cX5_about 99 = .ok (.goto 9, 3) := by decide +kernel
theorem dX5_about_102 : decode cX5_about 102 = .ok (.aload_n 0, 1) := by decide +kernel
theorem dX5_about_103 : decode cX5_about 103 = .ok (.iload_n 1, 1) := by decide +kernel
theorem dX5_about_104 : decode cX5_about 104 = .ok (.iconst 0, 1) := by decide +kernel
theorem dX5_about_105 : decode cX5_about 105 = .ok (.invokevirtual 103, 3) := by decide +kernel
theorem dX5_about_108 : decode cX5_about 108 = .ok (.ireturn, 1) := by decide +kernel
theorem dX5_about_109 : decode cX5_about 109 = .ok (.aload_n 0, 1) := by decide +kernel
theorem dX5_about_110 : decode cX5_about 110 = .ok (.getfield 69, 3) := by decide +kernel
theorem dX5_about_113 : decode cX5_about 113 = .ok (.ifCond .eq 7, 3) := by decide +kernel
theorem dX5_about_116 : decode cX5_about 116 = .ok (.iload_n 1, 1) := by decide +kernel
theorem dX5_about_117 : decode cX5_about 117 = .ok (.goto 9, 3) := by decide +kernel
theorem dX5_about_120 : decode cX5_about 120 = .ok (.aload_n 0, 1) := by decide +kernel
theorem dX5_about_121 : decode cX5_about 121 = .ok (.iload_n 1, 1) := by decide +kernel
theorem dX5_about_122 : decode cX5_about 122 = .ok (.iconst 1, 1) := by decide +kernel
theorem dX5_about_123 : decode cX5_about 123 = .ok (.invokevirtual 103, 3) := by decide +kernel
theorem dX5_about_126 : decode cX5_about 126 = .ok (.ireturn, 1) := by decide +kernel
theorem dX5_told_0 : decode cX5_told 0 = .ok (.aload_n 0, 1) := by decide +kernel
theorem dX5_told_1 : decode cX5_told 1 = .ok (.iconst 0, 1) := by decide +kernel
theorem dX5_told_2 : decode cX5_told 2 = .ok (.putfield 58, 3) := by decide +kernel
theorem dX5_told_5 : decode cX5_told 5 = .ok (.iconst 0, 1) := by decide +kernel
theorem dX5_told_6 : decode cX5_told 6 = .ok (.istore_n 2, 1) := by decide +kernel
theorem dX5_told_7 : decode cX5_told 7 = .ok (.iconst 0, 1) := by decide +kernel
theorem dX5_told_8 : decode cX5_told 8 = .ok (.istore_n 3, 1) := by decide +kernel
theorem dX5_told_9 : decode cX5_told 9 = .ok (.iload_n 3, 1) := by decide +kernel
theorem dX5_told_10 : decode cX5_told 10 = .ok (.aload_n 0, 1) := by decide +kernel
theorem dX5_told_11 : decode cX5_told 11 = .ok (.invokevirtual 78, 3) := by decide +kernel
theorem dX5_told_14 : decode cX5_told 14 = .ok (.if_icmp .ge 27, 3) := by decide +kernel
theorem dX5_told_17 : decode cX5_told 17 = .ok (.iload_n 2, 1) := by decide +kernel
theorem dX5_told_18 : decode cX5_told 18 = .ok (.aload_n 0, 1) := by decide +kernel
theorem dX5_told_19 : decode cX5_told 19 = .ok (.getfield 16, 3) := by decide +kernel
theorem dX5_told_22 : decode cX5_told 22 = .ok (.iload_n 3, 1) := by decide +kernel
theorem dX5_told_23 : decode cX5_told 23 = .ok (.iaload, 1) := by decide +kernel
theorem dX5_told_24 : decode cX5_told 24 = .ok (.iconst 3, 1) := by decide +kernel
theorem dX5_told_25 : decode cX5_told 25 = .ok (.if_icmp .lt 7, 3) := by decide +kernel
theorem dX5_told_28 : decode cX5_told 28 = .ok (.iconst 1, 1) := by decide +kernel
theorem dX5_told_29 : decode cX5_told 29 = .ok (.goto 4, 3) := by decide +kernel
theorem dX5_told_32 : decode cX5_told 32 = .ok (.iconst 0, 1) := by decide +kernel
theorem dX5_told_33 : decode cX5_told 33 = .ok (.iadd, 1) := by decide +kernel
theorem dX5_told_34 : decode cX5_told 34 = .ok (.istore_n 2, 1) := by decide +kernel
theorem dX5_told_35 : decode cX5_told 35 = .ok (.iinc 3 1, 3) := by decide +kernel
theorem dX5_told_38 : decode cX5_told 38 = .ok (.goto (-29), 3) := by decide +kernel
theorem dX5_told_41 : decode cX5_told 41 = .ok (.iload_n 1, 1) := by decide +kernel
theorem dX5_told_42 : decode cX5_told 42 = .ok (.tableswitch 73 0 5 #[38, 43, 48, 61, 66, 71], 38) := by decide +kernel
theorem dX5_told_80 : decode cX5_told 80 = .ok (.aload_n 0, 1) := by decide +kernel
theorem dX5_told_81 : decode cX5_told 81 = .ok (.getfield 7, 3) := by decide +kernel
theorem dX5_told_84 : decode cX5_told 84 = .ok (.ireturn, 1) := by decide +kernel
theorem dX5_told_85 : decode cX5_told 85 = .ok (.aload_n 0, 1) := by decide +kernel
theorem dX5_told_86 : decode cX5_told 86 = .ok (.getfield 13, 3) := by decide +kernel
theorem dX5_told_89 : decode cX5_told 89 = .ok (.ireturn, 1) := by decide +kernel
theorem dX5_told_90 : decode cX5_told 90 = .ok (.aload_n 0, 1) := by decide +kernel
theorem dX5_told_91 : decode cX5_told 91 = .ok (.getfield 69, 3) := by decide +kernel
theorem dX5_told_94 : decode cX5_told 94 = .ok (.ifCond .eq 7, 3) := by decide +kernel
theorem dX5_told_97 : decode cX5_told 97 = .ok (.iconst 1, 1) := by decide +kernel
theorem dX5_told_98 : decode cX5_told 98 = .ok (.goto 4, 3) := by decide +kernel
theorem dX5_told_101 : decode cX5_told 101 = .ok (.iconst 0, 1) := by decide +kernel
theorem dX5_told_102 : decode cX5_told 102 = .ok (.ireturn, 1) := by decide +kernel
theorem dX5_told_103 : decode cX5_told 103 = .ok (.aload_n 0, 1) := by decide +kernel
theorem dX5_told_104 : decode cX5_told 104 = .ok (.invokevirtual 78, 3) := by decide +kernel
theorem dX5_told_107 : decode cX5_told 107 = .ok (.ireturn, 1) := by decide +kernel
theorem dX5_told_108 : decode cX5_told 108 = .ok (.aload_n 0, 1) := by decide +kernel
theorem dX5_told_109 : decode cX5_told 109 = .ok (.invokevirtual 85, 3) := by decide +kernel
theorem dX5_told_112 : decode cX5_told 112 = .ok (.ireturn, 1) := by decide +kernel
theorem dX5_told_113 : decode cX5_told 113 = .ok (.iload_n 2, 1) := by decide +kernel
theorem dX5_told_114 : decode cX5_told 114 = .ok (.ireturn, 1) := by decide +kernel
theorem dX5_told_115 : decode cX5_told 115 = .ok (.iconst (-1), 1) := by decide +kernel
theorem dX5_told_116 : decode cX5_told 116 = .ok (.ireturn, 1) := by decide +kernel
theorem dX5_opensBy_0 : decode cX5_opensBy 0 = .ok (.aload_n 0, 1) := by decide +kernel
theorem dX5_opensBy_1 : decode cX5_opensBy 1 = .ok (.getfield 16, 3) := by decide +kernel
theorem dX5_opensBy_4 : decode cX5_opensBy 4 = .ok (.iload_n 1, 1) := by decide +kernel
theorem dX5_opensBy_5 : decode cX5_opensBy 5 = .ok (.iaload, 1) := by decide +kernel
theorem dX5_opensBy_6 : decode cX5_opensBy 6 = .ok (.tableswitch 77 0 3 #[30, 32, 34, 53], 30) := by decide +kernel
theorem dX5_opensBy_36 : decode cX5_opensBy 36 = .ok (.iconst 0, 1) := by decide +kernel
theorem dX5_opensBy_37 : decode cX5_opensBy 37 = .ok (.ireturn, 1) := by decide +kernel
theorem dX5_opensBy_38 : decode cX5_opensBy 38 = .ok (.iconst 1, 1) := by decide +kernel
theorem dX5_opensBy_39 : decode cX5_opensBy 39 = .ok (.ireturn, 1) := by decide +kernel
theorem dX5_opensBy_40 : decode cX5_opensBy 40 = .ok (.iload_n 2, 1) := by decide +kernel
theorem dX5_opensBy_41 : decode cX5_opensBy 41 = .ok (.aload_n 0, 1) := by decide +kernel
theorem dX5_opensBy_42 : decode cX5_opensBy 42 = .ok (.iload_n 1, 1) := by decide +kernel
theorem dX5_opensBy_43 : decode cX5_opensBy 43 = .ok (.invokevirtual 99, 3) := by decide +kernel
theorem dX5_opensBy_46 : decode cX5_opensBy 46 = .ok (.ishr, 1) := by decide +kernel
theorem dX5_opensBy_47 : decode cX5_opensBy 47 = .ok (.iconst 1, 1) := by decide +kernel
theorem dX5_opensBy_48 : decode cX5_opensBy 48 = .ok (.iand, 1) := by decide +kernel
theorem dX5_opensBy_49 : decode cX5_opensBy 49 = .ok (.iconst 1, 1) := by decide +kernel
theorem dX5_opensBy_50 : decode cX5_opensBy 50 = .ok (.if_icmp .ne 7, 3) := by decide +kernel
theorem dX5_opensBy_53 : decode cX5_opensBy 53 = .ok (.iconst 1, 1) := by decide +kernel
theorem dX5_opensBy_54 : decode cX5_opensBy 54 = .ok (.goto 4, 3) := by decide +kernel
theorem dX5_opensBy_57 : decode cX5_opensBy 57 = .ok (.iconst 0, 1) := by decide +kernel
theorem dX5_opensBy_58 : decode cX5_opensBy 58 = .ok (.ireturn, 1) := by decide +kernel
theorem dX5_opensBy_59 : decode cX5_opensBy 59 = .ok (.iload_n 2, 1) := by decide +kernel
theorem dX5_opensBy_60 : decode cX5_opensBy 60 = .ok (.aload_n 0, 1) := by decide +kernel
theorem dX5_opensBy_61 : decode cX5_opensBy 61 = .ok (.aload_n 0, 1) := by decide +kernel
theorem dX5_opensBy_62 : decode cX5_opensBy 62 = .ok (.getfield 20, 3) := by decide +kernel
theorem dX5_opensBy_65 : decode cX5_opensBy 65 = .ok (.iload_n 1, 1) := by decide +kernel
theorem dX5_opensBy_66 : decode cX5_opensBy 66 = .ok (.iaload, 1) := by decide +kernel
theorem dX5_opensBy_67 : decode cX5_opensBy 67 = .ok (.invokevirtual 99, 3) := by decide +kernel
theorem dX5_opensBy_70 : decode cX5_opensBy 70 = .ok (.ishr, 1) := by decide +kernel
theorem dX5_opensBy_71 : decode cX5_opensBy 71 = .ok (.iconst 1, 1) := by decide +kernel
theorem dX5_opensBy_72 : decode cX5_opensBy 72 = .ok (.iand, 1) := by decide +kernel
theorem dX5_opensBy_73 : decode cX5_opensBy 73 = .ok (.iconst 1, 1) := by decide +kernel
theorem dX5_opensBy_74 : decode cX5_opensBy 74 = .ok (.if_icmp .ne 7, 3) := by decide +kernel
theorem dX5_opensBy_77 : decode cX5_opensBy 77 = .ok (.iconst 1, 1) := by decide +kernel
theorem dX5_opensBy_78 : decode cX5_opensBy 78 = .ok (.goto 4, 3) := by decide +kernel
theorem dX5_opensBy_81 : decode cX5_opensBy 81 = .ok (.iconst 0, 1) := by decide +kernel
theorem dX5_opensBy_82 : decode cX5_opensBy 82 = .ok (.ireturn, 1) := by decide +kernel
theorem dX5_opensBy_83 : decode cX5_opensBy 83 = .ok (.iload_n 2, 1) := by decide +kernel
theorem dX5_opensBy_84 : decode cX5_opensBy 84 = .ok (.aload_n 0, 1) := by decide +kernel
theorem dX5_opensBy_85 : decode cX5_opensBy 85 = .ok (.aload_n 0, 1) := by decide +kernel
theorem dX5_opensBy_86 : decode cX5_opensBy 86 = .ok (.getfield 20, 3) := by decide +kernel
theorem dX5_opensBy_89 : decode cX5_opensBy 89 = .ok (.iload_n 1, 1) := by decide +kernel
theorem dX5_opensBy_90 : decode cX5_opensBy 90 = .ok (.iaload, 1) := by decide +kernel
theorem dX5_opensBy_91 : decode cX5_opensBy 91 = .ok (.invokevirtual 99, 3) := by decide +kernel
theorem dX5_opensBy_94 : decode cX5_opensBy 94 = .ok (.ishr, 1) := by decide +kernel
theorem dX5_opensBy_95 : decode cX5_opensBy 95 = .ok (.iconst 1, 1) := by decide +kernel
theorem dX5_opensBy_96 : decode cX5_opensBy 96 = .ok (.iand, 1) := by decide +kernel
theorem dX5_opensBy_97 : decode cX5_opensBy 97 = .ok (.ifCond .ne 7, 3) := by decide +kernel
theorem dX5_opensBy_100 : decode cX5_opensBy 100 = .ok (.iconst 1, 1) := by decide +kernel
theorem dX5_opensBy_101 : decode cX5_opensBy 101 = .ok (.goto 4, 3) := by decide +kernel
theorem dX5_opensBy_104 : decode cX5_opensBy 104 = .ok (.iconst 0, 1) := by decide +kernel
theorem dX5_opensBy_105 : decode cX5_opensBy 105 = .ok (.ireturn, 1) := by decide +kernel
theorem dX5_opens_0 : decode cX5_opens 0 = .ok (.aload_n 0, 1) := by decide +kernel
theorem dX5_opens_1 : decode cX5_opens 1 = .ok (.iconst 0, 1) := by decide +kernel
theorem dX5_opens_2 : decode cX5_opens 2 = .ok (.putfield 58, 3) := by decide +kernel
theorem dX5_opens_5 : decode cX5_opens 5 = .ok (.aload_n 0, 1) := by decide +kernel
theorem dX5_opens_6 : decode cX5_opens 6 = .ok (.iload_n 1, 1) := by decide +kernel
theorem dX5_opens_7 : decode cX5_opens 7 = .ok (.invokevirtual 88, 3) := by decide +kernel
theorem dX5_opens_10 : decode cX5_opens 10 = .ok (.ifCond .eq 11, 3) := by decide +kernel
theorem dX5_opens_13 : decode cX5_opens 13 = .ok (.aload_n 0, 1) := by decide +kernel
theorem dX5_opens_14 : decode cX5_opens 14 = .ok (.iload_n 2, 1) := by decide +kernel
theorem dX5_opens_15 : decode cX5_opens 15 = .ok (.invokevirtual 107, 3) := by decide +kernel
theorem dX5_opens_18 : decode cX5_opens 18 = .ok (.ifCond .ne 5, 3) := by decide +kernel
theorem dX5_opens_21 : decode cX5_opens 21 = .ok (.iconst (-1), 1) := by decide +kernel
theorem dX5_opens_22 : decode cX5_opens 22 = .ok (.ireturn, 1) := by decide +kernel
theorem dX5_opens_23 : decode cX5_opens 23 = .ok (.aload_n 0, 1) := by decide +kernel
theorem dX5_opens_24 : decode cX5_opens 24 = .ok (.getfield 16, 3) := by decide +kernel
theorem dX5_opens_27 : decode cX5_opens 27 = .ok (.iload_n 1, 1) := by decide +kernel
theorem dX5_opens_28 : decode cX5_opens 28 = .ok (.iaload, 1) := by decide +kernel
theorem dX5_opens_29 : decode cX5_opens 29 = .ok (.istore_n 3, 1) := by decide +kernel
theorem dX5_opens_30 : decode cX5_opens 30 = .ok (.aload_n 0, 1) := by decide +kernel
theorem dX5_opens_31 : decode cX5_opens 31 = .ok (.dup, 1) := by decide +kernel
theorem dX5_opens_32 : decode cX5_opens 32 = .ok (.getfield 110, 3) := by decide +kernel
theorem dX5_opens_35 : decode cX5_opens 35 = .ok (.iload_n 3, 1) := by decide +kernel
theorem dX5_opens_36 : decode cX5_opens 36 = .ok (.ifCond .ne 7, 3) := by decide +kernel
theorem dX5_opens_39 : decode cX5_opens 39 = .ok (.lconst 1, 1) := by decide +kernel
theorem dX5_opens_40 : decode cX5_opens 40 = .ok (.goto 39, 3) := by decide +kernel
theorem dX5_opens_43 : decode cX5_opens 43 = .ok (.iload_n 3, 1) := by decide +kernel
theorem dX5_opens_44 : decode cX5_opens 44 = .ok (.iconst 1, 1) := by decide +kernel
theorem dX5_opens_45 : decode cX5_opens 45 = .ok (.if_icmp .ne 9, 3) := by decide +kernel
theorem dX5_opens_48 : decode cX5_opens 48 = .ok (.ldc2_w 114, 3) := by decide +kernel
theorem dX5_opens_51 : decode cX5_opens 51 = .ok (.goto 28, 3) := by decide +kernel
theorem dX5_opens_54 : decode cX5_opens 54 = .ok (.iload_n 3, 1) := by decide +kernel
theorem dX5_opens_55 : decode cX5_opens 55 = .ok (.iconst 2, 1) := by decide +kernel
theorem dX5_opens_56 : decode cX5_opens 56 = .ok (.if_icmp .ne 9, 3) := by decide +kernel
theorem dX5_opens_59 : decode cX5_opens 59 = .ok (.ldc2_w 116, 3) := by decide +kernel
theorem dX5_opens_62 : decode cX5_opens 62 = .ok (.goto 17, 3) := by decide +kernel
theorem dX5_opens_65 : decode cX5_opens 65 = .ok (.iload_n 3, 1) := by decide +kernel
theorem dX5_opens_66 : decode cX5_opens 66 = .ok (.iconst 3, 1) := by decide +kernel
theorem dX5_opens_67 : decode cX5_opens 67 = .ok (.if_icmp .ne 9, 3) := by decide +kernel
theorem dX5_opens_70 : decode cX5_opens 70 = .ok (.ldc2_w 118, 3) := by decide +kernel
theorem dX5_opens_73 : decode cX5_opens 73 = .ok (.goto 6, 3) := by decide +kernel
theorem dX5_opens_76 : decode cX5_opens 76 = .ok (.ldc2_w 120, 3) := by decide +kernel
theorem dX5_opens_79 : decode cX5_opens 79 = .ok (.ladd, 1) := by decide +kernel
theorem dX5_opens_80 : decode cX5_opens 80 = .ok (.putfield 110, 3) := by decide +kernel
theorem dX5_opens_83 : decode cX5_opens 83 = .ok (.aload_n 0, 1) := by decide +kernel
theorem dX5_opens_84 : decode cX5_opens 84 = .ok (.iload_n 1, 1) := by decide +kernel
theorem dX5_opens_85 : decode cX5_opens 85 = .ok (.iload_n 2, 1) := by decide +kernel
theorem dX5_opens_86 : decode cX5_opens 86 = .ok (.invokevirtual 122, 3) := by decide +kernel
theorem dX5_opens_89 : decode cX5_opens 89 = .ok (.ifCond .eq 7, 3) := by decide +kernel
theorem dX5_opens_92 : decode cX5_opens 92 = .ok (.iconst 1, 1) := by decide +kernel
theorem dX5_opens_93 : decode cX5_opens 93 = .ok (.goto 4, 3) := by decide +kernel
theorem dX5_opens_96 : decode cX5_opens 96 = .ok (.iconst 0, 1) := by decide +kernel
theorem dX5_opens_97 : decode cX5_opens 97 = .ok (.ireturn, 1) := by decide +kernel
theorem dX5_root_0 : decode cX5_root 0 = .ok (.iload_n 1, 1) := by decide +kernel
theorem dX5_root_1 : decode cX5_root 1 = .ok (.istore_n 2, 1) := by decide +kernel
theorem dX5_root_2 : decode cX5_root 2 = .ok (.aload_n 0, 1) := by decide +kernel
theorem dX5_root_3 : decode cX5_root 3 = .ok (.getfield 23, 3) := by decide +kernel
theorem dX5_root_6 : decode cX5_root 6 = .ok (.iload_n 2, 1) := by decide +kernel
theorem dX5_root_7 : decode cX5_root 7 = .ok (.iaload, 1) := by decide +kernel
theorem dX5_root_8 : decode cX5_root 8 = .ok (.iload_n 2, 1) := by decide +kernel
theorem dX5_root_9 : decode cX5_root 9 = .ok (.if_icmp .eq 13, 3) := by decide +kernel
theorem dX5_root_12 : decode cX5_root 12 = .ok (.aload_n 0, 1) := by decide +kernel
theorem dX5_root_13 : decode cX5_root 13 = .ok (.getfield 23, 3) := by decide +kernel
theorem dX5_root_16 : decode cX5_root 16 = .ok (.iload_n 2, 1) := by decide +kernel
theorem dX5_root_17 : decode cX5_root 17 = .ok (.iaload, 1) := by decide +kernel
theorem dX5_root_18 : decode cX5_root 18 = .ok (.istore_n 2, 1) := by decide +kernel
theorem dX5_root_19 : decode cX5_root 19 = .ok (.goto (-17), 3) := by decide +kernel
theorem dX5_root_22 : decode cX5_root 22 = .ok (.iload_n 2, 1) := by decide +kernel
theorem dX5_root_23 : decode cX5_root 23 = .ok (.ireturn, 1) := by decide +kernel
theorem dX5_joins_0 : decode cX5_joins 0 = .ok (.iconst 0, 1) := by decide +kernel
theorem dX5_joins_1 : decode cX5_joins 1 = .ok (.istore_n 2, 1) := by decide +kernel
theorem dX5_joins_2 : decode cX5_joins 2 = .ok (.iload_n 2, 1) := by decide +kernel
theorem dX5_joins_3 : decode cX5_joins 3 = .ok (.aload_n 0, 1) := by decide +kernel
theorem dX5_joins_4 : decode cX5_joins 4 = .ok (.invokevirtual 78, 3) := by decide +kernel
theorem dX5_joins_7 : decode cX5_joins 7 = .ok (.if_icmp .ge 21, 3) := by decide +kernel
theorem dX5_joins_10 : decode cX5_joins 10 = .ok (.aload_n 0, 1) := by decide +kernel
theorem dX5_joins_11 : decode cX5_joins 11 = .ok (.getfield 26, 3) := by decide +kernel
theorem dX5_joins_14 : decode cX5_joins 14 = .ok (.iload_n 2, 1) := by decide +kernel
theorem dX5_joins_15 : decode cX5_joins 15 = .ok (.aload_n 0, 1) := by decide +kernel
theorem dX5_joins_16 : decode cX5_joins 16 = .ok (.iload_n 2, 1) := by decide +kernel
theorem dX5_joins_17 : decode cX5_joins 17 = .ok (.iload_n 1, 1) := by decide +kernel
theorem dX5_joins_18 : decode cX5_joins 18 = .ok (.invokevirtual 122, 3) := by decide +kernel
theorem dX5_joins_21 : decode cX5_joins 21 = .ok (.bastore, 1) := by decide +kernel
theorem dX5_joins_22 : decode cX5_joins 22 = .ok (.iinc 2 1, 3) := by decide +kernel
theorem dX5_joins_25 : decode cX5_joins 25 = .ok (.goto (-23), 3) := by decide +kernel
theorem dX5_joins_28 : decode cX5_joins 28 = .ok (.iconst 0, 1) := by decide +kernel
theorem dX5_joins_29 : decode cX5_joins 29 = .ok (.istore_n 2, 1) := by decide +kernel
theorem dX5_joins_30 : decode cX5_joins 30 = .ok (.iload_n 2, 1) := by decide +kernel
theorem dX5_joins_31 : decode cX5_joins 31 = .ok (.aload_n 0, 1) := by decide +kernel
theorem dX5_joins_32 : decode cX5_joins 32 = .ok (.invokevirtual 72, 3) := by decide +kernel
theorem dX5_joins_35 : decode cX5_joins 35 = .ok (.if_icmp .ge 37, 3) := by decide +kernel
theorem dX5_joins_38 : decode cX5_joins 38 = .ok (.aload_n 0, 1) := by decide +kernel
theorem dX5_joins_39 : decode cX5_joins 39 = .ok (.getfield 23, 3) := by decide +kernel
theorem dX5_joins_42 : decode cX5_joins 42 = .ok (.iload_n 2, 1) := by decide +kernel
theorem dX5_joins_43 : decode cX5_joins 43 = .ok (.aload_n 0, 1) := by decide +kernel
theorem dX5_joins_44 : decode cX5_joins 44 = .ok (.getfield 69, 3) := by decide +kernel
theorem dX5_joins_47 : decode cX5_joins 47 = .ok (.ifCond .eq 12, 3) := by decide +kernel
theorem dX5_joins_50 : decode cX5_joins 50 = .ok (.aload_n 0, 1) := by decide +kernel
theorem dX5_joins_51 : decode cX5_joins 51 = .ok (.getfield 26, 3) := by decide +kernel
theorem dX5_joins_54 : decode cX5_joins 54 = .ok (.iload_n 2, 1) := by decide +kernel
theorem dX5_joins_55 : decode cX5_joins 55 = .ok (.baload, 1) := by decide +kernel
theorem dX5_joins_56 : decode cX5_joins 56 = .ok (.ifCond .eq 7, 3) := by decide +kernel
theorem dX5_joins_59 : decode cX5_joins 59 = .ok (.iload_n 2, 1) := by decide +kernel
theorem dX5_joins_60 : decode cX5_joins 60 = .ok (.goto 5, 3) := by decide +kernel
theorem dX5_joins_63 : decode cX5_joins 63 = .ok (.bipush (-9), 2) := by decide +kernel
theorem dX5_joins_65 : decode cX5_joins 65 = .ok (.iastore, 1) := by decide +kernel
theorem dX5_joins_66 : decode cX5_joins 66 = .ok (.iinc 2 1, 3) := by decide +kernel
theorem dX5_joins_69 : decode cX5_joins 69 = .ok (.goto (-39), 3) := by decide +kernel
theorem dX5_joins_72 : decode cX5_joins 72 = .ok (.iconst 0, 1) := by decide +kernel
theorem dX5_joins_73 : decode cX5_joins 73 = .ok (.istore_n 2, 1) := by decide +kernel
theorem dX5_joins_74 : decode cX5_joins 74 = .ok (.iload_n 2, 1) := by decide +kernel
theorem dX5_joins_75 : decode cX5_joins 75 = .ok (.aload_n 0, 1) := by decide +kernel
theorem dX5_joins_76 : decode cX5_joins 76 = .ok (.invokevirtual 75, 3) := by decide +kernel
theorem dX5_joins_79 : decode cX5_joins 79 = .ok (.if_icmp .ge 118, 3) := by decide +kernel
theorem dX5_joins_82 : decode cX5_joins 82 = .ok (.aload_n 0, 1) := by decide +kernel
theorem dX5_joins_83 : decode cX5_joins 83 = .ok (.iload_n 2, 1) := by decide +kernel
theorem dX5_joins_84 : decode cX5_joins 84 = .ok (.iconst 0, 1) := by decide +kernel
theorem dX5_joins_85 : decode cX5_joins 85 = .ok (.invokevirtual 103, 3) := by decide +kernel
theorem dX5_joins_88 : decode cX5_joins 88 = .ok (.istore_n 3, 1) := by decide +kernel
theorem dX5_joins_89 : decode cX5_joins 89 = .ok (.aload_n 0, 1) := by decide +kernel
theorem dX5_joins_90 : decode cX5_joins 90 = .ok (.iload_n 2, 1) := by decide +kernel
theorem dX5_joins_91 : decode cX5_joins 91 = .ok (.iconst 1, 1) := by decide +kernel
theorem dX5_joins_92 : decode cX5_joins 92 = .ok (.invokevirtual 103, 3) := by decide +kernel
theorem dX5_joins_95 : decode cX5_joins 95 = .ok (.istore 4, 2) := by decide +kernel
theorem dX5_joins_97 : decode cX5_joins 97 = .ok (.aload_n 0, 1) := by decide +kernel
theorem dX5_joins_98 : decode cX5_joins 98 = .ok (.getfield 23, 3) := by decide +kernel
theorem dX5_joins_101 : decode cX5_joins 101 = .ok (.iload_n 3, 1) := by decide +kernel
theorem dX5_joins_102 : decode cX5_joins 102 = .ok (.iaload, 1) := by decide +kernel
theorem dX5_joins_103 : decode cX5_joins 103 = .ok (.bipush (-9), 2) := by decide +kernel
theorem dX5_joins_105 : decode cX5_joins 105 = .ok (.if_icmp .eq 86, 3) := by decide +kernel
theorem dX5_joins_108 : decode cX5_joins 108 = .ok (.aload_n 0, 1) := by decide +kernel
theorem dX5_joins_109 : decode cX5_joins 109 = .ok (.getfield 23, 3) := by decide +kernel
theorem dX5_joins_112 : decode cX5_joins 112 = .ok (.iload 4, 2) := by decide +kernel
theorem dX5_joins_114 : decode cX5_joins 114 = .ok (.iaload, 1) := by decide +kernel
theorem dX5_joins_115 : decode cX5_joins 115 = .ok (.bipush (-9), 2) := by decide +kernel
theorem dX5_joins_117 : decode cX5_joins 117 = .ok (.if_icmp .eq 74, 3) := by decide +kernel
theorem dX5_joins_120 : decode cX5_joins 120 = .ok (.aload_n 0, 1) := by decide +kernel
theorem dX5_joins_121 : decode cX5_joins 121 = .ok (.getfield 69, 3) := by decide +kernel
theorem dX5_joins_124 : decode cX5_joins 124 = .ok (.ifCond .ne 12, 3) := by decide +kernel
theorem dX5_joins_127 : decode cX5_joins 127 = .ok (.aload_n 0, 1) := by decide +kernel
theorem dX5_joins_128 : decode cX5_joins 128 = .ok (.getfield 26, 3) := by decide +kernel
theorem dX5_joins_131 : decode cX5_joins 131 = .ok (.iload_n 2, 1) := by decide +kernel
theorem dX5_joins_132 : decode cX5_joins 132 = .ok (.baload, 1) := by decide +kernel
theorem dX5_joins_133 : decode cX5_joins 133 = .ok (.ifCond .eq 58, 3) := by decide +kernel
theorem dX5_joins_136 : decode cX5_joins 136 = .ok (.aload_n 0, 1) := by decide +kernel
theorem dX5_joins_137 : decode cX5_joins 137 = .ok (.iload_n 3, 1) := by decide +kernel
theorem dX5_joins_138 : decode cX5_joins 138 = .ok (.invokevirtual 126, 3) := by decide +kernel
theorem dX5_joins_141 : decode cX5_joins 141 = .ok (.istore 5, 2) := by decide +kernel
theorem dX5_joins_143 : decode cX5_joins 143 = .ok (.aload_n 0, 1) := by decide +kernel
theorem dX5_joins_144 : decode cX5_joins 144 = .ok (.iload 4, 2) := by decide +kernel
theorem dX5_joins_146 : decode cX5_joins 146 = .ok (.invokevirtual 126, 3) := by decide +kernel
theorem dX5_joins_149 : decode cX5_joins 149 = .ok (.istore 6, 2) := by decide +kernel
theorem dX5_joins_151 : decode cX5_joins 151 = .ok (.iload 5, 2) := by decide +kernel
theorem dX5_joins_153 : decode cX5_joins 153 = .ok (.iload 6, 2) := by decide +kernel
theorem dX5_joins_155 : decode cX5_joins 155 = .ok (.if_icmp .eq 36, 3) := by decide +kernel
theorem dX5_joins_158 : decode cX5_joins 158 = .ok (.aload_n 0, 1) := by decide +kernel
theorem dX5_joins_159 : decode cX5_joins 159 = .ok (.getfield 23, 3) := by decide +kernel
theorem dX5_joins_162 : decode cX5_joins 162 = .ok (.iload 5, 2) := by decide +kernel
theorem dX5_joins_164 : decode cX5_joins 164 = .ok (.iload 6, 2) := by decide +kernel
theorem dX5_joins_166 : decode cX5_joins 166 = .ok (.if_icmp .le 8, 3) := by decide +kernel
theorem dX5_joins_169 : decode cX5_joins 169 = .ok (.iload 5, 2) := by decide +kernel
theorem dX5_joins_171 : decode cX5_joins 171 = .ok (.goto 5, 3) := by decide +kernel
theorem dX5_joins_174 : decode cX5_joins 174 = .ok (.iload 6, 2) := by decide +kernel
theorem dX5_joins_176 : decode cX5_joins 176 = .ok (.iload 5, 2) := by decide +kernel
theorem dX5_joins_178 : decode cX5_joins 178 = .ok (.iload 6, 2) := by decide +kernel
theorem dX5_joins_180 : decode cX5_joins 180 = .ok (.if_icmp .ge 8, 3) := by decide +kernel
theorem dX5_joins_183 : decode cX5_joins 183 = .ok (.iload 5, 2) := by decide +kernel
theorem dX5_joins_185 : decode cX5_joins 185 = .ok (.goto 5, 3) := by decide +kernel
theorem dX5_joins_188 : decode cX5_joins 188 = .ok (.iload 6, 2) := by decide +kernel
theorem dX5_joins_190 : decode cX5_joins 190 = .ok (.iastore, 1) := by decide +kernel
theorem dX5_joins_191 : decode cX5_joins 191 = .ok (.iinc 2 1, 3) := by decide +kernel
theorem dX5_joins_194 : decode cX5_joins 194 = .ok (.goto (-120), 3) := by decide +kernel
theorem dX5_joins_197 : decode cX5_joins 197 = .ok (.return_, 1) := by decide +kernel
theorem dX5_heapOf_0 : decode cX5_heapOf 0 = .ok (.aload_n 0, 1) := by decide +kernel
theorem dX5_heapOf_1 : decode cX5_heapOf 1 = .ok (.getfield 23, 3) := by decide +kernel
theorem dX5_heapOf_4 : decode cX5_heapOf 4 = .ok (.iload_n 1, 1) := by decide +kernel
theorem dX5_heapOf_5 : decode cX5_heapOf 5 = .ok (.iaload, 1) := by decide +kernel
theorem dX5_heapOf_6 : decode cX5_heapOf 6 = .ok (.bipush (-9), 2) := by decide +kernel
theorem dX5_heapOf_8 : decode cX5_heapOf 8 = .ok (.if_icmp .ne 8, 3) := by decide +kernel
theorem dX5_heapOf_11 : decode cX5_heapOf 11 = .ok (.bipush (-9), 2) := by decide +kernel
theorem dX5_heapOf_13 : decode cX5_heapOf 13 = .ok (.goto 8, 3) := by decide +kernel
theorem dX5_heapOf_16 : decode cX5_heapOf 16 = .ok (.aload_n 0, 1) := by decide +kernel
theorem dX5_heapOf_17 : decode cX5_heapOf 17 = .ok (.iload_n 1, 1) := by decide +kernel
theorem dX5_heapOf_18 : decode cX5_heapOf 18 = .ok (.invokevirtual 126, 3) := by decide +kernel
theorem dX5_heapOf_21 : decode cX5_heapOf 21 = .ok (.ireturn, 1) := by decide +kernel
theorem dX5_isThrough_0 : decode cX5_isThrough 0 = .ok (.iconst 0, 1) := by decide +kernel
theorem dX5_isThrough_1 : decode cX5_isThrough 1 = .ok (.istore_n 2, 1) := by decide +kernel
theorem dX5_isThrough_2 : decode cX5_isThrough 2 = .ok (.iload_n 2, 1) := by decide +kernel
theorem dX5_isThrough_3 : decode cX5_isThrough 3 = .ok (.iload_n 1, 1) := by decide +kernel
theorem dX5_isThrough_4 : decode cX5_isThrough 4 = .ok (.ifCond .ne 10, 3) := by decide +kernel
theorem dX5_isThrough_7 : decode cX5_isThrough 7 = .ok (.aload_n 0, 1) := by decide +kernel
theorem dX5_isThrough_8 : decode cX5_isThrough 8 = .ok (.getfield 7, 3) := by decide +kernel
theorem dX5_isThrough_11 : decode cX5_isThrough 11 = .ok (.goto 7, 3) := by decide +kernel
theorem dX5_isThrough_14 : decode cX5_isThrough 14 = .ok (.aload_n 0, 1) := by decide +kernel
theorem dX5_isThrough_15 : decode cX5_isThrough 15 = .ok (.getfield 13, 3) := by decide +kernel
theorem dX5_isThrough_18 : decode cX5_isThrough 18 = .ok (.if_icmp .ge 111, 3) := by decide +kernel
theorem dX5_isThrough_21 : decode cX5_isThrough 21 = .ok (.iconst 0, 1) := by decide +kernel
theorem dX5_isThrough_22 : decode cX5_isThrough 22 = .ok (.istore_n 3, 1) := by decide +kernel
theorem dX5_isThrough_23 : decode cX5_isThrough 23 = .ok (.iload_n 3, 1) := by decide +kernel
theorem dX5_isThrough_24 : decode cX5_isThrough 24 = .ok (.iload_n 1, 1) := by decide +kernel
theorem dX5_isThrough_25 : decode cX5_isThrough 25 = .ok (.ifCond .ne 10, 3) := by decide +kernel
theorem dX5_isThrough_28 : decode cX5_isThrough 28 = .ok (.aload_n 0, 1) := by decide +kernel
theorem dX5_isThrough_29 : decode cX5_isThrough 29 = .ok (.getfield 7, 3) := by decide +kernel
theorem dX5_isThrough_32 : decode cX5_isThrough 32 = .ok (.goto 7, 3) := by decide +kernel
theorem dX5_isThrough_35 : decode cX5_isThrough 35 = .ok (.aload_n 0, 1) := by decide +kernel
theorem dX5_isThrough_36 : decode cX5_isThrough 36 = .ok (.getfield 13, 3) := by decide +kernel
theorem dX5_isThrough_39 : decode cX5_isThrough 39 = .ok (.if_icmp .ge 84, 3) := by decide +kernel
theorem dX5_isThrough_42 : decode cX5_isThrough 42 = .ok (.aload_n 0, 1) := by decide +kernel
theorem dX5_isThrough_43 : decode cX5_isThrough 43 = .ok (.iload_n 1, 1) := by decide +kernel
theorem dX5_isThrough_44 : decode cX5_isThrough 44 = .ok (.ifCond .ne 12, 3) := by decide +kernel
theorem dX5_isThrough_47 : decode cX5_isThrough 47 = .ok (.iload_n 2, 1) := by decide +kernel
theorem dX5_isThrough_48 : decode cX5_isThrough 48 = .ok (.aload_n 0, 1) := by decide +kernel
theorem dX5_isThrough_49 : decode cX5_isThrough 49 = .ok (.getfield 13, 3) := by decide +kernel
theorem dX5_isThrough_52 : decode cX5_isThrough 52 = .ok (.imul, 1) := by decide +kernel
theorem dX5_isThrough_53 : decode cX5_isThrough 53 = .ok (.goto 4, 3) := by decide +kernel
theorem dX5_isThrough_56 : decode cX5_isThrough 56 = .ok (.iload_n 2, 1) := by decide +kernel
theorem dX5_isThrough_57 : decode cX5_isThrough 57 = .ok (.invokevirtual 129, 3) := by decide +kernel
theorem dX5_isThrough_60 : decode cX5_isThrough 60 = .ok (.istore 4, 2) := by decide +kernel
theorem dX5_isThrough_62 : decode cX5_isThrough 62 = .ok (.aload_n 0, 1) := by decide +kernel
theorem dX5_isThrough_63 : decode cX5_isThrough 63 = .ok (.iload_n 1, 1) := by decide +kernel
theorem dX5_isThrough_64 : decode cX5_isThrough 64 = .ok (.ifCond .ne 19, 3) := by decide +kernel
theorem dX5_isThrough_67 : decode cX5_isThrough 67 = .ok (.iload_n 3, 1) := by decide +kernel
theorem dX5_isThrough_68 : decode cX5_isThrough 68 = .ok (.aload_n 0, 1) := by decide +kernel
theorem dX5_isThrough_69 : decode cX5_isThrough 69 = .ok (.getfield 13, 3) := by decide +kernel
theorem dX5_isThrough_72 : decode cX5_isThrough 72 = .ok (.imul, 1) := by decide +kernel
theorem dX5_isThrough_73 : decode cX5_isThrough 73 = .ok (.aload_n 0, 1) := by decide +kernel
theorem dX5_isThrough_74 : decode cX5_isThrough 74 = .ok (.getfield 13, 3) := by decide +kernel
theorem dX5_isThrough_77 : decode cX5_isThrough 77 = .ok (.iadd, 1) := by decide +kernel
theorem dX5_isThrough_78 : decode cX5_isThrough 78 = .ok (.iconst 1, 1) := by decide +kernel
theorem dX5_isThrough_79 : decode cX5_isThrough 79 = .ok (.isub, 1) := by decide +kernel
theorem dX5_isThrough_80 : decode cX5_isThrough 80 = .ok (.goto 16, 3) := by decide +kernel
theorem dX5_isThrough_83 : decode cX5_isThrough 83 = .ok (.aload_n 0, 1) := by decide +kernel
theorem dX5_isThrough_84 : decode cX5_isThrough 84 = .ok (.getfield 7, 3) := by decide +kernel
theorem dX5_isThrough_87 : decode cX5_isThrough 87 = .ok (.iconst 1, 1) := by decide +kernel
theorem dX5_isThrough_88 : decode cX5_isThrough 88 = .ok (.isub, 1) := by decide +kernel
theorem dX5_isThrough_89 : decode cX5_isThrough 89 = .ok (.aload_n 0, 1) := by decide +kernel
theorem dX5_isThrough_90 : decode cX5_isThrough 90 = .ok (.getfield 13, 3) := by decide +kernel
theorem dX5_isThrough_93 : decode cX5_isThrough 93 = .ok (.imul, 1) := by decide +kernel
theorem dX5_isThrough_94 : decode cX5_isThrough 94 = .ok (.iload_n 3, 1) := by decide +kernel
theorem dX5_isThrough_95 : decode cX5_isThrough 95 = .ok (.iadd, 1) := by decide +kernel
theorem dX5_isThrough_96 : decode cX5_isThrough 96 = .ok (.invokevirtual 129, 3) := by decide +kernel
theorem dX5_isThrough_99 : decode cX5_isThrough 99 = .ok (.istore 5, 2) := by decide +kernel
theorem dX5_isThrough_101 : decode cX5_isThrough 101 = .ok (.iload 4, 2) := by decide +kernel
theorem dX5_isThrough_103 : decode cX5_isThrough 103 = .ok (.bipush (-9), 2) := by decide +kernel
theorem dX5_isThrough_105 : decode cX5_isThrough 105 = .ok (.if_icmp .eq 12, 3) := by decide +kernel
theorem dX5_isThrough_108 : decode cX5_isThrough 108 = .ok (.iload 4, 2) := by decide +kernel
theorem dX5_isThrough_110 : decode cX5_isThrough 110 = .ok (.iload 5, 2) := by decide +kernel
theorem dX5_isThrough_112 : decode cX5_isThrough 112 = .ok (.if_icmp .ne 5, 3) := by decide +kernel
theorem dX5_isThrough_115 : decode cX5_isThrough 115 = .ok (.iconst 1, 1) := by decide +kernel
theorem dX5_isThrough_116 : decode cX5_isThrough 116 = .ok (.ireturn, 1) := by decide +kernel
theorem dX5_isThrough_117 : decode cX5_isThrough 117 = .ok (.iinc 3 1, 3) := by decide +kernel
theorem dX5_isThrough_120 : decode cX5_isThrough 120 = .ok (.goto (-97), 3) := by decide +kernel
theorem dX5_isThrough_123 : decode cX5_isThrough 123 = .ok (.iinc 2 1, 3) := by decide +kernel
theorem dX5_isThrough_126 : decode cX5_isThrough 126 = .ok (.goto (-124), 3) := by decide +kernel
theorem dX5_isThrough_129 : decode cX5_isThrough 129 = .ok (.iconst 0, 1) := by decide +kernel
theorem dX5_isThrough_130 : decode cX5_isThrough 130 = .ok (.ireturn, 1) := by decide +kernel
theorem dX5_needWays_0 : decode cX5_needWays 0 = .ok (.aload_n 0, 1) := by decide +kernel
theorem dX5_needWays_1 : decode cX5_needWays 1 = .ok (.getfield 61, 3) := by decide +kernel
theorem dX5_needWays_4 : decode cX5_needWays 4 = .ok (.ifCond .ne 64, 3) := by decide +kernel
theorem dX5_needWays_7 : decode cX5_needWays 7 = .ok (.iconst 0, 1) := by decide +kernel
theorem dX5_needWays_8 : decode cX5_needWays 8 = .ok (.istore_n 1, 1) := by decide +kernel
theorem dX5_needWays_9 : decode cX5_needWays 9 = .ok (.iload_n 1, 1) := by decide +kernel
theorem dX5_needWays_10 : decode cX5_needWays 10 = .ok (.iconst 1, 1) := by decide +kernel
theorem dX5_needWays_11 : decode cX5_needWays 11 = .ok (.aload_n 0, 1) := by decide +kernel
theorem dX5_needWays_12 : decode cX5_needWays 12 = .ok (.invokevirtual 85, 3) := by decide +kernel
theorem dX5_needWays_15 : decode cX5_needWays 15 = .ok (.ishl, 1) := by decide +kernel
theorem dX5_needWays_16 : decode cX5_needWays 16 = .ok (.if_icmp .ge 47, 3) := by decide +kernel
theorem dX5_needWays_19 : decode cX5_needWays 19 = .ok (.aload_n 0, 1) := by decide +kernel
theorem dX5_needWays_20 : decode cX5_needWays 20 = .ok (.iload_n 1, 1) := by decide +kernel
theorem dX5_needWays_21 : decode cX5_needWays 21 = .ok (.invokevirtual 132, 3) := by decide +kernel
theorem dX5_needWays_24 : decode cX5_needWays 24 = .ok (.aload_n 0, 1) := by decide +kernel
theorem dX5_needWays_25 : decode cX5_needWays 25 = .ok (.getfield 30, 3) := by decide +kernel
theorem dX5_needWays_28 : decode cX5_needWays 28 = .ok (.iload_n 1, 1) := by decide +kernel
theorem dX5_needWays_29 : decode cX5_needWays 29 = .ok (.aload_n 0, 1) := by decide +kernel
theorem dX5_needWays_30 : decode cX5_needWays 30 = .ok (.iconst 0, 1) := by decide +kernel
theorem dX5_needWays_31 : decode cX5_needWays 31 = .ok (.invokevirtual 135, 3) := by decide +kernel
theorem dX5_needWays_34 : decode cX5_needWays 34 = .ok (.ifCond .eq 7, 3) := by decide +kernel
theorem dX5_needWays_37 : decode cX5_needWays 37 = .ok (.iconst 1, 1) := by decide +kernel
theorem dX5_needWays_38 : decode cX5_needWays 38 = .ok (.goto 4, 3) := by decide +kernel
theorem dX5_needWays_41 : decode cX5_needWays 41 = .ok (.iconst 0, 1) := by decide +kernel
theorem dX5_needWays_42 : decode cX5_needWays 42 = .ok (.aload_n 0, 1) := by decide +kernel
theorem dX5_needWays_43 : decode cX5_needWays 43 = .ok (.iconst 1, 1) := by decide +kernel
theorem dX5_needWays_44 : decode cX5_needWays 44 = .ok (.invokevirtual 135, 3) := by decide +kernel
theorem dX5_needWays_47 : decode cX5_needWays 47 = .ok (.ifCond .eq 7, 3) := by decide +kernel
theorem dX5_needWays_50 : decode cX5_needWays 50 = .ok (.iconst 2, 1) := by decide +kernel
theorem dX5_needWays_51 : decode cX5_needWays 51 = .ok (.goto 4, 3) := by decide +kernel
theorem dX5_needWays_54 : decode cX5_needWays 54 = .ok (.iconst 0, 1) := by decide +kernel
theorem dX5_needWays_55 : decode cX5_needWays 55 = .ok (.iadd, 1) := by decide +kernel
theorem dX5_needWays_56 : decode cX5_needWays 56 = .ok (.iastore, 1) := by decide +kernel
theorem dX5_needWays_57 : decode cX5_needWays 57 = .ok (.iinc 1 1, 3) := by decide +kernel
theorem dX5_needWays_60 : decode cX5_needWays 60 = .ok (.goto (-51), 3) := by decide +kernel
theorem dX5_needWays_63 : decode cX5_needWays 63 = .ok (.aload_n 0, 1) := by decide +kernel
theorem dX5_needWays_64 : decode cX5_needWays 64 = .ok (.iconst 1, 1) := by decide +kernel
theorem dX5_needWays_65 : decode cX5_needWays 65 = .ok (.putfield 61, 3) := by decide +kernel
theorem dX5_needWays_68 : decode cX5_needWays 68 = .ok (.return_, 1) := by decide +kernel
theorem dX5_is_0 : decode cX5_is 0 = .ok (.aload_n 0, 1) := by decide +kernel
theorem dX5_is_1 : decode cX5_is 1 = .ok (.getfield 30, 3) := by decide +kernel
theorem dX5_is_4 : decode cX5_is 4 = .ok (.iload_n 1, 1) := by decide +kernel
theorem dX5_is_5 : decode cX5_is 5 = .ok (.iaload, 1) := by decide +kernel
theorem dX5_is_6 : decode cX5_is 6 = .ok (.istore_n 3, 1) := by decide +kernel
theorem dX5_is_7 : decode cX5_is 7 = .ok (.iload_n 2, 1) := by decide +kernel
theorem dX5_is_8 : decode cX5_is 8 = .ok (.ifCond .ne 18, 3) := by decide +kernel
theorem dX5_is_11 : decode cX5_is 11 = .ok (.iload_n 3, 1) := by decide +kernel
theorem dX5_is_12 : decode cX5_is 12 = .ok (.iconst 2, 1) := by decide +kernel
theorem dX5_is_13 : decode cX5_is 13 = .ok (.irem, 1) := by decide +kernel
theorem dX5_is_14 : decode cX5_is 14 = .ok (.iconst 1, 1) := by decide +kernel
theorem dX5_is_15 : decode cX5_is 15 = .ok (.if_icmp .ne 7, 3) := by decide +kernel
theorem dX5_is_18 : decode cX5_is 18 = .ok (.iconst 1, 1) := by decide +kernel
theorem dX5_is_19 : decode cX5_is 19 = .ok (.goto 52, 3) := by decide +kernel
theorem dX5_is_22 : decode cX5_is 22 = .ok (.iconst 0, 1) := by decide +kernel
theorem dX5_is_23 : decode cX5_is 23 = .ok (.goto 48, 3) := by decide +kernel
theorem dX5_is_26 : decode cX5_is 26 = .ok (.iload_n 2, 1) := by decide +kernel
theorem dX5_is_27 : decode cX5_is 27 = .ok (.iconst 1, 1) := by decide +kernel
theorem dX5_is_28 : decode cX5_is 28 = .ok (.if_icmp .ne 16, 3) := by decide +kernel
theorem dX5_is_31 : decode cX5_is 31 = .ok (.iload_n 3, 1) := by decide +kernel
theorem dX5_is_32 : decode cX5_is 32 = .ok (.iconst 1, 1) := by decide +kernel
theorem dX5_is_33 : decode cX5_is 33 = .ok (.if_icmp .le 7, 3) := by decide +kernel
theorem dX5_is_36 : decode cX5_is 36 = .ok (.iconst 1, 1) := by decide +kernel
theorem dX5_is_37 : decode cX5_is 37 = .ok (.goto 34, 3) := by decide +kernel
theorem dX5_is_40 : decode cX5_is 40 = .ok (.iconst 0, 1) := by decide +kernel
theorem dX5_is_41 : decode cX5_is 41 = .ok (.goto 30, 3) := by decide +kernel
theorem dX5_is_44 : decode cX5_is 44 = .ok (.iload_n 2, 1) := by decide +kernel
theorem dX5_is_45 : decode cX5_is 45 = .ok (.iconst 2, 1) := by decide +kernel
theorem dX5_is_46 : decode cX5_is 46 = .ok (.if_icmp .ne 16, 3) := by decide +kernel
theorem dX5_is_49 : decode cX5_is 49 = .ok (.iload_n 3, 1) := by decide +kernel
theorem dX5_is_50 : decode cX5_is 50 = .ok (.iconst 3, 1) := by decide +kernel
theorem dX5_is_51 : decode cX5_is 51 = .ok (.if_icmp .ne 7, 3) := by decide +kernel
theorem dX5_is_54 : decode cX5_is 54 = .ok (.iconst 1, 1) := by decide +kernel
theorem dX5_is_55 : decode cX5_is 55 = .ok (.goto 16, 3) := by decide +kernel
theorem dX5_is_58 : decode cX5_is 58 = .ok (.iconst 0, 1) := by decide +kernel
theorem dX5_is_59 : decode cX5_is 59 = .ok (.goto 12, 3) := by decide +kernel
theorem dX5_is_62 : decode cX5_is 62 = .ok (.iload_n 3, 1) := by decide +kernel
theorem dX5_is_63 : decode cX5_is 63 = .ok (.ifCond .le 7, 3) := by decide +kernel
theorem dX5_is_66 : decode cX5_is 66 = .ok (.iconst 1, 1) := by decide +kernel
theorem dX5_is_67 : decode cX5_is 67 = .ok (.goto 4, 3) := by decide +kernel
theorem dX5_is_70 : decode cX5_is 70 = .ok (.iconst 0, 1) := by decide +kernel
theorem dX5_is_71 : decode cX5_is 71 = .ok (.ireturn, 1) := by decide +kernel
theorem dX5_through_0 : decode cX5_through 0 = .ok (.aload_n 0, 1) := by decide +kernel
theorem dX5_through_1 : decode cX5_through 1 = .ok (.iconst 0, 1) := by decide +kernel
theorem dX5_through_2 : decode cX5_through 2 = .ok (.putfield 58, 3) := by decide +kernel
theorem dX5_through_5 : decode cX5_through 5 = .ok (.aload_n 0, 1) := by decide +kernel
theorem dX5_through_6 : decode cX5_through 6 = .ok (.iload_n 1, 1) := by decide +kernel
theorem dX5_through_7 : decode cX5_through 7 = .ok (.invokevirtual 107, 3) := by decide +kernel
theorem dX5_through_10 : decode cX5_through 10 = .ok (.ifCond .eq 12, 3) := by decide +kernel
theorem dX5_through_13 : decode cX5_through 13 = .ok (.iload_n 2, 1) := by decide +kernel
theorem dX5_through_14 : decode cX5_through 14 = .ok (.iconst 0, 1) := by decide +kernel
theorem dX5_through_15 : decode cX5_through 15 = .ok (.iconst 1, 1) := by decide +kernel
theorem dX5_through_16 : decode cX5_through 16 = .ok (.invokestatic 81, 3) := by decide +kernel
theorem dX5_through_19 : decode cX5_through 19 = .ok (.ifCond .ne 5, 3) := by decide +kernel
theorem dX5_through_22 : decode cX5_through 22 = .ok (.iconst (-1), 1) := by decide +kernel
theorem dX5_through_23 : decode cX5_through 23 = .ok (.ireturn, 1) := by decide +kernel
theorem dX5_through_24 : decode cX5_through 24 = .ok (.aload_n 0, 1) := by decide +kernel
theorem dX5_through_25 : decode cX5_through 25 = .ok (.invokevirtual 138, 3) := by decide +kernel
theorem dX5_through_28 : decode cX5_through 28 = .ok (.aload_n 0, 1) := by decide +kernel
theorem dX5_through_29 : decode cX5_through 29 = .ok (.iload_n 1, 1) := by decide +kernel
theorem dX5_through_30 : decode cX5_through 30 = .ok (.iload_n 2, 1) := by decide +kernel
theorem dX5_through_31 : decode cX5_through 31 = .ok (.invokevirtual 141, 3) := by decide +kernel
theorem dX5_through_34 : decode cX5_through 34 = .ok (.ifCond .eq 7, 3) := by decide +kernel
theorem dX5_through_37 : decode cX5_through 37 = .ok (.iconst 1, 1) := by decide +kernel
theorem dX5_through_38 : decode cX5_through 38 = .ok (.goto 4, 3) := by decide +kernel
theorem dX5_through_41 : decode cX5_through 41 = .ok (.iconst 0, 1) := by decide +kernel
theorem dX5_through_42 : decode cX5_through 42 = .ok (.ireturn, 1) := by decide +kernel
theorem dX5_roadRight_0 : decode cX5_roadRight 0 = .ok (.iload_n 3, 1) := by decide +kernel
theorem dX5_roadRight_1 : decode cX5_roadRight 1 = .ok (.ifCond .eq 19, 3) := by decide +kernel
theorem dX5_roadRight_4 : decode cX5_roadRight 4 = .ok (.aload_n 0, 1) := by decide +kernel
theorem dX5_roadRight_5 : decode cX5_roadRight 5 = .ok (.invokevirtual 65, 3) := by decide +kernel
theorem dX5_roadRight_8 : decode cX5_roadRight 8 = .ok (.iload_n 2, 1) := by decide +kernel
theorem dX5_roadRight_9 : decode cX5_roadRight 9 = .ok (.aload_n 0, 1) := by decide +kernel
theorem dX5_roadRight_10 : decode cX5_roadRight 10 = .ok (.getfield 13, 3) := by decide +kernel
theorem dX5_roadRight_13 : decode cX5_roadRight 13 = .ok (.imul, 1) := by decide +kernel
theorem dX5_roadRight_14 : decode cX5_roadRight 14 = .ok (.iadd, 1) := by decide +kernel
theorem dX5_roadRight_15 : decode cX5_roadRight 15 = .ok (.iload_n 1, 1) := by decide +kernel
theorem dX5_roadRight_16 : decode cX5_roadRight 16 = .ok (.iadd, 1) := by decide +kernel
theorem dX5_roadRight_17 : decode cX5_roadRight 17 = .ok (.goto 13, 3) := by decide +kernel
theorem dX5_roadRight_20 : decode cX5_roadRight 20 = .ok (.iload_n 1, 1) := by decide +kernel
theorem dX5_roadRight_21 : decode cX5_roadRight 21 = .ok (.aload_n 0, 1) := by decide +kernel
theorem dX5_roadRight_22 : decode cX5_roadRight 22 = .ok (.getfield 13, 3) := by decide +kernel
theorem dX5_roadRight_25 : decode cX5_roadRight 25 = .ok (.iconst 1, 1) := by decide +kernel
theorem dX5_roadRight_26 : decode cX5_roadRight 26 = .ok (.isub, 1) := by decide +kernel
theorem dX5_roadRight_27 : decode cX5_roadRight 27 = .ok (.imul, 1) := by decide +kernel
theorem dX5_roadRight_28 : decode cX5_roadRight 28 = .ok (.iload_n 2, 1) := by decide +kernel
theorem dX5_roadRight_29 : decode cX5_roadRight 29 = .ok (.iadd, 1) := by decide +kernel
theorem dX5_roadRight_30 : decode cX5_roadRight 30 = .ok (.ireturn, 1) := by decide +kernel
theorem dX5_roadDown_0 : decode cX5_roadDown 0 = .ok (.iload_n 3, 1) := by decide +kernel
theorem dX5_roadDown_1 : decode cX5_roadDown 1 = .ok (.ifCond .eq 16, 3) := by decide +kernel
theorem dX5_roadDown_4 : decode cX5_roadDown 4 = .ok (.iload_n 2, 1) := by decide +kernel
theorem dX5_roadDown_5 : decode cX5_roadDown 5 = .ok (.aload_n 0, 1) := by decide +kernel
theorem dX5_roadDown_6 : decode cX5_roadDown 6 = .ok (.getfield 13, 3) := by decide +kernel
theorem dX5_roadDown_9 : decode cX5_roadDown 9 = .ok (.iconst 1, 1) := by decide +kernel
theorem dX5_roadDown_10 : decode cX5_roadDown 10 = .ok (.isub, 1) := by decide +kernel
theorem dX5_roadDown_11 : decode cX5_roadDown 11 = .ok (.imul, 1) := by decide +kernel
theorem dX5_roadDown_12 : decode cX5_roadDown 12 = .ok (.iload_n 1, 1) := by decide +kernel
theorem dX5_roadDown_13 : decode cX5_roadDown 13 = .ok (.iadd, 1) := by decide +kernel
theorem dX5_roadDown_14 : decode cX5_roadDown 14 = .ok (.goto 16, 3) := by decide +kernel
theorem dX5_roadDown_17 : decode cX5_roadDown 17 = .ok (.aload_n 0, 1) := by decide +kernel
theorem dX5_roadDown_18 : decode cX5_roadDown 18 = .ok (.invokevirtual 65, 3) := by decide +kernel
theorem dX5_roadDown_21 : decode cX5_roadDown 21 = .ok (.iload_n 1, 1) := by decide +kernel
theorem dX5_roadDown_22 : decode cX5_roadDown 22 = .ok (.aload_n 0, 1) := by decide +kernel
theorem dX5_roadDown_23 : decode cX5_roadDown 23 = .ok (.getfield 13, 3) := by decide +kernel
theorem dX5_roadDown_26 : decode cX5_roadDown 26 = .ok (.imul, 1) := by decide +kernel
theorem dX5_roadDown_27 : decode cX5_roadDown 27 = .ok (.iadd, 1) := by decide +kernel
theorem dX5_roadDown_28 : decode cX5_roadDown 28 = .ok (.iload_n 2, 1) := by decide +kernel
theorem dX5_roadDown_29 : decode cX5_roadDown 29 = .ok (.iadd, 1) := by decide +kernel
theorem dX5_roadDown_30 : decode cX5_roadDown 30 = .ok (.ireturn, 1) := by decide +kernel
theorem dX5_isWall_0 : decode cX5_isWall 0 = .ok (.iload_n 1, 1) := by decide +kernel
theorem dX5_isWall_1 : decode cX5_isWall 1 = .ok (.ifCond .eq 10, 3) := by decide +kernel
theorem dX5_isWall_4 : decode cX5_isWall 4 = .ok (.aload_n 0, 1) := by decide +kernel
theorem dX5_isWall_5 : decode cX5_isWall 5 = .ok (.getfield 13, 3) := by decide +kernel
theorem dX5_isWall_8 : decode cX5_isWall 8 = .ok (.goto 7, 3) := by decide +kernel
theorem dX5_isWall_11 : decode cX5_isWall 11 = .ok (.aload_n 0, 1) := by decide +kernel
theorem dX5_isWall_12 : decode cX5_isWall 12 = .ok (.getfield 7, 3) := by decide +kernel
theorem dX5_isWall_15 : decode cX5_isWall 15 = .ok (.istore_n 2, 1) := by decide +kernel
theorem dX5_isWall_16 : decode cX5_isWall 16 = .ok (.iload_n 1, 1) := by decide +kernel
theorem dX5_isWall_17 : decode cX5_isWall 17 = .ok (.ifCond .eq 10, 3) := by decide +kernel
theorem dX5_isWall_20 : decode cX5_isWall 20 = .ok (.aload_n 0, 1) := by decide +kernel
theorem dX5_isWall_21 : decode cX5_isWall 21 = .ok (.getfield 7, 3) := by decide +kernel
theorem dX5_isWall_24 : decode cX5_isWall 24 = .ok (.goto 7, 3) := by decide +kernel
theorem dX5_isWall_27 : decode cX5_isWall 27 = .ok (.aload_n 0, 1) := by decide +kernel
theorem dX5_isWall_28 : decode cX5_isWall 28 = .ok (.getfield 13, 3) := by decide +kernel
theorem dX5_isWall_31 : decode cX5_isWall 31 = .ok (.iconst 1, 1) := by decide +kernel
theorem dX5_isWall_32 : decode cX5_isWall 32 = .ok (.isub, 1) := by decide +kernel
theorem dX5_isWall_33 : decode cX5_isWall 33 = .ok (.istore_n 3, 1) := by decide +kernel
theorem dX5_isWall_34 : decode cX5_isWall 34 = .ok (.iconst 0, 1) := by decide +kernel
theorem dX5_isWall_35 : decode cX5_isWall 35 = .ok (.istore 4, 2) := by decide +kernel
theorem dX5_isWall_37 : decode cX5_isWall 37 = .ok (.iload 4, 2) := by decide +kernel
theorem dX5_isWall_39 : decode cX5_isWall 39 = .ok (.bipush 36, 2) := by decide +kernel
theorem dX5_isWall_41 : decode cX5_isWall 41 = .ok (.if_icmp .ge 27, 3) := by decide +kernel
theorem dX5_isWall_44 : decode cX5_isWall 44 = .ok (.aload_n 0, 1) := by decide +kernel
theorem dX5_isWall_45 : decode cX5_isWall 45 = .ok (.getfield 33, 3) := by decide +kernel
theorem dX5_isWall_48 : decode cX5_isWall 48 = .ok (.iload 4, 2) := by decide +kernel
theorem dX5_isWall_50 : decode cX5_isWall 50 = .ok (.iload 4, 2) := by decide +kernel
theorem dX5_isWall_52 : decode cX5_isWall 52 = .ok (.iload_n 3, 1) := by decide +kernel
theorem dX5_isWall_53 : decode cX5_isWall 53 = .ok (.if_icmp .ge 7, 3) := by decide +kernel
theorem dX5_isWall_56 : decode cX5_isWall 56 = .ok (.iconst 1, 1) := by decide +kernel
theorem dX5_isWall_57 : decode cX5_isWall 57 = .ok (.goto 4, 3) := by decide +kernel
theorem dX5_isWall_60 : decode cX5_isWall 60 = .ok (.iconst 0, 1) := by decide +kernel
theorem dX5_isWall_61 : decode cX5_isWall 61 = .ok (.bastore, 1) := by decide +kernel
theorem dX5_isWall_62 : decode cX5_isWall 62 = .ok (.iinc 4 1, 3) := by decide +kernel
theorem dX5_isWall_65 : decode cX5_isWall 65 = .ok (.goto (-28), 3) := by decide +kernel
theorem dX5_isWall_68 : decode cX5_isWall 68 = .ok (.iconst 1, 1) := by decide +kernel
theorem dX5_isWall_69 : decode cX5_isWall 69 = .ok (.istore 4, 2) := by decide +kernel
theorem dX5_isWall_71 : decode cX5_isWall 71 = .ok (.iload 4, 2) := by decide +kernel
theorem dX5_isWall_73 : decode cX5_isWall 73 = .ok (.ifCond .eq 194, 3) := by decide +kernel
theorem dX5_isWall_76 : decode cX5_isWall 76 = .ok (.iconst 0, 1) := by decide +kernel
theorem dX5_isWall_77 : decode cX5_isWall 77 = .ok (.istore 4, 2) := by decide +kernel
theorem dX5_isWall_79 : decode cX5_isWall 79 = .ok (.iconst 0, 1) := by decide +kernel
theorem dX5_isWall_80 : decode cX5_isWall 80 = .ok (.istore 5, 2) := by decide +kernel
theorem dX5_isWall_82 : decode cX5_isWall 82 = .ok (.iload 5, 2) := by decide +kernel
theorem dX5_isWall_84 : decode cX5_isWall 84 = .ok (.iload_n 2, 1) := by decide +kernel
theorem dX5_isWall_85 : decode cX5_isWall 85 = .ok (.if_icmp .gt 179, 3) := by decide +kernel
theorem dX5_isWall_88 : decode cX5_isWall 88 = .ok (.iconst 0, 1) := by decide +kernel
theorem dX5_isWall_89 : decode cX5_isWall 89 = .ok (.istore 6, 2) := by decide +kernel
theorem dX5_isWall_91 : decode cX5_isWall 91 = .ok (.iload 6, 2) := by decide +kernel
theorem dX5_isWall_93 : decode cX5_isWall 93 = .ok (.iload_n 3, 1) := by decide +kernel
theorem dX5_isWall_94 : decode cX5_isWall 94 = .ok (.if_icmp .ge 164, 3) := by decide +kernel
theorem dX5_isWall_97 : decode cX5_isWall 97 = .ok (.bipush 6, 2) := by decide +kernel
theorem dX5_isWall_99 : decode cX5_isWall 99 = .ok (.iload 5, 2) := by decide +kernel
theorem dX5_isWall_101 : decode cX5_isWall 101 = .ok (.imul, 1) := by decide +kernel
theorem dX5_isWall_102 : decode cX5_isWall 102 = .ok (.iload 6, 2) := by decide +kernel
theorem dX5_isWall_104 : decode cX5_isWall 104 = .ok (.iadd, 1) := by decide +kernel
theorem dX5_isWall_105 : decode cX5_isWall 105 = .ok (.istore 7, 2) := by decide +kernel
theorem dX5_isWall_107 : decode cX5_isWall 107 = .ok (.iload 5, 2) := by decide +kernel
theorem dX5_isWall_109 : decode cX5_isWall 109 = .ok (.iload_n 2, 1) := by decide +kernel
theorem dX5_isWall_110 : decode cX5_isWall 110 = .ok (.if_icmp .ge 62, 3) := by decide +kernel
theorem dX5_isWall_113 : decode cX5_isWall 113 = .ok (.aload_n 0, 1) := by decide +kernel
theorem dX5_isWall_114 : decode cX5_isWall 114 = .ok (.getfield 26, 3) := by decide +kernel
theorem dX5_isWall_117 : decode cX5_isWall 117 = .ok (.aload_n 0, 1) := by decide +kernel
theorem dX5_isWall_118 : decode cX5_isWall 118 = .ok (.iload 5, 2) := by decide +kernel
theorem dX5_isWall_120 : decode cX5_isWall 120 = .ok (.iload 6, 2) := by decide +kernel
theorem dX5_isWall_122 : decode cX5_isWall 122 = .ok (.iload_n 1, 1) := by decide +kernel
theorem dX5_isWall_123 : decode cX5_isWall 123 = .ok (.invokevirtual 144, 3) := by decide +kernel
theorem dX5_isWall_126 : decode cX5_isWall 126 = .ok (.baload, 1) := by decide +kernel
theorem dX5_isWall_127 : decode cX5_isWall 127 = .ok (.ifCond .ne 45, 3) := by decide +kernel
theorem dX5_isWall_130 : decode cX5_isWall 130 = .ok (.aload_n 0, 1) := by decide +kernel
theorem dX5_isWall_131 : decode cX5_isWall 131 = .ok (.getfield 33, 3) := by decide +kernel
theorem dX5_isWall_134 : decode cX5_isWall 134 = .ok (.iload 7, 2) := by decide +kernel
theorem dX5_isWall_136 : decode cX5_isWall 136 = .ok (.baload, 1) := by decide +kernel
theorem dX5_isWall_137 : decode cX5_isWall 137 = .ok (.aload_n 0, 1) := by decide +kernel
theorem dX5_isWall_138 : decode cX5_isWall 138 = .ok (.getfield 33, 3) := by decide +kernel
theorem dX5_isWall_141 : decode cX5_isWall 141 = .ok (.iload 7, 2) := by decide +kernel
theorem dX5_isWall_143 : decode cX5_isWall 143 = .ok (.bipush 6, 2) := by decide +kernel
theorem dX5_isWall_145 : decode cX5_isWall 145 = .ok (.iadd, 1) := by decide +kernel
theorem dX5_isWall_146 : decode cX5_isWall 146 = .ok (.baload, 1) := by decide +kernel
theorem dX5_isWall_147 : decode cX5_isWall 147 = .ok (.if_icmp .eq 25, 3) := by decide +kernel
theorem dX5_isWall_150 : decode cX5_isWall 150 = .ok (.aload_n 0, 1) := by decide +kernel
theorem dX5_isWall_151 : decode cX5_isWall 151 = .ok (.getfield 33, 3) := by decide +kernel
theorem dX5_isWall_154 : decode cX5_isWall 154 = .ok (.iload 7, 2) := by decide +kernel
theorem dX5_isWall_156 : decode cX5_isWall 156 = .ok (.iconst 1, 1) := by decide +kernel
theorem dX5_isWall_157 : decode cX5_isWall 157 = .ok (.bastore, 1) := by decide +kernel
theorem dX5_isWall_158 : decode cX5_isWall 158 = .ok (.aload_n 0, 1) := by decide +kernel
theorem dX5_isWall_159 : decode cX5_isWall 159 = .ok (.getfield 33, 3) := by decide +kernel
theorem dX5_isWall_162 : decode cX5_isWall 162 = .ok (.iload 7, 2) := by decide +kernel
theorem dX5_isWall_164 : decode cX5_isWall 164 = .ok (.bipush 6, 2) := by decide +kernel
theorem dX5_isWall_166 : decode cX5_isWall 166 = .ok (.iadd, 1) := by decide +kernel
theorem dX5_isWall_167 : decode cX5_isWall 167 = .ok (.iconst 1, 1) := by decide +kernel
theorem dX5_isWall_168 : decode cX5_isWall 168 = .ok (.bastore, 1) := by decide +kernel
theorem dX5_isWall_169 : decode cX5_isWall 169 = .ok (.iconst 1, 1) := by decide +kernel
theorem dX5_isWall_170 : decode cX5_isWall 170 = .ok (.istore 4, 2) := by decide +kernel
theorem dX5_isWall_172 : decode cX5_isWall 172 = .ok (.iload 5, 2) := by decide +kernel
theorem dX5_isWall_174 : decode cX5_isWall 174 = .ok (.ifCond .le 78, 3) := by decide +kernel
theorem dX5_isWall_177 : decode cX5_isWall 177 = .ok (.iload 5, 2) := by decide +kernel
theorem dX5_isWall_179 : decode cX5_isWall 179 = .ok (.iload_n 2, 1) := by decide +kernel
theorem dX5_isWall_180 : decode cX5_isWall 180 = .ok (.if_icmp .ge 72, 3) := by decide +kernel
theorem dX5_isWall_183 : decode cX5_isWall 183 = .ok (.iload 6, 2) := by decide +kernel
theorem dX5_isWall_185 : decode cX5_isWall 185 = .ok (.iconst 1, 1) := by decide +kernel
theorem dX5_isWall_186 : decode cX5_isWall 186 = .ok (.iadd, 1) := by decide +kernel
theorem dX5_isWall_187 : decode cX5_isWall 187 = .ok (.iload_n 3, 1) := by decide +kernel
theorem dX5_isWall_188 : decode cX5_isWall 188 = .ok (.if_icmp .ge 64, 3) := by decide +kernel
theorem dX5_isWall_191 : decode cX5_isWall 191 = .ok (.aload_n 0, 1) := by decide +kernel
theorem dX5_isWall_192 : decode cX5_isWall 192 = .ok (.getfield 26, 3) := by decide +kernel
theorem dX5_isWall_195 : decode cX5_isWall 195 = .ok (.aload_n 0, 1) := by decide +kernel
theorem dX5_isWall_196 : decode cX5_isWall 196 = .ok (.iload 5, 2) := by decide +kernel
theorem dX5_isWall_198 : decode cX5_isWall 198 = .ok (.iconst 1, 1) := by decide +kernel
theorem dX5_isWall_199 : decode cX5_isWall 199 = .ok (.isub, 1) := by decide +kernel
theorem dX5_isWall_200 : decode cX5_isWall 200 = .ok (.iload 6, 2) := by decide +kernel
theorem dX5_isWall_202 : decode cX5_isWall 202 = .ok (.iconst 1, 1) := by decide +kernel
theorem dX5_isWall_203 : decode cX5_isWall 203 = .ok (.iadd, 1) := by decide +kernel
theorem dX5_isWall_204 : decode cX5_isWall 204 = .ok (.iload_n 1, 1) := by decide +kernel
theorem dX5_isWall_205 : decode cX5_isWall 205 = .ok (.invokevirtual 148, 3) := by decide +kernel
theorem dX5_isWall_208 : decode cX5_isWall 208 = .ok (.baload, 1) := by decide +kernel
theorem dX5_isWall_209 : decode cX5_isWall 209 = .ok (.ifCond .ne 43, 3) := by decide +kernel
theorem dX5_isWall_212 : decode cX5_isWall 212 = .ok (.aload_n 0, 1) := by decide +kernel
theorem dX5_isWall_213 : decode cX5_isWall 213 = .ok (.getfield 33, 3) := by decide +kernel
theorem dX5_isWall_216 : decode cX5_isWall 216 = .ok (.iload 7, 2) := by decide +kernel
theorem dX5_isWall_218 : decode cX5_isWall 218 = .ok (.baload, 1) := by decide +kernel
theorem dX5_isWall_219 : decode cX5_isWall 219 = .ok (.aload_n 0, 1) := by decide +kernel
theorem dX5_isWall_220 : decode cX5_isWall 220 = .ok (.getfield 33, 3) := by decide +kernel
theorem dX5_isWall_223 : decode cX5_isWall 223 = .ok (.iload 7, 2) := by decide +kernel
theorem dX5_isWall_225 : decode cX5_isWall 225 = .ok (.iconst 1, 1) := by decide +kernel
theorem dX5_isWall_226 : decode cX5_isWall 226 = .ok (.iadd, 1) := by decide +kernel
theorem dX5_isWall_227 : decode cX5_isWall 227 = .ok (.baload, 1) := by decide +kernel
theorem dX5_isWall_228 : decode cX5_isWall 228 = .ok (.if_icmp .eq 24, 3) := by decide +kernel
theorem dX5_isWall_231 : decode cX5_isWall 231 = .ok (.aload_n 0, 1) := by decide +kernel
theorem dX5_isWall_232 : decode cX5_isWall 232 = .ok (.getfield 33, 3) := by decide +kernel
theorem dX5_isWall_235 : decode cX5_isWall 235 = .ok (.iload 7, 2) := by decide +kernel
theorem dX5_isWall_237 : decode cX5_isWall 237 = .ok (.iconst 1, 1) := by decide +kernel
theorem dX5_isWall_238 : decode cX5_isWall 238 = .ok (.bastore, 1) := by decide +kernel
theorem dX5_isWall_239 : decode cX5_isWall 239 = .ok (.aload_n 0, 1) := by decide +kernel
theorem dX5_isWall_240 : decode cX5_isWall 240 = .ok (.getfield 33, 3) := by decide +kernel
theorem dX5_isWall_243 : decode cX5_isWall 243 = .ok (.iload 7, 2) := by decide +kernel
theorem dX5_isWall_245 : decode cX5_isWall 245 = .ok (.iconst 1, 1) := by decide +kernel
theorem dX5_isWall_246 : decode cX5_isWall 246 = .ok (.iadd, 1) := by decide +kernel
theorem dX5_isWall_247 : decode cX5_isWall 247 = .ok (.iconst 1, 1) := by decide +kernel
theorem dX5_isWall_248 : decode cX5_isWall 248 = .ok (.bastore, 1) := by decide +kernel
theorem dX5_isWall_249 : decode cX5_isWall 249 = .ok (.iconst 1, 1) := by decide +kernel
theorem dX5_isWall_250 : decode cX5_isWall 250 = .ok (.istore 4, 2) := by decide +kernel
theorem dX5_isWall_252 : decode cX5_isWall 252 = .ok (.iinc 6 1, 3) := by decide +kernel
theorem dX5_isWall_255 : decode cX5_isWall 255 = .ok (.goto (-164), 3) := by decide +kernel
theorem dX5_isWall_258 : decode cX5_isWall 258 = .ok (.iinc 5 1, 3) := by decide +kernel
theorem dX5_isWall_261 : decode cX5_isWall 261 = .ok (.goto (-179), 3) := by decide +kernel
theorem dX5_isWall_264 : decode cX5_isWall 264 = .ok (.goto (-193), 3) := by decide +kernel
theorem dX5_isWall_267 : decode cX5_isWall 267 = .ok (.iconst 0, 1) := by decide +kernel
theorem dX5_isWall_268 : decode cX5_isWall 268 = .ok (.istore 5, 2) := by decide +kernel
theorem dX5_isWall_270 : decode cX5_isWall 270 = .ok (.iconst 0, 1) := by decide +kernel
theorem dX5_isWall_271 : decode cX5_isWall 271 = .ok (.istore 6, 2) := by decide +kernel
theorem dX5_isWall_273 : decode cX5_isWall 273 = .ok (.iload 6, 2) := by decide +kernel
theorem dX5_isWall_275 : decode cX5_isWall 275 = .ok (.iload_n 3, 1) := by decide +kernel
theorem dX5_isWall_276 : decode cX5_isWall 276 = .ok (.if_icmp .ge 26, 3) := by decide +kernel
theorem dX5_isWall_279 : decode cX5_isWall 279 = .ok (.iload 5, 2) := by decide +kernel
theorem dX5_isWall_281 : decode cX5_isWall 281 = .ok (.aload_n 0, 1) := by decide +kernel
theorem dX5_isWall_282 : decode cX5_isWall 282 = .ok (.getfield 33, 3) := by decide +kernel
theorem dX5_isWall_285 : decode cX5_isWall 285 = .ok (.bipush 6, 2) := by decide +kernel
theorem dX5_isWall_287 : decode cX5_isWall 287 = .ok (.iload_n 2, 1) := by decide +kernel
theorem dX5_isWall_288 : decode cX5_isWall 288 = .ok (.imul, 1) := by decide +kernel
theorem dX5_isWall_289 : decode cX5_isWall 289 = .ok (.iload 6, 2) := by decide +kernel
theorem dX5_isWall_291 : decode cX5_isWall 291 = .ok (.iadd, 1) := by decide +kernel
theorem dX5_isWall_292 : decode cX5_isWall 292 = .ok (.baload, 1) := by decide +kernel
theorem dX5_isWall_293 : decode cX5_isWall 293 = .ok (.ior, 1) := by decide +kernel
theorem dX5_isWall_294 : decode cX5_isWall 294 = .ok (.istore 5, 2) := by decide +kernel
theorem dX5_isWall_296 : decode cX5_isWall 296 = .ok (.iinc 6 1, 3) := by decide +kernel
theorem dX5_isWall_299 : decode cX5_isWall 299 = .ok (.goto (-26), 3) := by decide +kernel
theorem dX5_isWall_302 : decode cX5_isWall 302 = .ok (.iload 5, 2) := by decide +kernel
theorem dX5_isWall_304 : decode cX5_isWall 304 = .ok (.ireturn, 1) := by decide +kernel
theorem dX5_wall_0 : decode cX5_wall 0 = .ok (.aload_n 0, 1) := by decide +kernel
theorem dX5_wall_1 : decode cX5_wall 1 = .ok (.iconst 0, 1) := by decide +kernel
theorem dX5_wall_2 : decode cX5_wall 2 = .ok (.putfield 58, 3) := by decide +kernel
theorem dX5_wall_5 : decode cX5_wall 5 = .ok (.aload_n 0, 1) := by decide +kernel
theorem dX5_wall_6 : decode cX5_wall 6 = .ok (.iload_n 1, 1) := by decide +kernel
theorem dX5_wall_7 : decode cX5_wall 7 = .ok (.invokevirtual 107, 3) := by decide +kernel
theorem dX5_wall_10 : decode cX5_wall 10 = .ok (.ifCond .eq 12, 3) := by decide +kernel
theorem dX5_wall_13 : decode cX5_wall 13 = .ok (.iload_n 2, 1) := by decide +kernel
theorem dX5_wall_14 : decode cX5_wall 14 = .ok (.iconst 0, 1) := by decide +kernel
theorem dX5_wall_15 : decode cX5_wall 15 = .ok (.iconst 1, 1) := by decide +kernel
theorem dX5_wall_16 : decode cX5_wall 16 = .ok (.invokestatic 81, 3) := by decide +kernel
theorem dX5_wall_19 : decode cX5_wall 19 = .ok (.ifCond .ne 5, 3) := by decide +kernel
theorem dX5_wall_22 : decode cX5_wall 22 = .ok (.iconst (-1), 1) := by decide +kernel
theorem dX5_wall_23 : decode cX5_wall 23 = .ok (.ireturn, 1) := by decide +kernel
theorem dX5_wall_24 : decode cX5_wall 24 = .ok (.aload_n 0, 1) := by decide +kernel
theorem dX5_wall_25 : decode cX5_wall 25 = .ok (.getfield 69, 3) := by decide +kernel
theorem dX5_wall_28 : decode cX5_wall 28 = .ok (.ifCond .eq 6, 3) := by decide +kernel
theorem dX5_wall_31 : decode cX5_wall 31 = .ok (.bipush (-2), 2) := by decide +kernel
theorem dX5_wall_33 : decode cX5_wall 33 = .ok (.ireturn, 1) := by decide +kernel
theorem dX5_wall_34 : decode cX5_wall 34 = .ok (.aload_n 0, 1) := by decide +kernel
theorem dX5_wall_35 : decode cX5_wall 35 = .ok (.iload_n 1, 1) := by decide +kernel
theorem dX5_wall_36 : decode cX5_wall 36 = .ok (.invokevirtual 132, 3) := by decide +kernel
theorem dX5_wall_39 : decode cX5_wall 39 = .ok (.aload_n 0, 1) := by decide +kernel
theorem dX5_wall_40 : decode cX5_wall 40 = .ok (.iload_n 2, 1) := by decide +kernel
theorem dX5_wall_41 : decode cX5_wall 41 = .ok (.iconst 1, 1) := by decide +kernel
theorem dX5_wall_42 : decode cX5_wall 42 = .ok (.if_icmp .ne 7, 3) := by decide +kernel
theorem dX5_wall_45 : decode cX5_wall 45 = .ok (.iconst 1, 1) := by decide +kernel
theorem dX5_wall_46 : decode cX5_wall 46 = .ok (.goto 4, 3) := by decide +kernel
theorem dX5_wall_49 : decode cX5_wall 49 = .ok (.iconst 0, 1) := by decide +kernel
theorem dX5_wall_50 : decode cX5_wall 50 = .ok (.invokevirtual 151, 3) := by decide +kernel
theorem dX5_wall_53 : decode cX5_wall 53 = .ok (.ifCond .eq 7, 3) := by decide +kernel
theorem dX5_wall_56 : decode cX5_wall 56 = .ok (.iconst 1, 1) := by decide +kernel
theorem dX5_wall_57 : decode cX5_wall 57 = .ok (.goto 4, 3) := by decide +kernel
theorem dX5_wall_60 : decode cX5_wall 60 = .ok (.iconst 0, 1) := by decide +kernel
theorem dX5_wall_61 : decode cX5_wall 61 = .ok (.ireturn, 1) := by decide +kernel
theorem dX5_heap_0 : decode cX5_heap 0 = .ok (.aload_n 0, 1) := by decide +kernel
theorem dX5_heap_1 : decode cX5_heap 1 = .ok (.iconst 0, 1) := by decide +kernel
theorem dX5_heap_2 : decode cX5_heap 2 = .ok (.putfield 58, 3) := by decide +kernel
theorem dX5_heap_5 : decode cX5_heap 5 = .ok (.aload_n 0, 1) := by decide +kernel
theorem dX5_heap_6 : decode cX5_heap 6 = .ok (.iload_n 1, 1) := by decide +kernel
theorem dX5_heap_7 : decode cX5_heap 7 = .ok (.invokevirtual 107, 3) := by decide +kernel
theorem dX5_heap_10 : decode cX5_heap 10 = .ok (.ifCond .eq 11, 3) := by decide +kernel
theorem dX5_heap_13 : decode cX5_heap 13 = .ok (.aload_n 0, 1) := by decide +kernel
theorem dX5_heap_14 : decode cX5_heap 14 = .ok (.iload_n 2, 1) := by decide +kernel
theorem dX5_heap_15 : decode cX5_heap 15 = .ok (.invokevirtual 155, 3) := by decide +kernel
theorem dX5_heap_18 : decode cX5_heap 18 = .ok (.ifCond .ne 5, 3) := by decide +kernel
theorem dX5_heap_21 : decode cX5_heap 21 = .ok (.iconst (-1), 1) := by decide +kernel
theorem dX5_heap_22 : decode cX5_heap 22 = .ok (.ireturn, 1) := by decide +kernel
theorem dX5_heap_23 : decode cX5_heap 23 = .ok (.aload_n 0, 1) := by decide +kernel
theorem dX5_heap_24 : decode cX5_heap 24 = .ok (.iload_n 1, 1) := by decide +kernel
theorem dX5_heap_25 : decode cX5_heap 25 = .ok (.invokevirtual 132, 3) := by decide +kernel
theorem dX5_heap_28 : decode cX5_heap 28 = .ok (.aload_n 0, 1) := by decide +kernel
theorem dX5_heap_29 : decode cX5_heap 29 = .ok (.iload_n 2, 1) := by decide +kernel
theorem dX5_heap_30 : decode cX5_heap 30 = .ok (.invokevirtual 129, 3) := by decide +kernel
theorem dX5_heap_33 : decode cX5_heap 33 = .ok (.ireturn, 1) := by decide +kernel
theorem dX5_sizeOf_0 : decode cX5_sizeOf 0 = .ok (.iconst 0, 1) := by decide +kernel
theorem dX5_sizeOf_1 : decode cX5_sizeOf 1 = .ok (.istore_n 2, 1) := by decide +kernel
