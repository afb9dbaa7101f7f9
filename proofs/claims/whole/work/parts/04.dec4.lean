theorem dX4_init_0 : decode cX4_init 0 = .ok (.aload_n 0, 1) := by decide +kernel
theorem dX4_init_1 : decode cX4_init 1 = .ok (.invokespecial 1, 3) := by decide +kernel
theorem dX4_init_4 : decode cX4_init 4 = .ok (.aload_n 0, 1) := by decide +kernel
theorem dX4_init_5 : decode cX4_init 5 = .ok (.new 7, 3) := by decide +kernel
theorem dX4_init_8 : decode cX4_init 8 = .ok (.dup, 1) := by decide +kernel
theorem dX4_init_9 : decode cX4_init 9 = .ok (.invokespecial 9, 3) := by decide +kernel
theorem dX4_init_12 : decode cX4_init 12 = .ok (.putfield 10, 3) := by decide +kernel
theorem dX4_init_15 : decode cX4_init 15 = .ok (.aload_n 0, 1) := by decide +kernel
theorem dX4_init_16 : decode cX4_init 16 = .ok (.new 16, 3) := by decide +kernel
theorem dX4_init_19 : decode cX4_init 19 = .ok (.dup, 1) := by decide +kernel
theorem dX4_init_20 : decode cX4_init 20 = .ok (.aload_n 0, 1) := by decide +kernel
theorem dX4_init_21 : decode cX4_init 21 = .ok (.getfield 10, 3) := by decide +kernel
theorem dX4_init_24 : decode cX4_init 24 = .ok (.invokespecial 18, 3) := by decide +kernel
theorem dX4_init_27 : decode cX4_init 27 = .ok (.putfield 21, 3) := by decide +kernel
theorem dX4_init_30 : decode cX4_init 30 = .ok (.aload_n 0, 1) := by decide +kernel
theorem dX4_init_31 : decode cX4_init 31 = .ok (.new 25, 3) := by decide +kernel
theorem dX4_init_34 : decode cX4_init 34 = .ok (.dup, 1) := by decide +kernel
theorem dX4_init_35 : decode cX4_init 35 = .ok (.invokespecial 27, 3) := by decide +kernel
theorem dX4_init_38 : decode cX4_init 38 = .ok (.putfield 28, 3) := by decide +kernel
theorem dX4_init_41 : decode cX4_init 41 = .ok (.aload_n 0, 1) := by decide +kernel
theorem dX4_init_42 : decode cX4_init 42 = .ok (.new 25, 3) := by decide +kernel
theorem dX4_init_45 : decode cX4_init 45 = .ok (.dup, 1) := by decide +kernel
theorem dX4_init_46 : decode cX4_init 46 = .ok (.invokespecial 27, 3) := by decide +kernel
theorem dX4_init_49 : decode cX4_init 49 = .ok (.putfield 32, 3) := by decide +kernel
theorem dX4_init_52 : decode cX4_init 52 = .ok (.aload_n 0, 1) := by decide +kernel
theorem dX4_init_53 : decode cX4_init 53 = .ok (.iconst 3, 1) := by decide +kernel
theorem dX4_init_54 : decode cX4_init 54 = .ok (.anewarray 35, 3) := by decide +kernel
theorem dX4_init_57 : decode cX4_init 57 = .ok (.putfield 37, 3) := by decide +kernel
theorem dX4_init_60 : decode cX4_init 60 = .ok (.aload_n 0, 1) := by decide +kernel
theorem dX4_init_61 : decode cX4_init 61 = .ok (.lconst 0, 1) := by decide +kernel
theorem dX4_init_62 : decode cX4_init 62 = .ok (.putfield 41, 3) := by decide +kernel
theorem dX4_init_65 : decode cX4_init 65 = .ok (.aload_n 0, 1) := by decide +kernel
theorem dX4_init_66 : decode cX4_init 66 = .ok (.iconst 0, 1) := by decide +kernel
theorem dX4_init_67 : decode cX4_init 67 = .ok (.putfield 45, 3) := by decide +kernel
theorem dX4_init_70 : decode cX4_init 70 = .ok (.aload_n 0, 1) := by decide +kernel
theorem dX4_init_71 : decode cX4_init 71 = .ok (.iconst 2, 1) := by decide +kernel
theorem dX4_init_72 : decode cX4_init 72 = .ok (.iconst 2, 1) := by decide +kernel
theorem dX4_init_73 : decode cX4_init 73 = .ok (.iconst 0, 1) := by decide +kernel
theorem dX4_init_74 : decode cX4_init 74 = .ok (.invokevirtual 49, 3) := by decide +kernel
theorem dX4_init_77 : decode cX4_init 77 = .ok (.return_, 1) := by decide +kernel
theorem dX4_ground_0 : decode cX4_ground 0 = .ok (.iload_n 1, 1) := by decide +kernel
theorem dX4_ground_1 : decode cX4_ground 1 = .ok (.iconst 1, 1) := by decide +kernel
theorem dX4_ground_2 : decode cX4_ground 2 = .ok (.iconst 5, 1) := by decide +kernel
theorem dX4_ground_3 : decode cX4_ground 3 = .ok (.invokestatic 53, 3) := by decide +kernel
theorem dX4_ground_6 : decode cX4_ground 6 = .ok (.ifCond .eq 12, 3) := by decide +kernel
theorem dX4_ground_9 : decode cX4_ground 9 = .ok (.iload_n 2, 1) := by decide +kernel
theorem dX4_ground_10 : decode cX4_ground 10 = .ok (.iconst 1, 1) := by decide +kernel
theorem dX4_ground_11 : decode cX4_ground 11 = .ok (.iconst 5, 1) := by decide +kernel
theorem dX4_ground_12 : decode cX4_ground 12 = .ok (.invokestatic 53, 3) := by decide +kernel
theorem dX4_ground_15 : decode cX4_ground 15 = .ok (.ifCond .ne 5, 3) := by decide +kernel
theorem dX4_ground_18 : decode cX4_ground 18 = .ok (.iconst (-1), 1) := by decide +kernel
theorem dX4_ground_19 : decode cX4_ground 19 = .ok (.ireturn, 1) := by decide +kernel
theorem dX4_ground_20 : decode cX4_ground 20 = .ok (.aload_n 0, 1) := by decide +kernel
theorem dX4_ground_21 : decode cX4_ground 21 = .ok (.iload_n 1, 1) := by decide +kernel
theorem dX4_ground_22 : decode cX4_ground 22 = .ok (.iload_n 2, 1) := by decide +kernel
theorem dX4_ground_23 : decode cX4_ground 23 = .ok (.iload_n 3, 1) := by decide +kernel
theorem dX4_ground_24 : decode cX4_ground 24 = .ok (.invokevirtual 49, 3) := by decide +kernel
theorem dX4_ground_27 : decode cX4_ground 27 = .ok (.aload_n 0, 1) := by decide +kernel
theorem dX4_ground_28 : decode cX4_ground 28 = .ok (.getfield 10, 3) := by decide +kernel
theorem dX4_ground_31 : decode cX4_ground 31 = .ok (.getfield 57, 3) := by decide +kernel
theorem dX4_ground_34 : decode cX4_ground 34 = .ok (.ireturn, 1) := by decide +kernel
theorem dX4_kind_0 : decode cX4_kind 0 = .ok (.aload_n 0, 1) := by decide +kernel
theorem dX4_kind_1 : decode cX4_kind 1 = .ok (.iload_n 1, 1) := by decide +kernel
theorem dX4_kind_2 : decode cX4_kind 2 = .ok (.invokevirtual 59, 3) := by decide +kernel
theorem dX4_kind_5 : decode cX4_kind 5 = .ok (.ifCond .eq 12, 3) := by decide +kernel
theorem dX4_kind_8 : decode cX4_kind 8 = .ok (.iload_n 2, 1) := by decide +kernel
theorem dX4_kind_9 : decode cX4_kind 9 = .ok (.iconst 0, 1) := by decide +kernel
theorem dX4_kind_10 : decode cX4_kind 10 = .ok (.iconst 2, 1) := by decide +kernel
theorem dX4_kind_11 : decode cX4_kind 11 = .ok (.invokestatic 53, 3) := by decide +kernel
theorem dX4_kind_14 : decode cX4_kind 14 = .ok (.ifCond .ne 5, 3) := by decide +kernel
theorem dX4_kind_17 : decode cX4_kind 17 = .ok (.iconst (-1), 1) := by decide +kernel
theorem dX4_kind_18 : decode cX4_kind 18 = .ok (.ireturn, 1) := by decide +kernel
theorem dX4_kind_19 : decode cX4_kind 19 = .ok (.iload_n 2, 1) := by decide +kernel
theorem dX4_kind_20 : decode cX4_kind 20 = .ok (.iconst 2, 1) := by decide +kernel
theorem dX4_kind_21 : decode cX4_kind 21 = .ok (.if_icmp .eq 17, 3) := by decide +kernel
theorem dX4_kind_24 : decode cX4_kind 24 = .ok (.aload_n 0, 1) := by decide +kernel
theorem dX4_kind_25 : decode cX4_kind 25 = .ok (.getfield 21, 3) := by decide +kernel
theorem dX4_kind_28 : decode cX4_kind 28 = .ok (.iload_n 1, 1) := by decide +kernel
theorem dX4_kind_29 : decode cX4_kind 29 = .ok (.invokevirtual 63, 3) := by decide +kernel
theorem dX4_kind_32 : decode cX4_kind 32 = .ok (.ifCond .eq 6, 3) := by decide +kernel
theorem dX4_kind_35 : decode cX4_kind 35 = .ok (.bipush (-2), 2) := by decide +kernel
theorem dX4_kind_37 : decode cX4_kind 37 = .ok (.ireturn, 1) := by decide +kernel
theorem dX4_kind_38 : decode cX4_kind 38 = .ok (.iload_n 2, 1) := by decide +kernel
theorem dX4_kind_39 : decode cX4_kind 39 = .ok (.iconst 2, 1) := by decide +kernel
theorem dX4_kind_40 : decode cX4_kind 40 = .ok (.if_icmp .ne 31, 3) := by decide +kernel
theorem dX4_kind_43 : decode cX4_kind 43 = .ok (.aload_n 0, 1) := by decide +kernel
theorem dX4_kind_44 : decode cX4_kind 44 = .ok (.getfield 21, 3) := by decide +kernel
theorem dX4_kind_47 : decode cX4_kind 47 = .ok (.getfield 66, 3) := by decide +kernel
theorem dX4_kind_50 : decode cX4_kind 50 = .ok (.iload_n 1, 1) := by decide +kernel
theorem dX4_kind_51 : decode cX4_kind 51 = .ok (.iaload, 1) := by decide +kernel
theorem dX4_kind_52 : decode cX4_kind 52 = .ok (.iconst 2, 1) := by decide +kernel
theorem dX4_kind_53 : decode cX4_kind 53 = .ok (.if_icmp .eq 18, 3) := by decide +kernel
theorem dX4_kind_56 : decode cX4_kind 56 = .ok (.aload_n 0, 1) := by decide +kernel
theorem dX4_kind_57 : decode cX4_kind 57 = .ok (.getfield 21, 3) := by decide +kernel
theorem dX4_kind_60 : decode cX4_kind 60 = .ok (.getfield 70, 3) := by decide +kernel
theorem dX4_kind_63 : decode cX4_kind 63 = .ok (.bipush 12, 2) := by decide +kernel
theorem dX4_kind_65 : decode cX4_kind 65 = .ok (.if_icmp .lt 6, 3) := by decide +kernel
theorem dX4_kind_68 : decode cX4_kind 68 = .ok (.bipush (-3), 2) := by decide +kernel
theorem dX4_kind_70 : decode cX4_kind 70 = .ok (.ireturn, 1) := by decide +kernel
theorem dX4_kind_71 : decode cX4_kind 71 = .ok (.aload_n 0, 1) := by decide +kernel
theorem dX4_kind_72 : decode cX4_kind 72 = .ok (.getfield 21, 3) := by decide +kernel
theorem dX4_kind_75 : decode cX4_kind 75 = .ok (.iload_n 1, 1) := by decide +kernel
theorem dX4_kind_76 : decode cX4_kind 76 = .ok (.iload_n 2, 1) := by decide +kernel
theorem dX4_kind_77 : decode cX4_kind 77 = .ok (.bipush (-9), 2) := by decide +kernel
theorem dX4_kind_79 : decode cX4_kind 79 = .ok (.invokevirtual 73, 3) := by decide +kernel
theorem dX4_kind_82 : decode cX4_kind 82 = .ok (.ireturn, 1) := by decide +kernel
theorem dX4_twin_0 : decode cX4_twin 0 = .ok (.aload_n 0, 1) := by decide +kernel
theorem dX4_twin_1 : decode cX4_twin 1 = .ok (.iload_n 1, 1) := by decide +kernel
theorem dX4_twin_2 : decode cX4_twin 2 = .ok (.invokevirtual 59, 3) := by decide +kernel
theorem dX4_twin_5 : decode cX4_twin 5 = .ok (.ifCond .eq 29, 3) := by decide +kernel
theorem dX4_twin_8 : decode cX4_twin 8 = .ok (.aload_n 0, 1) := by decide +kernel
theorem dX4_twin_9 : decode cX4_twin 9 = .ok (.iload_n 2, 1) := by decide +kernel
theorem dX4_twin_10 : decode cX4_twin 10 = .ok (.invokevirtual 59, 3) := by decide +kernel
theorem dX4_twin_13 : decode cX4_twin 13 = .ok (.ifCond .eq 21, 3) := by decide +kernel
theorem dX4_twin_16 : decode cX4_twin 16 = .ok (.iload_n 1, 1) := by decide +kernel
theorem dX4_twin_17 : decode cX4_twin 17 = .ok (.iload_n 2, 1) := by decide +kernel
theorem dX4_twin_18 : decode cX4_twin 18 = .ok (.if_icmp .eq 16, 3) := by decide +kernel
theorem dX4_twin_21 : decode cX4_twin 21 = .ok (.aload_n 0, 1) := by decide +kernel
theorem dX4_twin_22 : decode cX4_twin 22 = .ok (.getfield 21, 3) := by decide +kernel
theorem dX4_twin_25 : decode cX4_twin 25 = .ok (.getfield 66, 3) := by decide +kernel
theorem dX4_twin_28 : decode cX4_twin 28 = .ok (.iload_n 2, 1) := by decide +kernel
theorem dX4_twin_29 : decode cX4_twin 29 = .ok (.iaload, 1) := by decide +kernel
theorem dX4_twin_30 : decode cX4_twin 30 = .ok (.iconst 2, 1) := by decide +kernel
theorem dX4_twin_31 : decode cX4_twin 31 = .ok (.if_icmp .eq 5, 3) := by decide +kernel
theorem dX4_twin_34 : decode cX4_twin 34 = .ok (.iconst (-1), 1) := by decide +kernel
theorem dX4_twin_35 : decode cX4_twin 35 = .ok (.ireturn, 1) := by decide +kernel
theorem dX4_twin_36 : decode cX4_twin 36 = .ok (.aload_n 0, 1) := by decide +kernel
theorem dX4_twin_37 : decode cX4_twin 37 = .ok (.getfield 21, 3) := by decide +kernel
theorem dX4_twin_40 : decode cX4_twin 40 = .ok (.iload_n 1, 1) := by decide +kernel
theorem dX4_twin_41 : decode cX4_twin 41 = .ok (.invokevirtual 63, 3) := by decide +kernel
theorem dX4_twin_44 : decode cX4_twin 44 = .ok (.ifCond .eq 6, 3) := by decide +kernel
theorem dX4_twin_47 : decode cX4_twin 47 = .ok (.bipush (-2), 2) := by decide +kernel
theorem dX4_twin_49 : decode cX4_twin 49 = .ok (.ireturn, 1) := by decide +kernel
theorem dX4_twin_50 : decode cX4_twin 50 = .ok (.aload_n 0, 1) := by decide +kernel
theorem dX4_twin_51 : decode cX4_twin 51 = .ok (.getfield 21, 3) := by decide +kernel
theorem dX4_twin_54 : decode cX4_twin 54 = .ok (.iload_n 1, 1) := by decide +kernel
theorem dX4_twin_55 : decode cX4_twin 55 = .ok (.iload_n 3, 1) := by decide +kernel
theorem dX4_twin_56 : decode cX4_twin 56 = .ok (.ifCond .eq 7, 3) := by decide +kernel
theorem dX4_twin_59 : decode cX4_twin 59 = .ok (.iconst 4, 1) := by decide +kernel
theorem dX4_twin_60 : decode cX4_twin 60 = .ok (.goto 4, 3) := by decide +kernel
theorem dX4_twin_63 : decode cX4_twin 63 = .ok (.iconst 3, 1) := by decide +kernel
theorem dX4_twin_64 : decode cX4_twin 64 = .ok (.iload_n 2, 1) := by decide +kernel
theorem dX4_twin_65 : decode cX4_twin 65 = .ok (.invokevirtual 73, 3) := by decide +kernel
theorem dX4_twin_68 : decode cX4_twin 68 = .ok (.ireturn, 1) := by decide +kernel
theorem dX4_about_0 : decode cX4_about 0 = .ok (.aload_n 0, 1) := by decide +kernel
theorem dX4_about_1 : decode cX4_about 1 = .ok (.iload_n 1, 1) := by decide +kernel
theorem dX4_about_2 : decode cX4_about 2 = .ok (.invokevirtual 59, 3) := by decide +kernel
theorem dX4_about_5 : decode cX4_about 5 = .ok (.ifCond .ne 5, 3) := by decide +kernel
theorem dX4_about_8 : decode cX4_about 8 = .ok (.iconst (-1), 1) := by decide +kernel
theorem dX4_about_9 : decode cX4_about 9 = .ok (.ireturn, 1) := by decide +kernel
theorem dX4_about_10 : decode cX4_about 10 = .ok (.iload_n 2, 1) := by decide +kernel
theorem dX4_about_11 : decode cX4_about 11 = .ok (.tableswitch 81 0 4 #[33, 43, 53, 63, 72], 33) := by decide +kernel
theorem dX4_about_44 : decode cX4_about 44 = .ok (.aload_n 0, 1) := by decide +kernel
theorem dX4_about_45 : decode cX4_about 45 = .ok (.getfield 21, 3) := by decide +kernel
theorem dX4_about_48 : decode cX4_about 48 = .ok (.getfield 66, 3) := by decide +kernel
theorem dX4_about_51 : decode cX4_about 51 = .ok (.iload_n 1, 1) := by decide +kernel
theorem dX4_about_52 : decode cX4_about 52 = .ok (.iaload, 1) := by decide +kernel
theorem dX4_about_53 : decode cX4_about 53 = .ok (.ireturn, 1) := by decide +kernel
theorem dX4_about_54 : decode cX4_about 54 = .ok (.aload_n 0, 1) := by decide +kernel
theorem dX4_about_55 : decode cX4_about 55 = .ok (.getfield 21, 3) := by decide +kernel
theorem dX4_about_58 : decode cX4_about 58 = .ok (.getfield 77, 3) := by decide +kernel
theorem dX4_about_61 : decode cX4_about 61 = .ok (.iload_n 1, 1) := by decide +kernel
theorem dX4_about_62 : decode cX4_about 62 = .ok (.iaload, 1) := by decide +kernel
theorem dX4_about_63 : decode cX4_about 63 = .ok (.ireturn, 1) := by decide +kernel
theorem dX4_about_64 : decode cX4_about 64 = .ok (.aload_n 0, 1) := by decide +kernel
theorem dX4_about_65 : decode cX4_about 65 = .ok (.getfield 21, 3) := by decide +kernel
theorem dX4_about_68 : decode cX4_about 68 = .ok (.getfield 80, 3) := by decide +kernel
theorem dX4_about_71 : decode cX4_about 71 = .ok (.iload_n 1, 1) := by decide +kernel
theorem dX4_about_72 : decode cX4_about 72 = .ok (.iaload, 1) := by decide +kernel
theorem dX4_about_73 : decode cX4_about 73 = .ok (.ireturn, 1) := by decide +kernel
theorem dX4_about_74 : decode cX4_about 74 = .ok (.aload_n 0, 1) := by decide +kernel
theorem dX4_about_75 : decode cX4_about 75 = .ok (.getfield 10, 3) := by decide +kernel
theorem dX4_about_78 : decode cX4_about 78 = .ok (.iload_n 1, 1) := by decide +kernel
theorem dX4_about_79 : decode cX4_about 79 = .ok (.invokevirtual 83, 3) := by decide +kernel
theorem dX4_about_82 : decode cX4_about 82 = .ok (.ireturn, 1) := by decide +kernel
theorem dX4_about_83 : decode cX4_about 83 = .ok (.aload_n 0, 1) := by decide +kernel
theorem dX4_about_84 : decode cX4_about 84 = .ok (.getfield 10, 3) := by decide +kernel
theorem dX4_about_87 : decode cX4_about 87 = .ok (.iload_n 1, 1) := by decide +kernel
theorem dX4_about_88 : decode cX4_about 88 = .ok (.invokevirtual 87, 3) := by decide +kernel
theorem dX4_about_91 : decode cX4_about 91 = .ok (.ireturn, 1) := by decide +kernel
theorem dX4_about_92 : decode cX4_about 92 = .ok (.iconst (-1), 1) := by decide +kernel
theorem dX4_about_93 : decode cX4_about 93 = .ok (.ireturn, 1) := by decide +kernel
theorem dX4_told_0 : decode cX4_told 0 = .ok (.iload_n 1, 1) := by decide +kernel
theorem dX4_told_1 : decode cX4_told 1 = .ok (.tableswitch 90 0 5 #[39, 47, 55, 66, 74, 82], 39) := by decide +kernel
theorem dX4_told_40 : decode cX4_told 40 = .ok (.aload_n 0, 1) := by decide +kernel
theorem dX4_told_41 : decode cX4_told 41 = .ok (.getfield 10, 3) := by decide +kernel
theorem dX4_told_44 : decode cX4_told 44 = .ok (.getfield 90, 3) := by decide +kernel
theorem dX4_told_47 : decode cX4_told 47 = .ok (.ireturn, 1) := by decide +kernel
theorem dX4_told_48 : decode cX4_told 48 = .ok (.aload_n 0, 1) := by decide +kernel
theorem dX4_told_49 : decode cX4_told 49 = .ok (.getfield 10, 3) := by decide +kernel
theorem dX4_told_52 : decode cX4_told 52 = .ok (.getfield 93, 3) := by decide +kernel
theorem dX4_told_55 : decode cX4_told 55 = .ok (.ireturn, 1) := by decide +kernel
theorem dX4_told_56 : decode cX4_told 56 = .ok (.aload_n 0, 1) := by decide +kernel
theorem dX4_told_57 : decode cX4_told 57 = .ok (.getfield 10, 3) := by decide +kernel
theorem dX4_told_60 : decode cX4_told 60 = .ok (.getfield 96, 3) := by decide +kernel
theorem dX4_told_63 : decode cX4_told 63 = .ok (.invokestatic 100, 3) := by decide +kernel
theorem dX4_told_66 : decode cX4_told 66 = .ok (.ireturn, 1) := by decide +kernel
theorem dX4_told_67 : decode cX4_told 67 = .ok (.aload_n 0, 1) := by decide +kernel
theorem dX4_told_68 : decode cX4_told 68 = .ok (.getfield 10, 3) := by decide +kernel
theorem dX4_told_71 : decode cX4_told 71 = .ok (.getfield 57, 3) := by decide +kernel
theorem dX4_told_74 : decode cX4_told 74 = .ok (.ireturn, 1) := by decide +kernel
theorem dX4_told_75 : decode cX4_told 75 = .ok (.aload_n 0, 1) := by decide +kernel
theorem dX4_told_76 : decode cX4_told 76 = .ok (.getfield 21, 3) := by decide +kernel
theorem dX4_told_79 : decode cX4_told 79 = .ok (.getfield 70, 3) := by decide +kernel
theorem dX4_told_82 : decode cX4_told 82 = .ok (.ireturn, 1) := by decide +kernel
theorem dX4_told_83 : decode cX4_told 83 = .ok (.aload_n 0, 1) := by decide +kernel
theorem dX4_told_84 : decode cX4_told 84 = .ok (.getfield 21, 3) := by decide +kernel
theorem dX4_told_87 : decode cX4_told 87 = .ok (.invokevirtual 104, 3) := by decide +kernel
theorem dX4_told_90 : decode cX4_told 90 = .ok (.ireturn, 1) := by decide +kernel
theorem dX4_told_91 : decode cX4_told 91 = .ok (.iconst (-1), 1) := by decide +kernel
theorem dX4_told_92 : decode cX4_told 92 = .ok (.ireturn, 1) := by decide +kernel
theorem dX4_opens_0 : decode cX4_opens 0 = .ok (.aload_n 0, 1) := by decide +kernel
theorem dX4_opens_1 : decode cX4_opens 1 = .ok (.iload_n 1, 1) := by decide +kernel
theorem dX4_opens_2 : decode cX4_opens 2 = .ok (.invokevirtual 59, 3) := by decide +kernel
theorem dX4_opens_5 : decode cX4_opens 5 = .ok (.ifCond .eq 11, 3) := by decide +kernel
theorem dX4_opens_8 : decode cX4_opens 8 = .ok (.aload_n 0, 1) := by decide +kernel
theorem dX4_opens_9 : decode cX4_opens 9 = .ok (.iload_n 2, 1) := by decide +kernel
theorem dX4_opens_10 : decode cX4_opens 10 = .ok (.invokevirtual 108, 3) := by decide +kernel
theorem dX4_opens_13 : decode cX4_opens 13 = .ok (.ifCond .ne 5, 3) := by decide +kernel
theorem dX4_opens_16 : decode cX4_opens 16 = .ok (.iconst (-1), 1) := by decide +kernel
theorem dX4_opens_17 : decode cX4_opens 17 = .ok (.ireturn, 1) := by decide +kernel
theorem dX4_opens_18 : decode cX4_opens 18 = .ok (.aload_n 0, 1) := by decide +kernel
theorem dX4_opens_19 : decode cX4_opens 19 = .ok (.dup, 1) := by decide +kernel
theorem dX4_opens_20 : decode cX4_opens 20 = .ok (.getfield 41, 3) := by decide +kernel
theorem dX4_opens_23 : decode cX4_opens 23 = .ok (.getstatic 111, 3) := by decide +kernel
theorem dX4_opens_26 : decode cX4_opens 26 = .ok (.aload_n 0, 1) := by decide +kernel
theorem dX4_opens_27 : decode cX4_opens 27 = .ok (.getfield 21, 3) := by decide +kernel
theorem dX4_opens_30 : decode cX4_opens 30 = .ok (.getfield 66, 3) := by decide +kernel
theorem dX4_opens_33 : decode cX4_opens 33 = .ok (.iload_n 1, 1) := by decide +kernel
theorem dX4_opens_34 : decode cX4_opens 34 = .ok (.iaload, 1) := by decide +kernel
theorem dX4_opens_35 : decode cX4_opens 35 = .ok (.iaload, 1) := by decide +kernel
theorem dX4_opens_36 : decode cX4_opens 36 = .ok (.i2l, 1) := by decide +kernel
theorem dX4_opens_37 : decode cX4_opens 37 = .ok (.ladd, 1) := by decide +kernel
theorem dX4_opens_38 : decode cX4_opens 38 = .ok (.putfield 41, 3) := by decide +kernel
theorem dX4_opens_41 : decode cX4_opens 41 = .ok (.aload_n 0, 1) := by decide +kernel
theorem dX4_opens_42 : decode cX4_opens 42 = .ok (.getfield 21, 3) := by decide +kernel
theorem dX4_opens_45 : decode cX4_opens 45 = .ok (.iload_n 2, 1) := by decide +kernel
theorem dX4_opens_46 : decode cX4_opens 46 = .ok (.invokevirtual 114, 3) := by decide +kernel
theorem dX4_opens_49 : decode cX4_opens 49 = .ok (.aload_n 0, 1) := by decide +kernel
theorem dX4_opens_50 : decode cX4_opens 50 = .ok (.getfield 10, 3) := by decide +kernel
theorem dX4_opens_53 : decode cX4_opens 53 = .ok (.getfield 118, 3) := by decide +kernel
theorem dX4_opens_56 : decode cX4_opens 56 = .ok (.iload_n 1, 1) := by decide +kernel
theorem dX4_opens_57 : decode cX4_opens 57 = .ok (.iaload, 1) := by decide +kernel
theorem dX4_opens_58 : decode cX4_opens 58 = .ok (.lushr, 1) := by decide +kernel
theorem dX4_opens_59 : decode cX4_opens 59 = .ok (.lconst 1, 1) := by decide +kernel
theorem dX4_opens_60 : decode cX4_opens 60 = .ok (.land, 1) := by decide +kernel
theorem dX4_opens_61 : decode cX4_opens 61 = .ok (.l2i, 1) := by decide +kernel
theorem dX4_opens_62 : decode cX4_opens 62 = .ok (.ireturn, 1) := by decide +kernel
theorem dX4_through_0 : decode cX4_through 0 = .ok (.aload_n 0, 1) := by decide +kernel
theorem dX4_through_1 : decode cX4_through 1 = .ok (.iload_n 1, 1) := by decide +kernel
theorem dX4_through_2 : decode cX4_through 2 = .ok (.invokevirtual 108, 3) := by decide +kernel
theorem dX4_through_5 : decode cX4_through 5 = .ok (.ifCond .eq 12, 3) := by decide +kernel
theorem dX4_through_8 : decode cX4_through 8 = .ok (.iload_n 2, 1) := by decide +kernel
theorem dX4_through_9 : decode cX4_through 9 = .ok (.iconst 0, 1) := by decide +kernel
theorem dX4_through_10 : decode cX4_through 10 = .ok (.iconst 1, 1) := by decide +kernel
theorem dX4_through_11 : decode cX4_through 11 = .ok (.invokestatic 53, 3) := by decide +kernel
theorem dX4_through_14 : decode cX4_through 14 = .ok (.ifCond .ne 5, 3) := by decide +kernel
theorem dX4_through_17 : decode cX4_through 17 = .ok (.iconst (-1), 1) := by decide +kernel
theorem dX4_through_18 : decode cX4_through 18 = .ok (.ireturn, 1) := by decide +kernel
theorem dX4_through_19 : decode cX4_through 19 = .ok (.aload_n 0, 1) := by decide +kernel
theorem dX4_through_20 : decode cX4_through 20 = .ok (.iload_n 1, 1) := by decide +kernel
theorem dX4_through_21 : decode cX4_through 21 = .ok (.invokevirtual 121, 3) := by decide +kernel
theorem dX4_through_24 : decode cX4_through 24 = .ok (.iload_n 2, 1) := by decide +kernel
theorem dX4_through_25 : decode cX4_through 25 = .ok (.invokevirtual 125, 3) := by decide +kernel
theorem dX4_through_28 : decode cX4_through 28 = .ok (.invokestatic 100, 3) := by decide +kernel
theorem dX4_through_31 : decode cX4_through 31 = .ok (.ireturn, 1) := by decide +kernel
theorem dX4_wall_0 : decode cX4_wall 0 = .ok (.aload_n 0, 1) := by decide +kernel
theorem dX4_wall_1 : decode cX4_wall 1 = .ok (.iload_n 1, 1) := by decide +kernel
theorem dX4_wall_2 : decode cX4_wall 2 = .ok (.invokevirtual 108, 3) := by decide +kernel
theorem dX4_wall_5 : decode cX4_wall 5 = .ok (.ifCond .eq 12, 3) := by decide +kernel
theorem dX4_wall_8 : decode cX4_wall 8 = .ok (.iload_n 2, 1) := by decide +kernel
theorem dX4_wall_9 : decode cX4_wall 9 = .ok (.iconst 0, 1) := by decide +kernel
theorem dX4_wall_10 : decode cX4_wall 10 = .ok (.iconst 1, 1) := by decide +kernel
theorem dX4_wall_11 : decode cX4_wall 11 = .ok (.invokestatic 53, 3) := by decide +kernel
theorem dX4_wall_14 : decode cX4_wall 14 = .ok (.ifCond .ne 5, 3) := by decide +kernel
theorem dX4_wall_17 : decode cX4_wall 17 = .ok (.iconst (-1), 1) := by decide +kernel
theorem dX4_wall_18 : decode cX4_wall 18 = .ok (.ireturn, 1) := by decide +kernel
theorem dX4_wall_19 : decode cX4_wall 19 = .ok (.aload_n 0, 1) := by decide +kernel
theorem dX4_wall_20 : decode cX4_wall 20 = .ok (.getfield 10, 3) := by decide +kernel
theorem dX4_wall_23 : decode cX4_wall 23 = .ok (.getfield 96, 3) := by decide +kernel
theorem dX4_wall_26 : decode cX4_wall 26 = .ok (.ifCond .eq 6, 3) := by decide +kernel
theorem dX4_wall_29 : decode cX4_wall 29 = .ok (.bipush (-2), 2) := by decide +kernel
theorem dX4_wall_31 : decode cX4_wall 31 = .ok (.ireturn, 1) := by decide +kernel
theorem dX4_wall_32 : decode cX4_wall 32 = .ok (.aload_n 0, 1) := by decide +kernel
theorem dX4_wall_33 : decode cX4_wall 33 = .ok (.iload_n 1, 1) := by decide +kernel
theorem dX4_wall_34 : decode cX4_wall 34 = .ok (.iload_n 2, 1) := by decide +kernel
theorem dX4_wall_35 : decode cX4_wall 35 = .ok (.invokevirtual 128, 3) := by decide +kernel
theorem dX4_wall_38 : decode cX4_wall 38 = .ok (.invokestatic 100, 3) := by decide +kernel
theorem dX4_wall_41 : decode cX4_wall 41 = .ok (.ireturn, 1) := by decide +kernel
theorem dX4_heap_0 : decode cX4_heap 0 = .ok (.aload_n 0, 1) := by decide +kernel
theorem dX4_heap_1 : decode cX4_heap 1 = .ok (.iload_n 1, 1) := by decide +kernel
theorem dX4_heap_2 : decode cX4_heap 2 = .ok (.invokevirtual 108, 3) := by decide +kernel
theorem dX4_heap_5 : decode cX4_heap 5 = .ok (.ifCond .eq 11, 3) := by decide +kernel
theorem dX4_heap_8 : decode cX4_heap 8 = .ok (.aload_n 0, 1) := by decide +kernel
theorem dX4_heap_9 : decode cX4_heap 9 = .ok (.iload_n 2, 1) := by decide +kernel
theorem dX4_heap_10 : decode cX4_heap 10 = .ok (.invokevirtual 132, 3) := by decide +kernel
theorem dX4_heap_13 : decode cX4_heap 13 = .ok (.ifCond .ne 5, 3) := by decide +kernel
theorem dX4_heap_16 : decode cX4_heap 16 = .ok (.iconst (-1), 1) := by decide +kernel
theorem dX4_heap_17 : decode cX4_heap 17 = .ok (.ireturn, 1) := by decide +kernel
theorem dX4_heap_18 : decode cX4_heap 18 = .ok (.aload_n 0, 1) := by decide +kernel
theorem dX4_heap_19 : decode cX4_heap 19 = .ok (.iload_n 1, 1) := by decide +kernel
theorem dX4_heap_20 : decode cX4_heap 20 = .ok (.invokevirtual 121, 3) := by decide +kernel
theorem dX4_heap_23 : decode cX4_heap 23 = .ok (.iload_n 2, 1) := by decide +kernel
theorem dX4_heap_24 : decode cX4_heap 24 = .ok (.invokevirtual 135, 3) := by decide +kernel
theorem dX4_heap_27 : decode cX4_heap 27 = .ok (.istore_n 3, 1) := by decide +kernel
theorem dX4_heap_28 : decode cX4_heap 28 = .ok (.iload_n 3, 1) := by decide +kernel
theorem dX4_heap_29 : decode cX4_heap 29 = .ok (.ifCond .ne 8, 3) := by decide +kernel
theorem dX4_heap_32 : decode cX4_heap 32 = .ok (.bipush (-9), 2) := by decide +kernel
theorem dX4_heap_34 : decode cX4_heap 34 = .ok (.goto 7, 3) := by decide +kernel
theorem dX4_heap_37 : decode cX4_heap 37 = .ok (.iload_n 3, 1) := by decide +kernel
theorem dX4_heap_38 : decode cX4_heap 38 = .ok (.invokestatic 138, 3) := by decide +kernel
theorem dX4_heap_41 : decode cX4_heap 41 = .ok (.ireturn, 1) := by decide +kernel
theorem dX4_heaps_0 : decode cX4_heaps 0 = .ok (.aload_n 0, 1) := by decide +kernel
theorem dX4_heaps_1 : decode cX4_heaps 1 = .ok (.iload_n 1, 1) := by decide +kernel
theorem dX4_heaps_2 : decode cX4_heaps 2 = .ok (.invokevirtual 108, 3) := by decide +kernel
theorem dX4_heaps_5 : decode cX4_heaps 5 = .ok (.ifCond .eq 12, 3) := by decide +kernel
theorem dX4_heaps_8 : decode cX4_heaps 8 = .ok (.iload_n 2, 1) := by decide +kernel
theorem dX4_heaps_9 : decode cX4_heaps 9 = .ok (.iconst 0, 1) := by decide +kernel
theorem dX4_heaps_10 : decode cX4_heaps 10 = .ok (.iconst 1, 1) := by decide +kernel
theorem dX4_heaps_11 : decode cX4_heaps 11 = .ok (.invokestatic 53, 3) := by decide +kernel
theorem dX4_heaps_14 : decode cX4_heaps 14 = .ok (.ifCond .ne 5, 3) := by decide +kernel
theorem dX4_heaps_17 : decode cX4_heaps 17 = .ok (.iconst (-1), 1) := by decide +kernel
theorem dX4_heaps_18 : decode cX4_heaps 18 = .ok (.ireturn, 1) := by decide +kernel
theorem dX4_heaps_19 : decode cX4_heaps 19 = .ok (.aload_n 0, 1) := by decide +kernel
theorem dX4_heaps_20 : decode cX4_heaps 20 = .ok (.iload_n 1, 1) := by decide +kernel
theorem dX4_heaps_21 : decode cX4_heaps 21 = .ok (.invokevirtual 121, 3) := by decide +kernel
theorem dX4_heaps_24 : decode cX4_heaps 24 = .ok (.astore_n 3, 1) := by decide +kernel
theorem dX4_heaps_25 : decode cX4_heaps 25 = .ok (.iload_n 2, 1) := by decide +kernel
theorem dX4_heaps_26 : decode cX4_heaps 26 = .ok (.ifCond .ne 10, 3) := by decide +kernel
theorem dX4_heaps_29 : decode cX4_heaps 29 = .ok (.aload_n 3, 1) := by decide +kernel
theorem dX4_heaps_30 : decode cX4_heaps 30 = .ok (.invokevirtual 143, 3) := by decide +kernel
theorem dX4_heaps_33 : decode cX4_heaps 33 = .ok (.goto 7, 3) := by decide +kernel
theorem dX4_heaps_36 : decode cX4_heaps 36 = .ok (.aload_n 3, 1) := by decide +kernel
theorem dX4_heaps_37 : decode cX4_heaps 37 = .ok (.invokevirtual 146, 3) := by decide +kernel
theorem dX4_heaps_40 : decode cX4_heaps 40 = .ok (.ireturn, 1) := by decide +kernel
theorem dX4_count_0 : decode cX4_count 0 = .ok (.iload_n 1, 1) := by decide +kernel
theorem dX4_count_1 : decode cX4_count 1 = .ok (.invokestatic 149, 3) := by decide +kernel
theorem dX4_count_4 : decode cX4_count 4 = .ok (.ifCond .eq 11, 3) := by decide +kernel
theorem dX4_count_7 : decode cX4_count 7 = .ok (.aload_n 0, 1) := by decide +kernel
theorem dX4_count_8 : decode cX4_count 8 = .ok (.iload_n 2, 1) := by decide +kernel
theorem dX4_count_9 : decode cX4_count 9 = .ok (.invokevirtual 152, 3) := by decide +kernel
theorem dX4_count_12 : decode cX4_count 12 = .ok (.ifCond .ne 5, 3) := by decide +kernel
theorem dX4_count_15 : decode cX4_count 15 = .ok (.iconst (-1), 1) := by decide +kernel
theorem dX4_count_16 : decode cX4_count 16 = .ok (.ireturn, 1) := by decide +kernel
theorem dX4_count_17 : decode cX4_count 17 = .ok (.aload_n 0, 1) := by decide +kernel
theorem dX4_count_18 : decode cX4_count 18 = .ok (.iload_n 1, 1) := by decide +kernel
theorem dX4_count_19 : decode cX4_count 19 = .ok (.iload_n 2, 1) := by decide +kernel
theorem dX4_count_20 : decode cX4_count 20 = .ok (.invokevirtual 155, 3) := by decide +kernel
theorem dX4_count_23 : decode cX4_count 23 = .ok (.ireturn, 1) := by decide +kernel
theorem dX4_walls_0 : decode cX4_walls 0 = .ok (.aload_n 0, 1) := by decide +kernel
theorem dX4_walls_1 : decode cX4_walls 1 = .ok (.getfield 10, 3) := by decide +kernel
theorem dX4_walls_4 : decode cX4_walls 4 = .ok (.getfield 96, 3) := by decide +kernel
theorem dX4_walls_7 : decode cX4_walls 7 = .ok (.ifCond .eq 6, 3) := by decide +kernel
theorem dX4_walls_10 : decode cX4_walls 10 = .ok (.bipush (-2), 2) := by decide +kernel
theorem dX4_walls_12 : decode cX4_walls 12 = .ok (.ireturn, 1) := by decide +kernel
theorem dX4_walls_13 : decode cX4_walls 13 = .ok (.iload_n 1, 1) := by decide +kernel
theorem dX4_walls_14 : decode cX4_walls 14 = .ok (.iconst 0, 1) := by decide +kernel
theorem dX4_walls_15 : decode cX4_walls 15 = .ok (.iconst 1, 1) := by decide +kernel
theorem dX4_walls_16 : decode cX4_walls 16 = .ok (.invokestatic 53, 3) := by decide +kernel
theorem dX4_walls_19 : decode cX4_walls 19 = .ok (.ifCond .eq 11, 3) := by decide +kernel
theorem dX4_walls_22 : decode cX4_walls 22 = .ok (.aload_n 0, 1) := by decide +kernel
theorem dX4_walls_23 : decode cX4_walls 23 = .ok (.iload_n 2, 1) := by decide +kernel
theorem dX4_walls_24 : decode cX4_walls 24 = .ok (.invokevirtual 152, 3) := by decide +kernel
theorem dX4_walls_27 : decode cX4_walls 27 = .ok (.ifCond .ne 5, 3) := by decide +kernel
theorem dX4_walls_30 : decode cX4_walls 30 = .ok (.iconst (-1), 1) := by decide +kernel
theorem dX4_walls_31 : decode cX4_walls 31 = .ok (.ireturn, 1) := by decide +kernel
theorem dX4_walls_32 : decode cX4_walls 32 = .ok (.iconst 0, 1) := by decide +kernel
theorem dX4_walls_33 : decode cX4_walls 33 = .ok (.istore_n 3, 1) := by decide +kernel
theorem dX4_walls_34 : decode cX4_walls 34 = .ok (.iconst 0, 1) := by decide +kernel
theorem dX4_walls_35 : decode cX4_walls 35 = .ok (.istore 4, 2) := by decide +kernel
theorem dX4_walls_37 : decode cX4_walls 37 = .ok (.iload 4, 2) := by decide +kernel
theorem dX4_walls_39 : decode cX4_walls 39 = .ok (.aload_n 0, 1) := by decide +kernel
theorem dX4_walls_40 : decode cX4_walls 40 = .ok (.invokevirtual 159, 3) := by decide +kernel
theorem dX4_walls_43 : decode cX4_walls 43 = .ok (.if_icmp .ge 31, 3) := by decide +kernel
theorem dX4_walls_46 : decode cX4_walls 46 = .ok (.iload 4, 2) := by decide +kernel
theorem dX4_walls_48 : decode cX4_walls 48 = .ok (.invokestatic 162, 3) := by decide +kernel
theorem dX4_walls_51 : decode cX4_walls 51 = .ok (.iload_n 2, 1) := by decide +kernel
theorem dX4_walls_52 : decode cX4_walls 52 = .ok (.if_icmp .ne 16, 3) := by decide +kernel
theorem dX4_walls_55 : decode cX4_walls 55 = .ok (.aload_n 0, 1) := by decide +kernel
theorem dX4_walls_56 : decode cX4_walls 56 = .ok (.iload 4, 2) := by decide +kernel
theorem dX4_walls_58 : decode cX4_walls 58 = .ok (.iload_n 1, 1) := by decide +kernel
theorem dX4_walls_59 : decode cX4_walls 59 = .ok (.invokevirtual 128, 3) := by decide +kernel
theorem dX4_walls_62 : decode cX4_walls 62 = .ok (.ifCond .eq 6, 3) := by decide +kernel
theorem dX4_walls_65 : decode cX4_walls 65 = .ok (.iinc 3 1, 3) := by decide +kernel
theorem dX4_walls_68 : decode cX4_walls 68 = .ok (.iinc 4 1, 3) := by decide +kernel
theorem dX4_walls_71 : decode cX4_walls 71 = .ok (.goto (-34), 3) := by decide +kernel
theorem dX4_walls_74 : decode cX4_walls 74 = .ok (.iload_n 3, 1) := by decide +kernel
theorem dX4_walls_75 : decode cX4_walls 75 = .ok (.ireturn, 1) := by decide +kernel
theorem dX4_joined_0 : decode cX4_joined 0 = .ok (.aload_n 0, 1) := by decide +kernel
theorem dX4_joined_1 : decode cX4_joined 1 = .ok (.iload_n 1, 1) := by decide +kernel
theorem dX4_joined_2 : decode cX4_joined 2 = .ok (.invokevirtual 132, 3) := by decide +kernel
theorem dX4_joined_5 : decode cX4_joined 5 = .ok (.ifCond .eq 19, 3) := by decide +kernel
theorem dX4_joined_8 : decode cX4_joined 8 = .ok (.aload_n 0, 1) := by decide +kernel
theorem dX4_joined_9 : decode cX4_joined 9 = .ok (.iload_n 2, 1) := by decide +kernel
theorem dX4_joined_10 : decode cX4_joined 10 = .ok (.invokevirtual 132, 3) := by decide +kernel
theorem dX4_joined_13 : decode cX4_joined 13 = .ok (.ifCond .eq 11, 3) := by decide +kernel
theorem dX4_joined_16 : decode cX4_joined 16 = .ok (.aload_n 0, 1) := by decide +kernel
theorem dX4_joined_17 : decode cX4_joined 17 = .ok (.iload_n 3, 1) := by decide +kernel
theorem dX4_joined_18 : decode cX4_joined 18 = .ok (.invokevirtual 152, 3) := by decide +kernel
theorem dX4_joined_21 : decode cX4_joined 21 = .ok (.ifCond .ne 5, 3) := by decide +kernel
theorem dX4_joined_24 : decode cX4_joined 24 = .ok (.iconst (-1), 1) := by decide +kernel
theorem dX4_joined_25 : decode cX4_joined 25 = .ok (.ireturn, 1) := by decide +kernel
theorem dX4_joined_26 : decode cX4_joined 26 = .ok (.iconst 0, 1) := by decide +kernel
theorem dX4_joined_27 : decode cX4_joined 27 = .ok (.istore 4, 2) := by decide +kernel
theorem dX4_joined_29 : decode cX4_joined 29 = .ok (.iconst 0, 1) := by decide +kernel
theorem dX4_joined_30 : decode cX4_joined 30 = .ok (.istore 5, 2) := by decide +kernel
theorem dX4_joined_32 : decode cX4_joined 32 = .ok (.iload 5, 2) := by decide +kernel
theorem dX4_joined_34 : decode cX4_joined 34 = .ok (.aload_n 0, 1) := by decide +kernel
theorem dX4_joined_35 : decode cX4_joined 35 = .ok (.invokevirtual 159, 3) := by decide +kernel
theorem dX4_joined_38 : decode cX4_joined 38 = .ok (.if_icmp .ge 38, 3) := by decide +kernel
theorem dX4_joined_41 : decode cX4_joined 41 = .ok (.iload 5, 2) := by decide +kernel
theorem dX4_joined_43 : decode cX4_joined 43 = .ok (.invokestatic 162, 3) := by decide +kernel
theorem dX4_joined_46 : decode cX4_joined 46 = .ok (.iload_n 3, 1) := by decide +kernel
theorem dX4_joined_47 : decode cX4_joined 47 = .ok (.if_icmp .ne 23, 3) := by decide +kernel
theorem dX4_joined_50 : decode cX4_joined 50 = .ok (.aload_n 0, 1) := by decide +kernel
theorem dX4_joined_51 : decode cX4_joined 51 = .ok (.iload 5, 2) := by decide +kernel
theorem dX4_joined_53 : decode cX4_joined 53 = .ok (.invokevirtual 121, 3) := by decide +kernel
theorem dX4_joined_56 : decode cX4_joined 56 = .ok (.iload_n 1, 1) := by decide +kernel
theorem dX4_joined_57 : decode cX4_joined 57 = .ok (.invokevirtual 135, 3) := by decide +kernel
theorem dX4_joined_60 : decode cX4_joined 60 = .ok (.iload_n 2, 1) := by decide +kernel
theorem dX4_joined_61 : decode cX4_joined 61 = .ok (.invokestatic 165, 3) := by decide +kernel
theorem dX4_joined_64 : decode cX4_joined 64 = .ok (.ifCond .eq 6, 3) := by decide +kernel
theorem dX4_joined_67 : decode cX4_joined 67 = .ok (.iinc 4 1, 3) := by decide +kernel
theorem dX4_joined_70 : decode cX4_joined 70 = .ok (.iinc 5 1, 3) := by decide +kernel
theorem dX4_joined_73 : decode cX4_joined 73 = .ok (.goto (-41), 3) := by decide +kernel
theorem dX4_joined_76 : decode cX4_joined 76 = .ok (.iload 4, 2) := by decide +kernel
theorem dX4_joined_78 : decode cX4_joined 78 = .ok (.ireturn, 1) := by decide +kernel
theorem dX4_sized_0 : decode cX4_sized 0 = .ok (.aload_n 0, 1) := by decide +kernel
theorem dX4_sized_1 : decode cX4_sized 1 = .ok (.iload_n 1, 1) := by decide +kernel
theorem dX4_sized_2 : decode cX4_sized 2 = .ok (.invokevirtual 132, 3) := by decide +kernel
theorem dX4_sized_5 : decode cX4_sized 5 = .ok (.ifCond .eq 21, 3) := by decide +kernel
theorem dX4_sized_8 : decode cX4_sized 8 = .ok (.iload_n 2, 1) := by decide +kernel
theorem dX4_sized_9 : decode cX4_sized 9 = .ok (.iconst 0, 1) := by decide +kernel
theorem dX4_sized_10 : decode cX4_sized 10 = .ok (.bipush 25, 2) := by decide +kernel
theorem dX4_sized_12 : decode cX4_sized 12 = .ok (.invokestatic 53, 3) := by decide +kernel
theorem dX4_sized_15 : decode cX4_sized 15 = .ok (.ifCond .eq 11, 3) := by decide +kernel
theorem dX4_sized_18 : decode cX4_sized 18 = .ok (.aload_n 0, 1) := by decide +kernel
theorem dX4_sized_19 : decode cX4_sized 19 = .ok (.iload_n 3, 1) := by decide +kernel
theorem dX4_sized_20 : decode cX4_sized 20 = .ok (.invokevirtual 152, 3) := by decide +kernel
theorem dX4_sized_23 : decode cX4_sized 23 = .ok (.ifCond .ne 5, 3) := by decide +kernel
theorem dX4_sized_26 : decode cX4_sized 26 = .ok (.iconst (-1), 1) := by decide +kernel
theorem dX4_sized_27 : decode cX4_sized 27 = .ok (.ireturn, 1) := by decide +kernel
theorem dX4_sized_28 : decode cX4_sized 28 = .ok (.iconst 0, 1) := by decide +kernel
theorem dX4_sized_29 : decode cX4_sized 29 = .ok (.istore 4, 2) := by decide +kernel
theorem dX4_sized_31 : decode cX4_sized 31 = .ok (.iconst 0, 1) := by decide +kernel
theorem dX4_sized_32 : decode cX4_sized 32 = .ok (.istore 5, 2) := by decide +kernel
theorem dX4_sized_34 : decode cX4_sized 34 = .ok (.iload 5, 2) := by decide +kernel
theorem dX4_sized_36 : decode cX4_sized 36 = .ok (.aload_n 0, 1) := by decide +kernel
theorem dX4_sized_37 : decode cX4_sized 37 = .ok (.invokevirtual 159, 3) := by decide +kernel
theorem dX4_sized_40 : decode cX4_sized 40 = .ok (.if_icmp .ge 38, 3) := by decide +kernel
theorem dX4_sized_43 : decode cX4_sized 43 = .ok (.iload 5, 2) := by decide +kernel
theorem dX4_sized_45 : decode cX4_sized 45 = .ok (.invokestatic 162, 3) := by decide +kernel
theorem dX4_sized_48 : decode cX4_sized 48 = .ok (.iload_n 3, 1) := by decide +kernel
theorem dX4_sized_49 : decode cX4_sized 49 = .ok (.if_icmp .ne 23, 3) := by decide +kernel
theorem dX4_sized_52 : decode cX4_sized 52 = .ok (.aload_n 0, 1) := by decide +kernel
theorem dX4_sized_53 : decode cX4_sized 53 = .ok (.iload 5, 2) := by decide +kernel
theorem dX4_sized_55 : decode cX4_sized 55 = .ok (.invokevirtual 121, 3) := by decide +kernel
theorem dX4_sized_58 : decode cX4_sized 58 = .ok (.iload_n 1, 1) := by decide +kernel
theorem dX4_sized_59 : decode cX4_sized 59 = .ok (.invokevirtual 135, 3) := by decide +kernel
theorem dX4_sized_62 : decode cX4_sized 62 = .ok (.invokestatic 162, 3) := by decide +kernel
theorem dX4_sized_65 : decode cX4_sized 65 = .ok (.iload_n 2, 1) := by decide +kernel
theorem dX4_sized_66 : decode cX4_sized 66 = .ok (.if_icmp .ne 6, 3) := by decide +kernel
theorem dX4_sized_69 : decode cX4_sized 69 = .ok (.iinc 4 1, 3) := by decide +kernel
theorem dX4_sized_72 : decode cX4_sized 72 = .ok (.iinc 5 1, 3) := by decide +kernel
theorem dX4_sized_75 : decode cX4_sized 75 = .ok (.goto (-41), 3) := by decide +kernel
theorem dX4_sized_78 : decode cX4_sized 78 = .ok (.iload 4, 2) := by decide +kernel
theorem dX4_sized_80 : decode cX4_sized 80 = .ok (.ireturn, 1) := by decide +kernel
theorem dX4_heapSum_0 : decode cX4_heapSum 0 = .ok (.aload_n 0, 1) := by decide +kernel
theorem dX4_heapSum_1 : decode cX4_heapSum 1 = .ok (.iload_n 1, 1) := by decide +kernel
theorem dX4_heapSum_2 : decode cX4_heapSum 2 = .ok (.invokevirtual 152, 3) := by decide +kernel
theorem dX4_heapSum_5 : decode cX4_heapSum 5 = .ok (.ifCond .ne 5, 3) := by decide +kernel
theorem dX4_heapSum_8 : decode cX4_heapSum 8 = .ok (.iconst (-1), 1) := by decide +kernel
theorem dX4_heapSum_9 : decode cX4_heapSum 9 = .ok (.ireturn, 1) := by decide +kernel
theorem dX4_heapSum_10 : decode cX4_heapSum 10 = .ok (.iconst 0, 1) := by decide +kernel
theorem dX4_heapSum_11 : decode cX4_heapSum 11 = .ok (.istore_n 2, 1) := by decide +kernel
theorem dX4_heapSum_12 : decode cX4_heapSum 12 = .ok (.iconst 0, 1) := by decide +kernel
theorem dX4_heapSum_13 : decode cX4_heapSum 13 = .ok (.istore_n 3, 1) := by decide +kernel
theorem dX4_heapSum_14 : decode cX4_heapSum 14 = .ok (.iload_n 3, 1) := by decide +kernel
theorem dX4_heapSum_15 : decode cX4_heapSum 15 = .ok (.aload_n 0, 1) := by decide +kernel
theorem dX4_heapSum_16 : decode cX4_heapSum 16 = .ok (.invokevirtual 159, 3) := by decide +kernel
theorem dX4_heapSum_19 : decode cX4_heapSum 19 = .ok (.if_icmp .ge 28, 3) := by decide +kernel
theorem dX4_heapSum_22 : decode cX4_heapSum 22 = .ok (.iload_n 3, 1) := by decide +kernel
theorem dX4_heapSum_23 : decode cX4_heapSum 23 = .ok (.invokestatic 162, 3) := by decide +kernel
theorem dX4_heapSum_26 : decode cX4_heapSum 26 = .ok (.iload_n 1, 1) := by decide +kernel
theorem dX4_heapSum_27 : decode cX4_heapSum 27 = .ok (.if_icmp .ne 14, 3) := by decide +kernel
theorem dX4_heapSum_30 : decode cX4_heapSum 30 = .ok (.iload_n 2, 1) := by decide +kernel
theorem dX4_heapSum_31 : decode cX4_heapSum 31 = .ok (.aload_n 0, 1) := by decide +kernel
theorem dX4_heapSum_32 : decode cX4_heapSum 32 = .ok (.iload_n 3, 1) := by decide +kernel
theorem dX4_heapSum_33 : decode cX4_heapSum 33 = .ok (.invokevirtual 121, 3) := by decide +kernel
theorem dX4_heapSum_36 : decode cX4_heapSum 36 = .ok (.invokevirtual 143, 3) := by decide +kernel
theorem dX4_heapSum_39 : decode cX4_heapSum 39 = .ok (.iadd, 1) := by decide +kernel
theorem dX4_heapSum_40 : decode cX4_heapSum 40 = .ok (.istore_n 2, 1) := by decide +kernel
theorem dX4_heapSum_41 : decode cX4_heapSum 41 = .ok (.iinc 3 1, 3) := by decide +kernel
theorem dX4_heapSum_44 : decode cX4_heapSum 44 = .ok (.goto (-30), 3) := by decide +kernel
theorem dX4_heapSum_47 : decode cX4_heapSum 47 = .ok (.iload_n 2, 1) := by decide +kernel
theorem dX4_heapSum_48 : decode cX4_heapSum 48 = .ok (.ireturn, 1) := by decide +kernel
theorem dX4_chance_0 : decode cX4_chance 0 = .ok (.iload_n 1, 1) := by decide +kernel
theorem dX4_chance_1 : decode cX4_chance 1 = .ok (.invokestatic 149, 3) := by decide +kernel
theorem dX4_chance_4 : decode cX4_chance 4 = .ok (.ifCond .eq 22, 3) := by decide +kernel
theorem dX4_chance_7 : decode cX4_chance 7 = .ok (.iload_n 3, 1) := by decide +kernel
theorem dX4_chance_8 : decode cX4_chance 8 = .ok (.iconst 1, 1) := by decide +kernel
theorem dX4_chance_9 : decode cX4_chance 9 = .ok (.bipush 9, 2) := by decide +kernel
theorem dX4_chance_11 : decode cX4_chance 11 = .ok (.invokestatic 53, 3) := by decide +kernel
theorem dX4_chance_14 : decode cX4_chance 14 = .ok (.ifCond .eq 12, 3) := by decide +kernel
theorem dX4_chance_17 : decode cX4_chance 17 = .ok (.iload_n 2, 1) := by decide +kernel
theorem dX4_chance_18 : decode cX4_chance 18 = .ok (.iconst 0, 1) := by decide +kernel
theorem dX4_chance_19 : decode cX4_chance 19 = .ok (.iload_n 3, 1) := by decide +kernel
theorem dX4_chance_20 : decode cX4_chance 20 = .ok (.invokestatic 53, 3) := by decide +kernel
theorem dX4_chance_23 : decode cX4_chance 23 = .ok (.ifCond .ne 7, 3) := by decide +kernel
theorem dX4_chance_26 : decode cX4_chance 26 = .ok (.ldc2_w 168, 3) := by decide +kernel
theorem dX4_chance_29 : decode cX4_chance 29 = .ok (.lreturn, 1) := by decide +kernel
theorem dX4_chance_30 : decode cX4_chance 30 = .ok (.lconst 0, 1) := by decide +kernel
theorem dX4_chance_31 : decode cX4_chance 31 = .ok (.lstore 4, 2) := by decide +kernel
theorem dX4_chance_33 : decode cX4_chance 33 = .ok (.iconst 0, 1) := by decide +kernel
theorem dX4_chance_34 : decode cX4_chance 34 = .ok (.istore 6, 2) := by decide +kernel
theorem dX4_chance_36 : decode cX4_chance 36 = .ok (.iload 6, 2) := by decide +kernel
theorem dX4_chance_38 : decode cX4_chance 38 = .ok (.aload_n 0, 1) := by decide +kernel
theorem dX4_chance_39 : decode cX4_chance 39 = .ok (.getfield 21, 3) := by decide +kernel
theorem dX4_chance_42 : decode cX4_chance 42 = .ok (.getfield 70, 3) := by decide +kernel
theorem dX4_chance_45 : decode cX4_chance 45 = .ok (.if_icmp .gt 46, 3) := by decide +kernel
theorem dX4_chance_48 : decode cX4_chance 48 = .ok (.lload 4, 2) := by decide +kernel
theorem dX4_chance_50 : decode cX4_chance 50 = .ok (.aload_n 0, 1) := by decide +kernel
theorem dX4_chance_51 : decode cX4_chance 51 = .ok (.iload_n 1, 1) := by decide +kernel
theorem dX4_chance_52 : decode cX4_chance 52 = .ok (.iload 6, 2) := by decide +kernel
theorem dX4_chance_54 : decode cX4_chance 54 = .ok (.invokevirtual 155, 3) := by decide +kernel
theorem dX4_chance_57 : decode cX4_chance 57 = .ok (.i2l, 1) := by decide +kernel
theorem dX4_chance_58 : decode cX4_chance 58 = .ok (.iload_n 2, 1) := by decide +kernel
theorem dX4_chance_59 : decode cX4_chance 59 = .ok (.iload 6, 2) := by decide +kernel
theorem dX4_chance_61 : decode cX4_chance 61 = .ok (.invokestatic 170, 3) := by decide +kernel
theorem dX4_chance_64 : decode cX4_chance 64 = .ok (.lmul, 1) := by decide +kernel
theorem dX4_chance_65 : decode cX4_chance 65 = .ok (.iload_n 3, 1) := by decide +kernel
theorem dX4_chance_66 : decode cX4_chance 66 = .ok (.iload_n 2, 1) := by decide +kernel
theorem dX4_chance_67 : decode cX4_chance 67 = .ok (.isub, 1) := by decide +kernel
theorem dX4_chance_68 : decode cX4_chance 68 = .ok (.aload_n 0, 1) := by decide +kernel
theorem dX4_chance_69 : decode cX4_chance 69 = .ok (.getfield 21, 3) := by decide +kernel
theorem dX4_chance_72 : decode cX4_chance 72 = .ok (.getfield 70, 3) := by decide +kernel
theorem dX4_chance_75 : decode cX4_chance 75 = .ok (.iload 6, 2) := by decide +kernel
theorem dX4_chance_77 : decode cX4_chance 77 = .ok (.isub, 1) := by decide +kernel
theorem dX4_chance_78 : decode cX4_chance 78 = .ok (.invokestatic 170, 3) := by decide +kernel
theorem dX4_chance_81 : decode cX4_chance 81 = .ok (.lmul, 1) := by decide +kernel
theorem dX4_chance_82 : decode cX4_chance 82 = .ok (.ladd, 1) := by decide +kernel
theorem dX4_chance_83 : decode cX4_chance 83 = .ok (.lstore 4, 2) := by decide +kernel
theorem dX4_chance_85 : decode cX4_chance 85 = .ok (.iinc 6 1, 3) := by decide +kernel
theorem dX4_chance_88 : decode cX4_chance 88 = .ok (.goto (-52), 3) := by decide +kernel
theorem dX4_chance_91 : decode cX4_chance 91 = .ok (.lload 4, 2) := by decide +kernel
theorem dX4_chance_93 : decode cX4_chance 93 = .ok (.lreturn, 1) := by decide +kernel
theorem dX4_pivot_0 : decode cX4_pivot 0 = .ok (.iload_n 1, 1) := by decide +kernel
theorem dX4_pivot_1 : decode cX4_pivot 1 = .ok (.invokestatic 149, 3) := by decide +kernel
theorem dX4_pivot_4 : decode cX4_pivot 4 = .ok (.ifCond .eq 20, 3) := by decide +kernel
theorem dX4_pivot_7 : decode cX4_pivot 7 = .ok (.iload_n 2, 1) := by decide +kernel
theorem dX4_pivot_8 : decode cX4_pivot 8 = .ok (.iconst 0, 1) := by decide +kernel
theorem dX4_pivot_9 : decode cX4_pivot 9 = .ok (.aload_n 0, 1) := by decide +kernel
theorem dX4_pivot_10 : decode cX4_pivot 10 = .ok (.getfield 21, 3) := by decide +kernel
theorem dX4_pivot_13 : decode cX4_pivot 13 = .ok (.getfield 70, 3) := by decide +kernel
theorem dX4_pivot_16 : decode cX4_pivot 16 = .ok (.iconst 1, 1) := by decide +kernel
theorem dX4_pivot_17 : decode cX4_pivot 17 = .ok (.isub, 1) := by decide +kernel
theorem dX4_pivot_18 : decode cX4_pivot 18 = .ok (.invokestatic 53, 3) := by decide +kernel
theorem dX4_pivot_21 : decode cX4_pivot 21 = .ok (.ifCond .ne 5, 3) := by decide +kernel
theorem dX4_pivot_24 : decode cX4_pivot 24 = .ok (.iconst (-1), 1) := by decide +kernel
theorem dX4_pivot_25 : decode cX4_pivot 25 = .ok (.ireturn, 1) := by decide +kernel
theorem dX4_pivot_26 : decode cX4_pivot 26 = .ok (.iconst 0, 1) := by decide +kernel
theorem dX4_pivot_27 : decode cX4_pivot 27 = .ok (.istore_n 3, 1) := by decide +kernel
theorem dX4_pivot_28 : decode cX4_pivot 28 = .ok (.iconst 0, 1) := by decide +kernel
theorem dX4_pivot_29 : decode cX4_pivot 29 = .ok (.istore 4, 2) := by decide +kernel
theorem dX4_pivot_31 : decode cX4_pivot 31 = .ok (.iload 4, 2) := by decide +kernel
theorem dX4_pivot_33 : decode cX4_pivot 33 = .ok (.aload_n 0, 1) := by decide +kernel
theorem dX4_pivot_34 : decode cX4_pivot 34 = .ok (.invokevirtual 159, 3) := by decide +kernel
theorem dX4_pivot_37 : decode cX4_pivot 37 = .ok (.if_icmp .ge 47, 3) := by decide +kernel
theorem dX4_pivot_40 : decode cX4_pivot 40 = .ok (.iload 4, 2) := by decide +kernel
theorem dX4_pivot_42 : decode cX4_pivot 42 = .ok (.iload_n 2, 1) := by decide +kernel
theorem dX4_pivot_43 : decode cX4_pivot 43 = .ok (.invokestatic 165, 3) := by decide +kernel
theorem dX4_pivot_46 : decode cX4_pivot 46 = .ok (.ifCond .eq 32, 3) := by decide +kernel
theorem dX4_pivot_49 : decode cX4_pivot 49 = .ok (.aload_n 0, 1) := by decide +kernel
theorem dX4_pivot_50 : decode cX4_pivot 50 = .ok (.iload 4, 2) := by decide +kernel
theorem dX4_pivot_52 : decode cX4_pivot 52 = .ok (.iload_n 1, 1) := by decide +kernel
theorem dX4_pivot_53 : decode cX4_pivot 53 = .ok (.invokevirtual 174, 3) := by decide +kernel
theorem dX4_pivot_56 : decode cX4_pivot 56 = .ok (.ifCond .eq 22, 3) := by decide +kernel
theorem dX4_pivot_59 : decode cX4_pivot 59 = .ok (.aload_n 0, 1) := by decide +kernel
theorem dX4_pivot_60 : decode cX4_pivot 60 = .ok (.iload 4, 2) := by decide +kernel
theorem dX4_pivot_62 : decode cX4_pivot 62 = .ok (.iconst 1, 1) := by decide +kernel
theorem dX4_pivot_63 : decode cX4_pivot 63 = .ok (.iload_n 2, 1) := by decide +kernel
theorem dX4_pivot_64 : decode cX4_pivot 64 = .ok (.ishl, 1) := by decide +kernel
theorem dX4_pivot_65 : decode cX4_pivot 65 = .ok (.iconst (-1), 1) := by decide +kernel
theorem dX4_pivot_66 : decode cX4_pivot 66 = .ok (.ixor, 1) := by decide +kernel
theorem dX4_pivot_67 : decode cX4_pivot 67 = .ok (.iand, 1) := by decide +kernel
theorem dX4_pivot_68 : decode cX4_pivot 68 = .ok (.iload_n 1, 1) := by decide +kernel
theorem dX4_pivot_69 : decode cX4_pivot 69 = .ok (.invokevirtual 174, 3) := by decide +kernel
theorem dX4_pivot_72 : decode cX4_pivot 72 = .ok (.ifCond .ne 6, 3) := by decide +kernel
theorem dX4_pivot_75 : decode cX4_pivot 75 = .ok (.iinc 3 1, 3) := by decide +kernel
theorem dX4_pivot_78 : decode cX4_pivot 78 = .ok (.iinc 4 1, 3) := by decide +kernel
theorem dX4_pivot_81 : decode cX4_pivot 81 = .ok (.goto (-50), 3) := by decide +kernel
theorem dX4_pivot_84 : decode cX4_pivot 84 = .ok (.iload_n 3, 1) := by decide +kernel
theorem dX4_pivot_85 : decode cX4_pivot 85 = .ok (.ireturn, 1) := by decide +kernel
theorem dX4_first_0 : decode cX4_first 0 = .ok (.iload_n 1, 1) := by decide +kernel
theorem dX4_first_1 : decode cX4_first 1 = .ok (.invokestatic 149, 3) := by decide +kernel
theorem dX4_first_4 : decode cX4_first 4 = .ok (.ifCond .eq 11, 3) := by decide +kernel
theorem dX4_first_7 : decode cX4_first 7 = .ok (.aload_n 0, 1) := by decide +kernel
theorem dX4_first_8 : decode cX4_first 8 = .ok (.iload_n 2, 1) := by decide +kernel
theorem dX4_first_9 : decode cX4_first 9 = .ok (.invokevirtual 152, 3) := by decide +kernel
theorem dX4_first_12 : decode cX4_first 12 = .ok (.ifCond .ne 5, 3) := by decide +kernel
theorem dX4_first_15 : decode cX4_first 15 = .ok (.iconst (-1), 1) := by decide +kernel
theorem dX4_first_16 : decode cX4_first 16 = .ok (.ireturn, 1) := by decide +kernel
theorem dX4_first_17 : decode cX4_first 17 = .ok (.iconst 0, 1) := by decide +kernel
theorem dX4_first_18 : decode cX4_first 18 = .ok (.istore_n 3, 1) := by decide +kernel
theorem dX4_first_19 : decode cX4_first 19 = .ok (.iload_n 3, 1) := by decide +kernel
theorem dX4_first_20 : decode cX4_first 20 = .ok (.aload_n 0, 1) := by decide +kernel
theorem dX4_first_21 : decode cX4_first 21 = .ok (.invokevirtual 159, 3) := by decide +kernel
theorem dX4_first_24 : decode cX4_first 24 = .ok (.if_icmp .ge 28, 3) := by decide +kernel
theorem dX4_first_27 : decode cX4_first 27 = .ok (.iload_n 3, 1) := by decide +kernel
theorem dX4_first_28 : decode cX4_first 28 = .ok (.invokestatic 162, 3) := by decide +kernel
theorem dX4_first_31 : decode cX4_first 31 = .ok (.iload_n 2, 1) := by decide +kernel
theorem dX4_first_32 : decode cX4_first 32 = .ok (.if_icmp .ne 14, 3) := by decide +kernel
theorem dX4_first_35 : decode cX4_first 35 = .ok (.aload_n 0, 1) := by decide +kernel
theorem dX4_first_36 : decode cX4_first 36 = .ok (.iload_n 3, 1) := by decide +kernel
theorem dX4_first_37 : decode cX4_first 37 = .ok (.iload_n 1, 1) := by decide +kernel
theorem dX4_first_38 : decode cX4_first 38 = .ok (.invokevirtual 174, 3) := by decide +kernel
theorem dX4_first_41 : decode cX4_first 41 = .ok (.ifCond .eq 5, 3) := by decide +kernel
theorem dX4_first_44 : decode cX4_first 44 = .ok (.iload_n 3, 1) := by decide +kernel
theorem dX4_first_45 : decode cX4_first 45 = .ok (.ireturn, 1) := by decide +kernel
theorem dX4_first_46 : decode cX4_first 46 = .ok (.iinc 3 1, 3) := by decide +kernel
theorem dX4_first_49 : decode cX4_first 49 = .ok (.goto (-30), 3) := by decide +kernel
theorem dX4_first_52 : decode cX4_first 52 = .ok (.bipush (-9), 2) := by decide +kernel
theorem dX4_first_54 : decode cX4_first 54 = .ok (.ireturn, 1) := by decide +kernel
theorem dX4_sheet_0 : decode cX4_sheet 0 = .ok (.aload_n 0, 1) := by decide +kernel
theorem dX4_sheet_1 : decode cX4_sheet 1 = .ok (.iload_n 1, 1) := by decide +kernel
theorem dX4_sheet_2 : decode cX4_sheet 2 = .ok (.iload_n 2, 1) := by decide +kernel
theorem dX4_sheet_3 : decode cX4_sheet 3 = .ok (.iload_n 3, 1) := by decide +kernel
theorem dX4_sheet_4 : decode cX4_sheet 4 = .ok (.invokestatic 177, 3) := by decide +kernel
theorem dX4_sheet_7 : decode cX4_sheet 7 = .ok (.putfield 45, 3) := by decide +kernel
theorem dX4_sheet_10 : decode cX4_sheet 10 = .ok (.aload_n 0, 1) := by decide +kernel
theorem dX4_sheet_11 : decode cX4_sheet 11 = .ok (.getfield 45, 3) := by decide +kernel
theorem dX4_sheet_14 : decode cX4_sheet 14 = .ok (.ifCond .eq 8, 3) := by decide +kernel
theorem dX4_sheet_17 : decode cX4_sheet 17 = .ok (.aload_n 0, 1) := by decide +kernel
theorem dX4_sheet_18 : decode cX4_sheet 18 = .ok (.getfield 45, 3) := by decide +kernel
theorem dX4_sheet_21 : decode cX4_sheet 21 = .ok (.ireturn, 1) := by decide +kernel
theorem dX4_sheet_22 : decode cX4_sheet 22 = .ok (.aload_n 0, 1) := by decide +kernel
theorem dX4_sheet_23 : decode cX4_sheet 23 = .ok (.getfield 37, 3) := by decide +kernel
theorem dX4_sheet_26 : decode cX4_sheet 26 = .ok (.iload_n 1, 1) := by decide +kernel
theorem dX4_sheet_27 : decode cX4_sheet 27 = .ok (.new 35, 3) := by decide +kernel
theorem dX4_sheet_30 : decode cX4_sheet 30 = .ok (.dup, 1) := by decide +kernel
theorem dX4_sheet_31 : decode cX4_sheet 31 = .ok (.iload_n 2, 1) := by decide +kernel
theorem dX4_sheet_32 : decode cX4_sheet 32 = .ok (.iload_n 3, 1) := by decide +kernel
theorem dX4_sheet_33 : decode cX4_sheet 33 = .ok (.anewarray 180, 3) := by decide +kernel
theorem dX4_sheet_36 : decode cX4_sheet 36 = .ok (.invokespecial 181, 3) := by decide +kernel
theorem dX4_sheet_39 : decode cX4_sheet 39 = .ok (.aastore, 1) := by decide +kernel
theorem dX4_sheet_40 : decode cX4_sheet 40 = .ok (.iconst 1, 1) := by decide +kernel
theorem dX4_sheet_41 : decode cX4_sheet 41 = .ok (.ireturn, 1) := by decide +kernel
theorem dX4_row_0 : decode cX4_row 0 = .ok (.aload_n 0, 1) := by decide +kernel
theorem dX4_row_1 : decode cX4_row 1 = .ok (.aload_n 0, 1) := by decide +kernel
theorem dX4_row_2 : decode cX4_row 2 = .ok (.iload_n 1, 1) := by decide +kernel
theorem dX4_row_3 : decode cX4_row 3 = .ok (.iload_n 2, 1) := by decide +kernel
theorem dX4_row_4 : decode cX4_row 4 = .ok (.iload_n 3, 1) := by decide +kernel
theorem dX4_row_5 : decode cX4_row 5 = .ok (.invokevirtual 184, 3) := by decide +kernel
theorem dX4_row_8 : decode cX4_row 8 = .ok (.putfield 45, 3) := by decide +kernel
theorem dX4_row_11 : decode cX4_row 11 = .ok (.aload_n 0, 1) := by decide +kernel
theorem dX4_row_12 : decode cX4_row 12 = .ok (.getfield 45, 3) := by decide +kernel
theorem dX4_row_15 : decode cX4_row 15 = .ok (.ifCond .eq 8, 3) := by decide +kernel
theorem dX4_row_18 : decode cX4_row 18 = .ok (.aload_n 0, 1) := by decide +kernel
theorem dX4_row_19 : decode cX4_row 19 = .ok (.getfield 45, 3) := by decide +kernel
theorem dX4_row_22 : decode cX4_row 22 = .ok (.ireturn, 1) := by decide +kernel
theorem dX4_row_23 : decode cX4_row 23 = .ok (.aload_n 0, 1) := by decide +kernel
theorem dX4_row_24 : decode cX4_row 24 = .ok (.getfield 37, 3) := by decide +kernel
theorem dX4_row_27 : decode cX4_row 27 = .ok (.iload_n 1, 1) := by decide +kernel
theorem dX4_row_28 : decode cX4_row 28 = .ok (.aaload, 1) := by decide +kernel
theorem dX4_row_29 : decode cX4_row 29 = .ok (.getfield 187, 3) := by decide +kernel
theorem dX4_row_32 : decode cX4_row 32 = .ok (.iload_n 2, 1) := by decide +kernel
theorem dX4_row_33 : decode cX4_row 33 = .ok (.iload_n 3, 1) := by decide +kernel
theorem dX4_row_34 : decode cX4_row 34 = .ok (.newarray .int, 2) := by decide +kernel
theorem dX4_row_36 : decode cX4_row 36 = .ok (.aastore, 1) := by decide +kernel
theorem dX4_row_37 : decode cX4_row 37 = .ok (.iconst 1, 1) := by decide +kernel
theorem dX4_row_38 : decode cX4_row 38 = .ok (.ireturn, 1) := by decide +kernel
theorem dX4_put_0 : decode cX4_put 0 = .ok (.aload_n 0, 1) := by decide +kernel
theorem dX4_put_1 : decode cX4_put 1 = .ok (.aload_n 0, 1) := by decide +kernel
theorem dX4_put_2 : decode cX4_put 2 = .ok (.iload_n 1, 1) := by decide +kernel
theorem dX4_put_3 : decode cX4_put 3 = .ok (.iload_n 2, 1) := by decide +kernel
theorem dX4_put_4 : decode cX4_put 4 = .ok (.iload_n 3, 1) := by decide +kernel
theorem dX4_put_5 : decode cX4_put 5 = .ok (.iload 4, 2) := by decide +kernel
theorem dX4_put_7 : decode cX4_put 7 = .ok (.invokevirtual 190, 3) := by decide +kernel
theorem dX4_put_10 : decode cX4_put 10 = .ok (.putfield 45, 3) := by decide +kernel
theorem dX4_put_13 : decode cX4_put 13 = .ok (.aload_n 0, 1) := by decide +kernel
theorem dX4_put_14 : decode cX4_put 14 = .ok (.getfield 45, 3) := by decide +kernel
theorem dX4_put_17 : decode cX4_put 17 = .ok (.ifCond .eq 8, 3) := by decide +kernel
theorem dX4_put_20 : decode cX4_put 20 = .ok (.aload_n 0, 1) := by decide +kernel
theorem dX4_put_21 : decode cX4_put 21 = .ok (.getfield 45, 3) := by decide +kernel
theorem dX4_put_24 : decode cX4_put 24 = .ok (.ireturn, 1) := by decide +kernel
theorem dX4_put_25 : decode cX4_put 25 = .ok (.aload_n 0, 1) := by decide +kernel
theorem dX4_put_26 : decode cX4_put 26 = .ok (.getfield 37, 3) := by decide +kernel
theorem dX4_put_29 : decode cX4_put 29 = .ok (.iload_n 1, 1) := by decide +kernel
theorem dX4_put_30 : decode cX4_put 30 = .ok (.aaload, 1) := by decide +kernel
theorem dX4_put_31 : decode cX4_put 31 = .ok (.getfield 187, 3) := by decide +kernel
theorem dX4_put_34 : decode cX4_put 34 = .ok (.iload_n 3, 1) := by decide +kernel
theorem dX4_put_35 : decode cX4_put 35 = .ok (.aaload, 1) := by decide +kernel
theorem dX4_put_36 : decode cX4_put 36 = .ok (.iload 4, 2) := by decide +kernel
theorem dX4_put_38 : decode cX4_put 38 = .ok (.iload_n 2, 1) := by decide +kernel
theorem dX4_put_39 : decode cX4_put 39 = .ok (.ifCond .ne 9, 3) := by decide +kernel
theorem dX4_put_42 : decode cX4_put 42 = .ok (.iload 5, 2) := by decide +kernel
theorem dX4_put_44 : decode cX4_put 44 = .ok (.i2b, 1) := by decide +kernel
theorem dX4_put_45 : decode cX4_put 45 = .ok (.goto 5, 3) := by decide +kernel
theorem dX4_put_48 : decode cX4_put 48 = .ok (.iload 5, 2) := by decide +kernel
theorem dX4_put_50 : decode cX4_put 50 = .ok (.iastore, 1) := by decide +kernel
theorem dX4_put_51 : decode cX4_put 51 = .ok (.iconst 1, 1) := by decide +kernel
theorem dX4_put_52 : decode cX4_put 52 = .ok (.ireturn, 1) := by decide +kernel
theorem dX4_copy_0 : decode cX4_copy 0 = .ok (.aload_n 0, 1) := by decide +kernel
theorem dX4_copy_1 : decode cX4_copy 1 = .ok (.aload_n 0, 1) := by decide +kernel
theorem dX4_copy_2 : decode cX4_copy 2 = .ok (.iload_n 1, 1) := by decide +kernel
theorem dX4_copy_3 : decode cX4_copy 3 = .ok (.iload_n 2, 1) := by decide +kernel
theorem dX4_copy_4 : decode cX4_copy 4 = .ok (.iload_n 3, 1) := by decide +kernel
theorem dX4_copy_5 : decode cX4_copy 5 = .ok (.iload 4, 2) := by decide +kernel
theorem dX4_copy_7 : decode cX4_copy 7 = .ok (.iload 5, 2) := by decide +kernel
theorem dX4_copy_9 : decode cX4_copy 9 = .ok (.iload 6, 2) := by decide +kernel
theorem dX4_copy_11 : decode cX4_copy 11 = .ok (.iload 7, 2) := by decide +kernel
theorem dX4_copy_13 : decode cX4_copy 13 = .ok (.invokevirtual 194, 3) := by decide +kernel
theorem dX4_copy_16 : decode cX4_copy 16 = .ok (.putfield 45, 3) := by decide +kernel
theorem dX4_copy_19 : decode cX4_copy 19 = .ok (.aload_n 0, 1) := by decide +kernel
theorem dX4_copy_20 : decode cX4_copy 20 = .ok (.getfield 45, 3) := by decide +kernel
theorem dX4_copy_23 : decode cX4_copy 23 = .ok (.ifCond .eq 8, 3) := by decide +kernel
theorem dX4_copy_26 : decode cX4_copy 26 = .ok (.aload_n 0, 1) := by decide +kernel
theorem dX4_copy_27 : decode cX4_copy 27 = .ok (.getfield 45, 3) := by decide +kernel
theorem dX4_copy_30 : decode cX4_copy 30 = .ok (.ireturn, 1) := by decide +kernel
theorem dX4_copy_31 : decode cX4_copy 31 = .ok (.aload_n 0, 1) := by decide +kernel
theorem dX4_copy_32 : decode cX4_copy 32 = .ok (.getfield 37, 3) := by decide +kernel
theorem dX4_copy_35 : decode cX4_copy 35 = .ok (.iload_n 1, 1) := by decide +kernel
theorem dX4_copy_36 : decode cX4_copy 36 = .ok (.aaload, 1) := by decide +kernel
theorem dX4_copy_37 : decode cX4_copy 37 = .ok (.getfield 187, 3) := by decide +kernel
theorem dX4_copy_40 : decode cX4_copy 40 = .ok (.iload_n 2, 1) := by decide +kernel
theorem dX4_copy_41 : decode cX4_copy 41 = .ok (.aaload, 1) := by decide +kernel
theorem dX4_copy_42 : decode cX4_copy 42 = .ok (.iload_n 3, 1) := by decide +kernel
theorem dX4_copy_43 : decode cX4_copy 43 = .ok (.aload_n 0, 1) := by decide +kernel
theorem dX4_copy_44 : decode cX4_copy 44 = .ok (.getfield 37, 3) := by decide +kernel
theorem dX4_copy_47 : decode cX4_copy 47 = .ok (.iload 4, 2) := by decide +kernel
theorem dX4_copy_49 : decode cX4_copy 49 = .ok (.aaload, 1) := by decide +kernel
theorem dX4_copy_50 : decode cX4_copy 50 = .ok (.getfield 187, 3) := by decide +kernel
theorem dX4_copy_53 : decode cX4_copy 53 = .ok (.iload 5, 2) := by decide +kernel
theorem dX4_copy_55 : decode cX4_copy 55 = .ok (.aaload, 1) := by decide +kernel
theorem dX4_copy_56 : decode cX4_copy 56 = .ok (.iload 6, 2) := by decide +kernel
theorem dX4_copy_58 : decode cX4_copy 58 = .ok (.iload 7, 2) := by decide +kernel
theorem dX4_copy_60 : decode cX4_copy 60 = .ok (.invokestatic 198, 3) := by decide +kernel
theorem dX4_copy_63 : decode cX4_copy 63 = .ok (.iload 7, 2) := by decide +kernel
theorem dX4_copy_65 : decode cX4_copy 65 = .ok (.ireturn, 1) := by decide +kernel
theorem dX4_read_0 : decode cX4_read 0 = .ok (.iload_n 1, 1) := by decide +kernel
theorem dX4_read_1 : decode cX4_read 1 = .ok (.invokestatic 204, 3) := by decide +kernel
theorem dX4_read_4 : decode cX4_read 4 = .ok (.ifCond .ne 10, 3) := by decide +kernel
theorem dX4_read_7 : decode cX4_read 7 = .ok (.aload_n 0, 1) := by decide +kernel
theorem dX4_read_8 : decode cX4_read 8 = .ok (.iconst (-1), 1) := by decide +kernel
theorem dX4_read_9 : decode cX4_read 9 = .ok (.putfield 45, 3) := by decide +kernel
theorem dX4_read_12 : decode cX4_read 12 = .ok (.iconst (-1), 1) := by decide +kernel
theorem dX4_read_13 : decode cX4_read 13 = .ok (.ireturn, 1) := by decide +kernel
theorem dX4_read_14 : decode cX4_read 14 = .ok (.aload_n 0, 1) := by decide +kernel
theorem dX4_read_15 : decode cX4_read 15 = .ok (.aload_n 0, 1) := by decide +kernel
theorem dX4_read_16 : decode cX4_read 16 = .ok (.getfield 37, 3) := by decide +kernel
theorem dX4_read_19 : decode cX4_read 19 = .ok (.iload_n 1, 1) := by decide +kernel
theorem dX4_read_20 : decode cX4_read 20 = .ok (.aaload, 1) := by decide +kernel
theorem dX4_read_21 : decode cX4_read 21 = .ok (.iload_n 2, 1) := by decide +kernel
theorem dX4_read_22 : decode cX4_read 22 = .ok (.invokestatic 207, 3) := by decide +kernel
theorem dX4_read_25 : decode cX4_read 25 = .ok (.putfield 45, 3) := by decide +kernel
theorem dX4_read_28 : decode cX4_read 28 = .ok (.aload_n 0, 1) := by decide +kernel
theorem dX4_read_29 : decode cX4_read 29 = .ok (.getfield 45, 3) := by decide +kernel
theorem dX4_read_32 : decode cX4_read 32 = .ok (.ifCond .eq 5, 3) := by decide +kernel
theorem dX4_read_35 : decode cX4_read 35 = .ok (.iconst 0, 1) := by decide +kernel
theorem dX4_read_36 : decode cX4_read 36 = .ok (.ireturn, 1) := by decide +kernel
theorem dX4_read_37 : decode cX4_read 37 = .ok (.aload_n 0, 1) := by decide +kernel
theorem dX4_read_38 : decode cX4_read 38 = .ok (.aload_n 0, 1) := by decide +kernel
theorem dX4_read_39 : decode cX4_read 39 = .ok (.getfield 37, 3) := by decide +kernel
theorem dX4_read_42 : decode cX4_read 42 = .ok (.iload_n 1, 1) := by decide +kernel
theorem dX4_read_43 : decode cX4_read 43 = .ok (.aaload, 1) := by decide +kernel
theorem dX4_read_44 : decode cX4_read 44 = .ok (.getfield 187, 3) := by decide +kernel
theorem dX4_read_47 : decode cX4_read 47 = .ok (.iload_n 2, 1) := by decide +kernel
theorem dX4_read_48 : decode cX4_read 48 = .ok (.aaload, 1) := by decide +kernel
theorem dX4_read_49 : decode cX4_read 49 = .ok (.invokevirtual 211, 3) := by decide +kernel
theorem dX4_read_52 : decode cX4_read 52 = .ok (.ireturn, 1) := by decide +kernel
theorem dX4_trace_0 : decode cX4_trace 0 = .ok (.aload_n 0, 1) := by decide +kernel
theorem dX4_trace_1 : decode cX4_trace 1 = .ok (.getfield 41, 3) := by decide +kernel
theorem dX4_trace_4 : decode cX4_trace 4 = .ok (.lreturn, 1) := by decide +kernel
theorem dX4_status_0 : decode cX4_status 0 = .ok (.aload_n 0, 1) := by decide +kernel
theorem dX4_status_1 : decode cX4_status 1 = .ok (.getfield 45, 3) := by decide +kernel
theorem dX4_status_4 : decode cX4_status 4 = .ok (.ireturn, 1) := by decide +kernel
theorem dX4_isWithin_0 : decode cX4_isWithin 0 = .ok (.iload_n 1, 1) := by decide +kernel
theorem dX4_isWithin_1 : decode cX4_isWithin 1 = .ok (.iload_n 0, 1) := by decide +kernel
theorem dX4_isWithin_2 : decode cX4_isWithin 2 = .ok (.if_icmp .gt 12, 3) := by decide +kernel
theorem dX4_isWithin_5 : decode cX4_isWithin 5 = .ok (.iload_n 0, 1) := by decide +kernel
theorem dX4_isWithin_6 : decode cX4_isWithin 6 = .ok (.iload_n 2, 1) := by decide +kernel
theorem dX4_isWithin_7 : decode cX4_isWithin 7 = .ok (.if_icmp .gt 7, 3) := by decide +kernel
theorem dX4_isWithin_10 : decode cX4_isWithin 10 = .ok (.iconst 1, 1) := by decide +kernel
theorem dX4_isWithin_11 : decode cX4_isWithin 11 = .ok (.goto 4, 3) := by decide +kernel
theorem dX4_isWithin_14 : decode cX4_isWithin 14 = .ok (.iconst 0, 1) := by decide +kernel
theorem dX4_isWithin_15 : decode cX4_isWithin 15 = .ok (.ireturn, 1) := by decide +kernel
theorem dX4_isThing_0 : decode cX4_isThing 0 = .ok (.iload_n 1, 1) := by decide +kernel
theorem dX4_isThing_1 : decode cX4_isThing 1 = .ok (.iconst 0, 1) := by decide +kernel
theorem dX4_isThing_2 : decode cX4_isThing 2 = .ok (.aload_n 0, 1) := by decide +kernel
theorem dX4_isThing_3 : decode cX4_isThing 3 = .ok (.getfield 10, 3) := by decide +kernel
theorem dX4_isThing_6 : decode cX4_isThing 6 = .ok (.getfield 57, 3) := by decide +kernel
theorem dX4_isThing_9 : decode cX4_isThing 9 = .ok (.iconst 1, 1) := by decide +kernel
theorem dX4_isThing_10 : decode cX4_isThing 10 = .ok (.isub, 1) := by decide +kernel
theorem dX4_isThing_11 : decode cX4_isThing 11 = .ok (.invokestatic 53, 3) := by decide +kernel
theorem dX4_isThing_14 : decode cX4_isThing 14 = .ok (.ireturn, 1) := by decide +kernel
theorem dX4_isPlace_0 : decode cX4_isPlace 0 = .ok (.iload_n 1, 1) := by decide +kernel
theorem dX4_isPlace_1 : decode cX4_isPlace 1 = .ok (.iconst 0, 1) := by decide +kernel
theorem dX4_isPlace_2 : decode cX4_isPlace 2 = .ok (.aload_n 0, 1) := by decide +kernel
theorem dX4_isPlace_3 : decode cX4_isPlace 3 = .ok (.getfield 10, 3) := by decide +kernel
theorem dX4_isPlace_6 : decode cX4_isPlace 6 = .ok (.getfield 90, 3) := by decide +kernel
theorem dX4_isPlace_9 : decode cX4_isPlace 9 = .ok (.aload_n 0, 1) := by decide +kernel
theorem dX4_isPlace_10 : decode cX4_isPlace 10 = .ok (.getfield 10, 3) := by decide +kernel
theorem dX4_isPlace_13 : decode cX4_isPlace 13 = .ok (.getfield 93, 3) := by decide +kernel
theorem dX4_isPlace_16 : decode cX4_isPlace 16 = .ok (.imul, 1) := by decide +kernel
theorem dX4_isPlace_17 : decode cX4_isPlace 17 = .ok (.iconst 1, 1) := by decide +kernel
theorem dX4_isPlace_18 : decode cX4_isPlace 18 = .ok (.isub, 1) := by decide +kernel
theorem dX4_isPlace_19 : decode cX4_isPlace 19 = .ok (.invokestatic 53, 3) := by decide +kernel
theorem dX4_isPlace_22 : decode cX4_isPlace 22 = .ok (.ireturn, 1) := by decide +kernel
theorem dX4_isSetting_0 : decode cX4_isSetting 0 = .ok (.iload_n 1, 1) := by decide +kernel
theorem dX4_isSetting_1 : decode cX4_isSetting 1 = .ok (.iconst 0, 1) := by decide +kernel
theorem dX4_isSetting_2 : decode cX4_isSetting 2 = .ok (.aload_n 0, 1) := by decide +kernel
theorem dX4_isSetting_3 : decode cX4_isSetting 3 = .ok (.invokevirtual 159, 3) := by decide +kernel
theorem dX4_isSetting_6 : decode cX4_isSetting 6 = .ok (.iconst 1, 1) := by decide +kernel
theorem dX4_isSetting_7 : decode cX4_isSetting 7 = .ok (.isub, 1) := by decide +kernel
theorem dX4_isSetting_8 : decode cX4_isSetting 8 = .ok (.invokestatic 53, 3) := by decide +kernel
theorem dX4_isSetting_11 : decode cX4_isSetting 11 = .ok (.ireturn, 1) := by decide +kernel
theorem dX4_isSize_0 : decode cX4_isSize 0 = .ok (.iload_n 1, 1) := by decide +kernel
theorem dX4_isSize_1 : decode cX4_isSize 1 = .ok (.iconst 0, 1) := by decide +kernel
theorem dX4_isSize_2 : decode cX4_isSize 2 = .ok (.aload_n 0, 1) := by decide +kernel
theorem dX4_isSize_3 : decode cX4_isSize 3 = .ok (.getfield 21, 3) := by decide +kernel
theorem dX4_isSize_6 : decode cX4_isSize 6 = .ok (.getfield 70, 3) := by decide +kernel
theorem dX4_isSize_9 : decode cX4_isSize 9 = .ok (.invokestatic 53, 3) := by decide +kernel
theorem dX4_isSize_12 : decode cX4_isSize 12 = .ok (.ireturn, 1) := by decide +kernel
theorem dX4_isWay_0 : decode cX4_isWay 0 = .ok (.iload_n 0, 1) := by decide +kernel
theorem dX4_isWay_1 : decode cX4_isWay 1 = .ok (.iconst 0, 1) := by decide +kernel
theorem dX4_isWay_2 : decode cX4_isWay 2 = .ok (.iconst 3, 1) := by decide +kernel
theorem dX4_isWay_3 : decode cX4_isWay 3 = .ok (.invokestatic 53, 3) := by decide +kernel
theorem dX4_isWay_6 : decode cX4_isWay 6 = .ok (.ireturn, 1) := by decide +kernel
theorem dX4_isSheet_0 : decode cX4_isSheet 0 = .ok (.iload_n 0, 1) := by decide +kernel
theorem dX4_isSheet_1 : decode cX4_isSheet 1 = .ok (.iconst 0, 1) := by decide +kernel
theorem dX4_isSheet_2 : decode cX4_isSheet 2 = .ok (.iconst 2, 1) := by decide +kernel
theorem dX4_isSheet_3 : decode cX4_isSheet 3 = .ok (.invokestatic 53, 3) := by decide +kernel
theorem dX4_isSheet_6 : decode cX4_isSheet 6 = .ok (.ireturn, 1) := by decide +kernel
theorem dX4_isSort_0 : decode cX4_isSort 0 = .ok (.iload_n 0, 1) := by decide +kernel
theorem dX4_isSort_1 : decode cX4_isSort 1 = .ok (.ifCond .eq 8, 3) := by decide +kernel
theorem dX4_isSort_4 : decode cX4_isSort 4 = .ok (.iload_n 0, 1) := by decide +kernel
theorem dX4_isSort_5 : decode cX4_isSort 5 = .ok (.iconst 1, 1) := by decide +kernel
theorem dX4_isSort_6 : decode cX4_isSort 6 = .ok (.if_icmp .ne 7, 3) := by decide +kernel
theorem dX4_isSort_9 : decode cX4_isSort 9 = .ok (.iconst 1, 1) := by decide +kernel
theorem dX4_isSort_10 : decode cX4_isSort 10 = .ok (.goto 4, 3) := by decide +kernel
theorem dX4_isSort_13 : decode cX4_isSort 13 = .ok (.iconst 0, 1) := by decide +kernel
theorem dX4_isSort_14 : decode cX4_isSort 14 = .ok (.ireturn, 1) := by decide +kernel
theorem dX4_oneIf_0 : decode cX4_oneIf 0 = .ok (.iload_n 0, 1) := by decide +kernel
theorem dX4_oneIf_1 : decode cX4_oneIf 1 = .ok (.ifCond .eq 7, 3) := by decide +kernel
theorem dX4_oneIf_4 : decode cX4_oneIf 4 = .ok (.iconst 1, 1) := by decide +kernel
theorem dX4_oneIf_5 : decode cX4_oneIf 5 = .ok (.goto 4, 3) := by decide +kernel
theorem dX4_oneIf_8 : decode cX4_oneIf 8 = .ok (.iconst 0, 1) := by decide +kernel
theorem dX4_oneIf_9 : decode cX4_oneIf 9 = .ok (.ireturn, 1) := by decide +kernel
theorem dX4_has_0 : decode cX4_has 0 = .ok (.iload_n 0, 1) := by decide +kernel
theorem dX4_has_1 : decode cX4_has 1 = .ok (.iload_n 1, 1) := by decide +kernel
theorem dX4_has_2 : decode cX4_has 2 = .ok (.iushr, 1) := by decide +kernel
theorem dX4_has_3 : decode cX4_has 3 = .ok (.iconst 1, 1) := by decide +kernel
theorem dX4_has_4 : decode cX4_has 4 = .ok (.iand, 1) := by decide +kernel
theorem dX4_has_5 : decode cX4_has 5 = .ok (.iconst 1, 1) := by decide +kernel
theorem dX4_has_6 : decode cX4_has 6 = .ok (.if_icmp .ne 7, 3) := by decide +kernel
theorem dX4_has_9 : decode cX4_has 9 = .ok (.iconst 1, 1) := by decide +kernel
theorem dX4_has_10 : decode cX4_has 10 = .ok (.goto 4, 3) := by decide +kernel
theorem dX4_has_13 : decode cX4_has 13 = .ok (.iconst 0, 1) := by decide +kernel
theorem dX4_has_14 : decode cX4_has 14 = .ok (.ireturn, 1) := by decide +kernel
theorem dX4_layGround_0 : decode cX4_layGround 0 = .ok (.aload_n 0, 1) := by decide +kernel
theorem dX4_layGround_1 : decode cX4_layGround 1 = .ok (.getfield 10, 3) := by decide +kernel
theorem dX4_layGround_4 : decode cX4_layGround 4 = .ok (.iload_n 1, 1) := by decide +kernel
theorem dX4_layGround_5 : decode cX4_layGround 5 = .ok (.iload_n 2, 1) := by decide +kernel
theorem dX4_layGround_6 : decode cX4_layGround 6 = .ok (.iload_n 3, 1) := by decide +kernel
theorem dX4_layGround_7 : decode cX4_layGround 7 = .ok (.invokevirtual 215, 3) := by decide +kernel
theorem dX4_layGround_10 : decode cX4_layGround 10 = .ok (.aload_n 0, 1) := by decide +kernel
theorem dX4_layGround_11 : decode cX4_layGround 11 = .ok (.getfield 21, 3) := by decide +kernel
theorem dX4_layGround_14 : decode cX4_layGround 14 = .ok (.invokevirtual 218, 3) := by decide +kernel
theorem dX4_layGround_17 : decode cX4_layGround 17 = .ok (.aload_n 0, 1) := by decide +kernel
theorem dX4_layGround_18 : decode cX4_layGround 18 = .ok (.getfield 28, 3) := by decide +kernel
theorem dX4_layGround_21 : decode cX4_layGround 21 = .ok (.iload_n 1, 1) := by decide +kernel
theorem dX4_layGround_22 : decode cX4_layGround 22 = .ok (.putfield 221, 3) := by decide +kernel
theorem dX4_layGround_25 : decode cX4_layGround 25 = .ok (.aload_n 0, 1) := by decide +kernel
theorem dX4_layGround_26 : decode cX4_layGround 26 = .ok (.getfield 28, 3) := by decide +kernel
theorem dX4_layGround_29 : decode cX4_layGround 29 = .ok (.iload_n 2, 1) := by decide +kernel
theorem dX4_layGround_30 : decode cX4_layGround 30 = .ok (.putfield 222, 3) := by decide +kernel
theorem dX4_layGround_33 : decode cX4_layGround 33 = .ok (.return_, 1) := by decide +kernel
theorem dX4_settings_0 : decode cX4_settings 0 = .ok (.iconst 1, 1) := by decide +kernel
theorem dX4_settings_1 : decode cX4_settings 1 = .ok (.aload_n 0, 1) := by decide +kernel
theorem dX4_settings_2 : decode cX4_settings 2 = .ok (.getfield 21, 3) := by decide +kernel
theorem dX4_settings_5 : decode cX4_settings 5 = .ok (.getfield 70, 3) := by decide +kernel
theorem dX4_settings_8 : decode cX4_settings 8 = .ok (.ishl, 1) := by decide +kernel
theorem dX4_settings_9 : decode cX4_settings 9 = .ok (.ireturn, 1) := by decide +kernel
theorem dX4_placesBy_0 : decode cX4_placesBy 0 = .ok (.aload_n 0, 1) := by decide +kernel
theorem dX4_placesBy_1 : decode cX4_placesBy 1 = .ok (.getfield 21, 3) := by decide +kernel
theorem dX4_placesBy_4 : decode cX4_placesBy 4 = .ok (.iload_n 1, 1) := by decide +kernel
theorem dX4_placesBy_5 : decode cX4_placesBy 5 = .ok (.invokevirtual 114, 3) := by decide +kernel
theorem dX4_placesBy_8 : decode cX4_placesBy 8 = .ok (.lstore_n 2, 1) := by decide +kernel
theorem dX4_placesBy_9 : decode cX4_placesBy 9 = .ok (.aload_n 0, 1) := by decide +kernel
theorem dX4_placesBy_10 : decode cX4_placesBy 10 = .ok (.getfield 10, 3) := by decide +kernel
theorem dX4_placesBy_13 : decode cX4_placesBy 13 = .ok (.getfield 96, 3) := by decide +kernel
theorem dX4_placesBy_16 : decode cX4_placesBy 16 = .ok (.ifCond .eq 69, 3) := by decide +kernel
theorem dX4_placesBy_19 : decode cX4_placesBy 19 = .ok (.lload_n 2, 1) := by decide +kernel
theorem dX4_placesBy_20 : decode cX4_placesBy 20 = .ok (.l2i, 1) := by decide +kernel
theorem dX4_placesBy_21 : decode cX4_placesBy 21 = .ok (.istore 4, 2) := by decide +kernel
theorem dX4_placesBy_23 : decode cX4_placesBy 23 = .ok (.aload_n 0, 1) := by decide +kernel
theorem dX4_placesBy_24 : decode cX4_placesBy 24 = .ok (.getfield 28, 3) := by decide +kernel
theorem dX4_placesBy_27 : decode cX4_placesBy 27 = .ok (.iload 4, 2) := by decide +kernel
theorem dX4_placesBy_29 : decode cX4_placesBy 29 = .ok (.putfield 223, 3) := by decide +kernel
theorem dX4_placesBy_32 : decode cX4_placesBy 32 = .ok (.aload_n 0, 1) := by decide +kernel
theorem dX4_placesBy_33 : decode cX4_placesBy 33 = .ok (.getfield 28, 3) := by decide +kernel
theorem dX4_placesBy_36 : decode cX4_placesBy 36 = .ok (.aload_n 0, 1) := by decide +kernel
theorem dX4_placesBy_37 : decode cX4_placesBy 37 = .ok (.getfield 10, 3) := by decide +kernel
theorem dX4_placesBy_40 : decode cX4_placesBy 40 = .ok (.getfield 226, 3) := by decide +kernel
theorem dX4_placesBy_43 : decode cX4_placesBy 43 = .ok (.iload 4, 2) := by decide +kernel
theorem dX4_placesBy_45 : decode cX4_placesBy 45 = .ok (.iand, 1) := by decide +kernel
theorem dX4_placesBy_46 : decode cX4_placesBy 46 = .ok (.iload 4, 2) := by decide +kernel
theorem dX4_placesBy_48 : decode cX4_placesBy 48 = .ok (.iconst 1, 1) := by decide +kernel
theorem dX4_placesBy_49 : decode cX4_placesBy 49 = .ok (.iushr, 1) := by decide +kernel
theorem dX4_placesBy_50 : decode cX4_placesBy 50 = .ok (.iand, 1) := by decide +kernel
theorem dX4_placesBy_51 : decode cX4_placesBy 51 = .ok (.putfield 229, 3) := by decide +kernel
theorem dX4_placesBy_54 : decode cX4_placesBy 54 = .ok (.aload_n 0, 1) := by decide +kernel
theorem dX4_placesBy_55 : decode cX4_placesBy 55 = .ok (.getfield 28, 3) := by decide +kernel
theorem dX4_placesBy_58 : decode cX4_placesBy 58 = .ok (.aload_n 0, 1) := by decide +kernel
theorem dX4_placesBy_59 : decode cX4_placesBy 59 = .ok (.getfield 10, 3) := by decide +kernel
theorem dX4_placesBy_62 : decode cX4_placesBy 62 = .ok (.getfield 232, 3) := by decide +kernel
theorem dX4_placesBy_65 : decode cX4_placesBy 65 = .ok (.iload 4, 2) := by decide +kernel
theorem dX4_placesBy_67 : decode cX4_placesBy 67 = .ok (.iand, 1) := by decide +kernel
theorem dX4_placesBy_68 : decode cX4_placesBy 68 = .ok (.iload 4, 2) := by decide +kernel
theorem dX4_placesBy_70 : decode cX4_placesBy 70 = .ok (.aload_n 0, 1) := by decide +kernel
theorem dX4_placesBy_71 : decode cX4_placesBy 71 = .ok (.getfield 10, 3) := by decide +kernel
theorem dX4_placesBy_74 : decode cX4_placesBy 74 = .ok (.getfield 93, 3) := by decide +kernel
theorem dX4_placesBy_77 : decode cX4_placesBy 77 = .ok (.iushr, 1) := by decide +kernel
theorem dX4_placesBy_78 : decode cX4_placesBy 78 = .ok (.iand, 1) := by decide +kernel
theorem dX4_placesBy_79 : decode cX4_placesBy 79 = .ok (.putfield 235, 3) := by decide +kernel
theorem dX4_placesBy_82 : decode cX4_placesBy 82 = .ok (.goto 38, 3) := by decide +kernel
theorem dX4_placesBy_85 : decode cX4_placesBy 85 = .ok (.aload_n 0, 1) := by decide +kernel
theorem dX4_placesBy_86 : decode cX4_placesBy 86 = .ok (.getfield 28, 3) := by decide +kernel
theorem dX4_placesBy_89 : decode cX4_placesBy 89 = .ok (.aload_n 0, 1) := by decide +kernel
theorem dX4_placesBy_90 : decode cX4_placesBy 90 = .ok (.getfield 10, 3) := by decide +kernel
theorem dX4_placesBy_93 : decode cX4_placesBy 93 = .ok (.getfield 238, 3) := by decide +kernel
theorem dX4_placesBy_96 : decode cX4_placesBy 96 = .ok (.putfield 223, 3) := by decide +kernel
theorem dX4_placesBy_99 : decode cX4_placesBy 99 = .ok (.aload_n 0, 1) := by decide +kernel
theorem dX4_placesBy_100 : decode cX4_placesBy 100 = .ok (.getfield 28, 3) := by decide +kernel
theorem dX4_placesBy_103 : decode cX4_placesBy 103 = .ok (.lload_n 2, 1) := by decide +kernel
theorem dX4_placesBy_104 : decode cX4_placesBy 104 = .ok (.l2i, 1) := by decide +kernel
theorem dX4_placesBy_105 : decode cX4_placesBy 105 = .ok (.putfield 229, 3) := by decide +kernel
theorem dX4_placesBy_108 : decode cX4_placesBy 108 = .ok (.aload_n 0, 1) := by decide +kernel
theorem dX4_placesBy_109 : decode cX4_placesBy 109 = .ok (.getfield 28, 3) := by decide +kernel
theorem dX4_placesBy_112 : decode cX4_placesBy 112 = .ok (.lload_n 2, 1) := by decide +kernel
theorem dX4_placesBy_113 : decode cX4_placesBy 113 = .ok (.bipush 32, 2) := by decide +kernel
theorem dX4_placesBy_115 : decode cX4_placesBy 115 = .ok (.lushr, 1) := by decide +kernel
theorem dX4_placesBy_116 : decode cX4_placesBy 116 = .ok (.l2i, 1) := by decide +kernel
theorem dX4_placesBy_117 : decode cX4_placesBy 117 = .ok (.putfield 235, 3) := by decide +kernel
theorem dX4_placesBy_120 : decode cX4_placesBy 120 = .ok (.aload_n 0, 1) := by decide +kernel
theorem dX4_placesBy_121 : decode cX4_placesBy 121 = .ok (.getfield 28, 3) := by decide +kernel
theorem dX4_placesBy_124 : decode cX4_placesBy 124 = .ok (.areturn, 1) := by decide +kernel
theorem dX4_isWalled_0 : decode cX4_isWalled 0 = .ok (.aload_n 0, 1) := by decide +kernel
theorem dX4_isWalled_1 : decode cX4_isWalled 1 = .ok (.getfield 21, 3) := by decide +kernel
theorem dX4_isWalled_4 : decode cX4_isWalled 4 = .ok (.iload_n 1, 1) := by decide +kernel
theorem dX4_isWalled_5 : decode cX4_isWalled 5 = .ok (.invokevirtual 114, 3) := by decide +kernel
theorem dX4_isWalled_8 : decode cX4_isWalled 8 = .ok (.lstore_n 3, 1) := by decide +kernel
theorem dX4_isWalled_9 : decode cX4_isWalled 9 = .ok (.aload_n 0, 1) := by decide +kernel
theorem dX4_isWalled_10 : decode cX4_isWalled 10 = .ok (.getfield 10, 3) := by decide +kernel
theorem dX4_isWalled_13 : decode cX4_isWalled 13 = .ok (.getfield 226, 3) := by decide +kernel
theorem dX4_isWalled_16 : decode cX4_isWalled 16 = .ok (.lload_n 3, 1) := by decide +kernel
theorem dX4_isWalled_17 : decode cX4_isWalled 17 = .ok (.l2i, 1) := by decide +kernel
theorem dX4_isWalled_18 : decode cX4_isWalled 18 = .ok (.iconst (-1), 1) := by decide +kernel
theorem dX4_isWalled_19 : decode cX4_isWalled 19 = .ok (.ixor, 1) := by decide +kernel
theorem dX4_isWalled_20 : decode cX4_isWalled 20 = .ok (.iand, 1) := by decide +kernel
theorem dX4_isWalled_21 : decode cX4_isWalled 21 = .ok (.istore 5, 2) := by decide +kernel
theorem dX4_isWalled_23 : decode cX4_isWalled 23 = .ok (.aload_n 0, 1) := by decide +kernel
theorem dX4_isWalled_24 : decode cX4_isWalled 24 = .ok (.getfield 10, 3) := by decide +kernel
theorem dX4_isWalled_27 : decode cX4_isWalled 27 = .ok (.getfield 232, 3) := by decide +kernel
theorem dX4_isWalled_30 : decode cX4_isWalled 30 = .ok (.lload_n 3, 1) := by decide +kernel
theorem dX4_isWalled_31 : decode cX4_isWalled 31 = .ok (.bipush 32, 2) := by decide +kernel
theorem dX4_isWalled_33 : decode cX4_isWalled 33 = .ok (.lushr, 1) := by decide +kernel
theorem dX4_isWalled_34 : decode cX4_isWalled 34 = .ok (.l2i, 1) := by decide +kernel
theorem dX4_isWalled_35 : decode cX4_isWalled 35 = .ok (.iconst (-1), 1) := by decide +kernel
theorem dX4_isWalled_36 : decode cX4_isWalled 36 = .ok (.ixor, 1) := by decide +kernel
theorem dX4_isWalled_37 : decode cX4_isWalled 37 = .ok (.iand, 1) := by decide +kernel
theorem dX4_isWalled_38 : decode cX4_isWalled 38 = .ok (.istore 6, 2) := by decide +kernel
theorem dX4_isWalled_40 : decode cX4_isWalled 40 = .ok (.iload_n 2, 1) := by decide +kernel
theorem dX4_isWalled_41 : decode cX4_isWalled 41 = .ok (.ifCond .ne 31, 3) := by decide +kernel
theorem dX4_isWalled_44 : decode cX4_isWalled 44 = .ok (.aload_n 0, 1) := by decide +kernel
theorem dX4_isWalled_45 : decode cX4_isWalled 45 = .ok (.getfield 32, 3) := by decide +kernel
theorem dX4_isWalled_48 : decode cX4_isWalled 48 = .ok (.aload_n 0, 1) := by decide +kernel
theorem dX4_isWalled_49 : decode cX4_isWalled 49 = .ok (.getfield 10, 3) := by decide +kernel
theorem dX4_isWalled_52 : decode cX4_isWalled 52 = .ok (.getfield 90, 3) := by decide +kernel
theorem dX4_isWalled_55 : decode cX4_isWalled 55 = .ok (.aload_n 0, 1) := by decide +kernel
theorem dX4_isWalled_56 : decode cX4_isWalled 56 = .ok (.getfield 10, 3) := by decide +kernel
theorem dX4_isWalled_59 : decode cX4_isWalled 59 = .ok (.getfield 93, 3) := by decide +kernel
theorem dX4_isWalled_62 : decode cX4_isWalled 62 = .ok (.iload 5, 2) := by decide +kernel
theorem dX4_isWalled_64 : decode cX4_isWalled 64 = .ok (.iload 6, 2) := by decide +kernel
theorem dX4_isWalled_66 : decode cX4_isWalled 66 = .ok (.invokevirtual 241, 3) := by decide +kernel
theorem dX4_isWalled_69 : decode cX4_isWalled 69 = .ok (.goto 42, 3) := by decide +kernel
theorem dX4_isWalled_72 : decode cX4_isWalled 72 = .ok (.aload_n 0, 1) := by decide +kernel
theorem dX4_isWalled_73 : decode cX4_isWalled 73 = .ok (.getfield 32, 3) := by decide +kernel
theorem dX4_isWalled_76 : decode cX4_isWalled 76 = .ok (.aload_n 0, 1) := by decide +kernel
theorem dX4_isWalled_77 : decode cX4_isWalled 77 = .ok (.getfield 10, 3) := by decide +kernel
theorem dX4_isWalled_80 : decode cX4_isWalled 80 = .ok (.getfield 93, 3) := by decide +kernel
theorem dX4_isWalled_83 : decode cX4_isWalled 83 = .ok (.aload_n 0, 1) := by decide +kernel
theorem dX4_isWalled_84 : decode cX4_isWalled 84 = .ok (.getfield 10, 3) := by decide +kernel
theorem dX4_isWalled_87 : decode cX4_isWalled 87 = .ok (.getfield 90, 3) := by decide +kernel
theorem dX4_isWalled_90 : decode cX4_isWalled 90 = .ok (.aload_n 0, 1) := by decide +kernel
theorem dX4_isWalled_91 : decode cX4_isWalled 91 = .ok (.getfield 10, 3) := by decide +kernel
theorem dX4_isWalled_94 : decode cX4_isWalled 94 = .ok (.iload 6, 2) := by decide +kernel
theorem dX4_isWalled_96 : decode cX4_isWalled 96 = .ok (.invokevirtual 245, 3) := by decide +kernel
theorem dX4_isWalled_99 : decode cX4_isWalled 99 = .ok (.aload_n 0, 1) := by decide +kernel
theorem dX4_isWalled_100 : decode cX4_isWalled 100 = .ok (.getfield 10, 3) := by decide +kernel
theorem dX4_isWalled_103 : decode cX4_isWalled 103 = .ok (.iload 5, 2) := by decide +kernel
theorem dX4_isWalled_105 : decode cX4_isWalled 105 = .ok (.invokevirtual 245, 3) := by decide +kernel
theorem dX4_isWalled_108 : decode cX4_isWalled 108 = .ok (.invokevirtual 241, 3) := by decide +kernel
theorem dX4_isWalled_111 : decode cX4_isWalled 111 = .ok (.aload_n 0, 1) := by decide +kernel
theorem dX4_isWalled_112 : decode cX4_isWalled 112 = .ok (.getfield 32, 3) := by decide +kernel
theorem dX4_isWalled_115 : decode cX4_isWalled 115 = .ok (.iconst 1, 1) := by decide +kernel
theorem dX4_isWalled_116 : decode cX4_isWalled 116 = .ok (.invokevirtual 125, 3) := by decide +kernel
theorem dX4_isWalled_119 : decode cX4_isWalled 119 = .ok (.ireturn, 1) := by decide +kernel
theorem dX4_comesThrough_0 : decode cX4_comesThrough 0 = .ok (.aload_n 0, 1) := by decide +kernel
theorem dX4_comesThrough_1 : decode cX4_comesThrough 1 = .ok (.iload_n 1, 1) := by decide +kernel
theorem dX4_comesThrough_2 : decode cX4_comesThrough 2 = .ok (.invokevirtual 121, 3) := by decide +kernel
theorem dX4_comesThrough_5 : decode cX4_comesThrough 5 = .ok (.astore_n 3, 1) := by decide +kernel
theorem dX4_comesThrough_6 : decode cX4_comesThrough 6 = .ok (.iload_n 2, 1) := by decide +kernel
theorem dX4_comesThrough_7 : decode cX4_comesThrough 7 = .ok (.lookupswitch 69 #[(2, 25), (3, 47)], 25) := by decide +kernel
theorem dX4_comesThrough_32 : decode cX4_comesThrough 32 = .ok (.aload_n 3, 1) := by decide +kernel
theorem dX4_comesThrough_33 : decode cX4_comesThrough 33 = .ok (.iconst 0, 1) := by decide +kernel
theorem dX4_comesThrough_34 : decode cX4_comesThrough 34 = .ok (.invokevirtual 125, 3) := by decide +kernel
theorem dX4_comesThrough_37 : decode cX4_comesThrough 37 = .ok (.ifCond .eq 15, 3) := by decide +kernel
theorem dX4_comesThrough_40 : decode cX4_comesThrough 40 = .ok (.aload_n 3, 1) := by decide +kernel
theorem dX4_comesThrough_41 : decode cX4_comesThrough 41 = .ok (.iconst 1, 1) := by decide +kernel
theorem dX4_comesThrough_42 : decode cX4_comesThrough 42 = .ok (.invokevirtual 125, 3) := by decide +kernel
theorem dX4_comesThrough_45 : decode cX4_comesThrough 45 = .ok (.ifCond .eq 7, 3) := by decide +kernel
theorem dX4_comesThrough_48 : decode cX4_comesThrough 48 = .ok (.iconst 1, 1) := by decide +kernel
theorem dX4_comesThrough_49 : decode cX4_comesThrough 49 = .ok (.goto 4, 3) := by decide +kernel
theorem dX4_comesThrough_52 : decode cX4_comesThrough 52 = .ok (.iconst 0, 1) := by decide +kernel
theorem dX4_comesThrough_53 : decode cX4_comesThrough 53 = .ok (.ireturn, 1) := by decide +kernel
theorem dX4_comesThrough_54 : decode cX4_comesThrough 54 = .ok (.aload_n 3, 1) := by decide +kernel
theorem dX4_comesThrough_55 : decode cX4_comesThrough 55 = .ok (.iconst 0, 1) := by decide +kernel
theorem dX4_comesThrough_56 : decode cX4_comesThrough 56 = .ok (.invokevirtual 125, 3) := by decide +kernel
theorem dX4_comesThrough_59 : decode cX4_comesThrough 59 = .ok (.ifCond .ne 11, 3) := by decide +kernel
theorem dX4_comesThrough_62 : decode cX4_comesThrough 62 = .ok (.aload_n 3, 1) := by decide +kernel
theorem dX4_comesThrough_63 : decode cX4_comesThrough 63 = .ok (.iconst 1, 1) := by decide +kernel
theorem dX4_comesThrough_64 : decode cX4_comesThrough 64 = .ok (.invokevirtual 125, 3) := by decide +kernel
theorem dX4_comesThrough_67 : decode cX4_comesThrough 67 = .ok (.ifCond .eq 7, 3) := by decide +kernel
theorem dX4_comesThrough_70 : decode cX4_comesThrough 70 = .ok (.iconst 1, 1) := by decide +kernel
theorem dX4_comesThrough_71 : decode cX4_comesThrough 71 = .ok (.goto 4, 3) := by decide +kernel
theorem dX4_comesThrough_74 : decode cX4_comesThrough 74 = .ok (.iconst 0, 1) := by decide +kernel
theorem dX4_comesThrough_75 : decode cX4_comesThrough 75 = .ok (.ireturn, 1) := by decide +kernel
theorem dX4_comesThrough_76 : decode cX4_comesThrough 76 = .ok (.aload_n 3, 1) := by decide +kernel
theorem dX4_comesThrough_77 : decode cX4_comesThrough 77 = .ok (.iload_n 2, 1) := by decide +kernel
theorem dX4_comesThrough_78 : decode cX4_comesThrough 78 = .ok (.invokevirtual 125, 3) := by decide +kernel
theorem dX4_comesThrough_81 : decode cX4_comesThrough 81 = .ok (.ireturn, 1) := by decide +kernel
theorem dX4_waysOfSize_0 : decode cX4_waysOfSize 0 = .ok (.iconst 0, 1) := by decide +kernel
theorem dX4_waysOfSize_1 : decode cX4_waysOfSize 1 = .ok (.istore_n 3, 1) := by decide +kernel
theorem dX4_waysOfSize_2 : decode cX4_waysOfSize 2 = .ok (.iconst 0, 1) := by decide +kernel
theorem dX4_waysOfSize_3 : decode cX4_waysOfSize 3 = .ok (.istore 4, 2) := by decide +kernel
theorem dX4_waysOfSize_5 : decode cX4_waysOfSize 5 = .ok (.iload 4, 2) := by decide +kernel
theorem dX4_waysOfSize_7 : decode cX4_waysOfSize 7 = .ok (.aload_n 0, 1) := by decide +kernel
theorem dX4_waysOfSize_8 : decode cX4_waysOfSize 8 = .ok (.invokevirtual 159, 3) := by decide +kernel
theorem dX4_waysOfSize_11 : decode cX4_waysOfSize 11 = .ok (.if_icmp .ge 31, 3) := by decide +kernel
theorem dX4_waysOfSize_14 : decode cX4_waysOfSize 14 = .ok (.iload 4, 2) := by decide +kernel
theorem dX4_waysOfSize_16 : decode cX4_waysOfSize 16 = .ok (.invokestatic 162, 3) := by decide +kernel
theorem dX4_waysOfSize_19 : decode cX4_waysOfSize 19 = .ok (.iload_n 2, 1) := by decide +kernel
theorem dX4_waysOfSize_20 : decode cX4_waysOfSize 20 = .ok (.if_icmp .ne 16, 3) := by decide +kernel
theorem dX4_waysOfSize_23 : decode cX4_waysOfSize 23 = .ok (.aload_n 0, 1) := by decide +kernel
theorem dX4_waysOfSize_24 : decode cX4_waysOfSize 24 = .ok (.iload 4, 2) := by decide +kernel
theorem dX4_waysOfSize_26 : decode cX4_waysOfSize 26 = .ok (.iload_n 1, 1) := by decide +kernel
theorem dX4_waysOfSize_27 : decode cX4_waysOfSize 27 = .ok (.invokevirtual 174, 3) := by decide +kernel
theorem dX4_waysOfSize_30 : decode cX4_waysOfSize 30 = .ok (.ifCond .eq 6, 3) := by decide +kernel
theorem dX4_waysOfSize_33 : decode cX4_waysOfSize 33 = .ok (.iinc 3 1, 3) := by decide +kernel
theorem dX4_waysOfSize_36 : decode cX4_waysOfSize 36 = .ok (.iinc 4 1, 3) := by decide +kernel
theorem dX4_waysOfSize_39 : decode cX4_waysOfSize 39 = .ok (.goto (-34), 3) := by decide +kernel
theorem dX4_waysOfSize_42 : decode cX4_waysOfSize 42 = .ok (.iload_n 3, 1) := by decide +kernel
theorem dX4_waysOfSize_43 : decode cX4_waysOfSize 43 = .ok (.ireturn, 1) := by decide +kernel
theorem dX4_power_0 : decode cX4_power 0 = .ok (.lconst 1, 1) := by decide +kernel
theorem dX4_power_1 : decode cX4_power 1 = .ok (.lstore_n 2, 1) := by decide +kernel
theorem dX4_power_2 : decode cX4_power 2 = .ok (.iconst 0, 1) := by decide +kernel
theorem dX4_power_3 : decode cX4_power 3 = .ok (.istore 4, 2) := by decide +kernel
theorem dX4_power_5 : decode cX4_power 5 = .ok (.iload 4, 2) := by decide +kernel
theorem dX4_power_7 : decode cX4_power 7 = .ok (.iload_n 1, 1) := by decide +kernel
theorem dX4_power_8 : decode cX4_power 8 = .ok (.if_icmp .ge 14, 3) := by decide +kernel
theorem dX4_power_11 : decode cX4_power 11 = .ok (.lload_n 2, 1) := by decide +kernel
theorem dX4_power_12 : decode cX4_power 12 = .ok (.iload_n 0, 1) := by decide +kernel
theorem dX4_power_13 : decode cX4_power 13 = .ok (.i2l, 1) := by decide +kernel
theorem dX4_power_14 : decode cX4_power 14 = .ok (.lmul, 1) := by decide +kernel
theorem dX4_power_15 : decode cX4_power 15 = .ok (.lstore_n 2, 1) := by decide +kernel
theorem dX4_power_16 : decode cX4_power 16 = .ok (.iinc 4 1, 3) := by decide +kernel
theorem dX4_power_19 : decode cX4_power 19 = .ok (.goto (-14), 3) := by decide +kernel
theorem dX4_power_22 : decode cX4_power 22 = .ok (.lload_n 2, 1) := by decide +kernel
theorem dX4_power_23 : decode cX4_power 23 = .ok (.lreturn, 1) := by decide +kernel
theorem dX4_sheetFinding_0 : decode cX4_sheetFinding 0 = .ok (.iload_n 0, 1) := by decide +kernel
theorem dX4_sheetFinding_1 : decode cX4_sheetFinding 1 = .ok (.invokestatic 204, 3) := by decide +kernel
theorem dX4_sheetFinding_4 : decode cX4_sheetFinding 4 = .ok (.ifCond .eq 15, 3) := by decide +kernel
theorem dX4_sheetFinding_7 : decode cX4_sheetFinding 7 = .ok (.iload_n 1, 1) := by decide +kernel
theorem dX4_sheetFinding_8 : decode cX4_sheetFinding 8 = .ok (.invokestatic 248, 3) := by decide +kernel
theorem dX4_sheetFinding_11 : decode cX4_sheetFinding 11 = .ok (.ifCond .eq 8, 3) := by decide +kernel
theorem dX4_sheetFinding_14 : decode cX4_sheetFinding 14 = .ok (.iload_n 2, 1) := by decide +kernel
theorem dX4_sheetFinding_15 : decode cX4_sheetFinding 15 = .ok (.iconst 4, 1) := by decide +kernel
theorem dX4_sheetFinding_16 : decode cX4_sheetFinding 16 = .ok (.if_icmp .le 5, 3) := by decide +kernel
theorem dX4_sheetFinding_19 : decode cX4_sheetFinding 19 = .ok (.iconst (-1), 1) := by decide +kernel
theorem dX4_sheetFinding_20 : decode cX4_sheetFinding 20 = .ok (.ireturn, 1) := by decide +kernel
theorem dX4_sheetFinding_21 : decode cX4_sheetFinding 21 = .ok (.iload_n 2, 1) := by decide +kernel
theorem dX4_sheetFinding_22 : decode cX4_sheetFinding 22 = .ok (.ifCond .ge 8, 3) := by decide +kernel
theorem dX4_sheetFinding_25 : decode cX4_sheetFinding 25 = .ok (.bipush (-15), 2) := by decide +kernel
theorem dX4_sheetFinding_27 : decode cX4_sheetFinding 27 = .ok (.goto 4, 3) := by decide +kernel
theorem dX4_sheetFinding_30 : decode cX4_sheetFinding 30 = .ok (.iconst 0, 1) := by decide +kernel
theorem dX4_sheetFinding_31 : decode cX4_sheetFinding 31 = .ok (.ireturn, 1) := by decide +kernel
theorem dX4_newRowFinding_0 : decode cX4_newRowFinding 0 = .ok (.iload_n 1, 1) := by decide +kernel
theorem dX4_newRowFinding_1 : decode cX4_newRowFinding 1 = .ok (.invokestatic 204, 3) := by decide +kernel
theorem dX4_newRowFinding_4 : decode cX4_newRowFinding 4 = .ok (.ifCond .eq 9, 3) := by decide +kernel
theorem dX4_newRowFinding_7 : decode cX4_newRowFinding 7 = .ok (.iload_n 3, 1) := by decide +kernel
theorem dX4_newRowFinding_8 : decode cX4_newRowFinding 8 = .ok (.bipush 40, 2) := by decide +kernel
theorem dX4_newRowFinding_10 : decode cX4_newRowFinding 10 = .ok (.if_icmp .le 5, 3) := by decide +kernel
theorem dX4_newRowFinding_13 : decode cX4_newRowFinding 13 = .ok (.iconst (-1), 1) := by decide +kernel
theorem dX4_newRowFinding_14 : decode cX4_newRowFinding 14 = .ok (.ireturn, 1) := by decide +kernel
theorem dX4_newRowFinding_15 : decode cX4_newRowFinding 15 = .ok (.aload_n 0, 1) := by decide +kernel
theorem dX4_newRowFinding_16 : decode cX4_newRowFinding 16 = .ok (.getfield 37, 3) := by decide +kernel
theorem dX4_newRowFinding_19 : decode cX4_newRowFinding 19 = .ok (.iload_n 1, 1) := by decide +kernel
theorem dX4_newRowFinding_20 : decode cX4_newRowFinding 20 = .ok (.aaload, 1) := by decide +kernel
theorem dX4_newRowFinding_21 : decode cX4_newRowFinding 21 = .ok (.ifnonnull 6, 3) := by decide +kernel
theorem dX4_newRowFinding_24 : decode cX4_newRowFinding 24 = .ok (.bipush (-11), 2) := by decide +kernel
theorem dX4_newRowFinding_26 : decode cX4_newRowFinding 26 = .ok (.ireturn, 1) := by decide +kernel
theorem dX4_newRowFinding_27 : decode cX4_newRowFinding 27 = .ok (.aload_n 0, 1) := by decide +kernel
theorem dX4_newRowFinding_28 : decode cX4_newRowFinding 28 = .ok (.getfield 37, 3) := by decide +kernel
theorem dX4_newRowFinding_31 : decode cX4_newRowFinding 31 = .ok (.iload_n 1, 1) := by decide +kernel
theorem dX4_newRowFinding_32 : decode cX4_newRowFinding 32 = .ok (.aaload, 1) := by decide +kernel
theorem dX4_newRowFinding_33 : decode cX4_newRowFinding 33 = .ok (.iload_n 2, 1) := by decide +kernel
theorem dX4_newRowFinding_34 : decode cX4_newRowFinding 34 = .ok (.invokevirtual 251, 3) := by decide +kernel
theorem dX4_newRowFinding_37 : decode cX4_newRowFinding 37 = .ok (.ifCond .ne 6, 3) := by decide +kernel
theorem dX4_newRowFinding_40 : decode cX4_newRowFinding 40 = .ok (.bipush (-12), 2) := by decide +kernel
theorem dX4_newRowFinding_42 : decode cX4_newRowFinding 42 = .ok (.ireturn, 1) := by decide +kernel
theorem dX4_newRowFinding_43 : decode cX4_newRowFinding 43 = .ok (.iload_n 3, 1) := by decide +kernel
theorem dX4_newRowFinding_44 : decode cX4_newRowFinding 44 = .ok (.ifCond .ge 8, 3) := by decide +kernel
theorem dX4_newRowFinding_47 : decode cX4_newRowFinding 47 = .ok (.bipush (-15), 2) := by decide +kernel
theorem dX4_newRowFinding_49 : decode cX4_newRowFinding 49 = .ok (.goto 4, 3) := by decide +kernel
theorem dX4_newRowFinding_52 : decode cX4_newRowFinding 52 = .ok (.iconst 0, 1) := by decide +kernel
theorem dX4_newRowFinding_53 : decode cX4_newRowFinding 53 = .ok (.ireturn, 1) := by decide +kernel
theorem dX4_putFinding_0 : decode cX4_putFinding 0 = .ok (.iload_n 1, 1) := by decide +kernel
theorem dX4_putFinding_1 : decode cX4_putFinding 1 = .ok (.invokestatic 204, 3) := by decide +kernel
theorem dX4_putFinding_4 : decode cX4_putFinding 4 = .ok (.ifCond .eq 10, 3) := by decide +kernel
theorem dX4_putFinding_7 : decode cX4_putFinding 7 = .ok (.iload_n 2, 1) := by decide +kernel
theorem dX4_putFinding_8 : decode cX4_putFinding 8 = .ok (.invokestatic 248, 3) := by decide +kernel
theorem dX4_putFinding_11 : decode cX4_putFinding 11 = .ok (.ifCond .ne 5, 3) := by decide +kernel
theorem dX4_putFinding_14 : decode cX4_putFinding 14 = .ok (.iconst (-1), 1) := by decide +kernel
theorem dX4_putFinding_15 : decode cX4_putFinding 15 = .ok (.ireturn, 1) := by decide +kernel
theorem dX4_putFinding_16 : decode cX4_putFinding 16 = .ok (.aload_n 0, 1) := by decide +kernel
theorem dX4_putFinding_17 : decode cX4_putFinding 17 = .ok (.getfield 37, 3) := by decide +kernel
theorem dX4_putFinding_20 : decode cX4_putFinding 20 = .ok (.iload_n 1, 1) := by decide +kernel
theorem dX4_putFinding_21 : decode cX4_putFinding 21 = .ok (.aaload, 1) := by decide +kernel
theorem dX4_putFinding_22 : decode cX4_putFinding 22 = .ok (.astore 5, 2) := by decide +kernel
theorem dX4_putFinding_24 : decode cX4_putFinding 24 = .ok (.aload 5, 2) := by decide +kernel
theorem dX4_putFinding_26 : decode cX4_putFinding 26 = .ok (.ifnull 15, 3) := by decide +kernel
theorem dX4_putFinding_29 : decode cX4_putFinding 29 = .ok (.aload 5, 2) := by decide +kernel
theorem dX4_putFinding_31 : decode cX4_putFinding 31 = .ok (.getfield 254, 3) := by decide +kernel
theorem dX4_putFinding_34 : decode cX4_putFinding 34 = .ok (.iload_n 2, 1) := by decide +kernel
theorem dX4_putFinding_35 : decode cX4_putFinding 35 = .ok (.if_icmp .eq 6, 3) := by decide +kernel
theorem dX4_putFinding_38 : decode cX4_putFinding 38 = .ok (.bipush (-13), 2) := by decide +kernel
theorem dX4_putFinding_40 : decode cX4_putFinding 40 = .ok (.ireturn, 1) := by decide +kernel
theorem dX4_putFinding_41 : decode cX4_putFinding 41 = .ok (.aload 5, 2) := by decide +kernel
theorem dX4_putFinding_43 : decode cX4_putFinding 43 = .ok (.iload_n 3, 1) := by decide +kernel
theorem dX4_putFinding_44 : decode cX4_putFinding 44 = .ok (.invokestatic 207, 3) := by decide +kernel
theorem dX4_putFinding_47 : decode cX4_putFinding 47 = .ok (.istore 6, 2) := by decide +kernel
theorem dX4_putFinding_49 : decode cX4_putFinding 49 = .ok (.iload 6, 2) := by decide +kernel
theorem dX4_putFinding_51 : decode cX4_putFinding 51 = .ok (.ifCond .eq 6, 3) := by decide +kernel
theorem dX4_putFinding_54 : decode cX4_putFinding 54 = .ok (.iload 6, 2) := by decide +kernel
theorem dX4_putFinding_56 : decode cX4_putFinding 56 = .ok (.ireturn, 1) := by decide +kernel
theorem dX4_putFinding_57 : decode cX4_putFinding 57 = .ok (.aload 5, 2) := by decide +kernel
theorem dX4_putFinding_59 : decode cX4_putFinding 59 = .ok (.iload_n 3, 1) := by decide +kernel
theorem dX4_putFinding_60 : decode cX4_putFinding 60 = .ok (.iload 4, 2) := by decide +kernel
theorem dX4_putFinding_62 : decode cX4_putFinding 62 = .ok (.iconst 1, 1) := by decide +kernel
theorem dX4_putFinding_63 : decode cX4_putFinding 63 = .ok (.invokevirtual 257, 3) := by decide +kernel
theorem dX4_putFinding_66 : decode cX4_putFinding 66 = .ok (.ifCond .eq 7, 3) := by decide +kernel
theorem dX4_putFinding_69 : decode cX4_putFinding 69 = .ok (.iconst 0, 1) := by decide +kernel
theorem dX4_putFinding_70 : decode cX4_putFinding 70 = .ok (.goto 5, 3) := by decide +kernel
theorem dX4_putFinding_73 : decode cX4_putFinding 73 = .ok (.bipush (-12), 2) := by decide +kernel
theorem dX4_putFinding_75 : decode cX4_putFinding 75 = .ok (.ireturn, 1) := by decide +kernel
theorem dX4_copyFinding_0 : decode cX4_copyFinding 0 = .ok (.iload_n 1, 1) := by decide +kernel
theorem dX4_copyFinding_1 : decode cX4_copyFinding 1 = .ok (.invokestatic 204, 3) := by decide +kernel
theorem dX4_copyFinding_4 : decode cX4_copyFinding 4 = .ok (.ifCond .eq 11, 3) := by decide +kernel
theorem dX4_copyFinding_7 : decode cX4_copyFinding 7 = .ok (.iload 4, 2) := by decide +kernel
theorem dX4_copyFinding_9 : decode cX4_copyFinding 9 = .ok (.invokestatic 204, 3) := by decide +kernel
theorem dX4_copyFinding_12 : decode cX4_copyFinding 12 = .ok (.ifCond .ne 5, 3) := by decide +kernel
theorem dX4_copyFinding_15 : decode cX4_copyFinding 15 = .ok (.iconst (-1), 1) := by decide +kernel
theorem dX4_copyFinding_16 : decode cX4_copyFinding 16 = .ok (.ireturn, 1) := by decide +kernel
theorem dX4_copyFinding_17 : decode cX4_copyFinding 17 = .ok (.aload_n 0, 1) := by decide +kernel
theorem dX4_copyFinding_18 : decode cX4_copyFinding 18 = .ok (.getfield 37, 3) := by decide +kernel
theorem dX4_copyFinding_21 : decode cX4_copyFinding 21 = .ok (.iload_n 1, 1) := by decide +kernel
theorem dX4_copyFinding_22 : decode cX4_copyFinding 22 = .ok (.aaload, 1) := by decide +kernel
theorem dX4_copyFinding_23 : decode cX4_copyFinding 23 = .ok (.astore 8, 2) := by decide +kernel
theorem dX4_copyFinding_25 : decode cX4_copyFinding 25 = .ok (.aload_n 0, 1) := by decide +kernel
theorem dX4_copyFinding_26 : decode cX4_copyFinding 26 = .ok (.getfield 37, 3) := by decide +kernel
theorem dX4_copyFinding_29 : decode cX4_copyFinding 29 = .ok (.iload 4, 2) := by decide +kernel
theorem dX4_copyFinding_31 : decode cX4_copyFinding 31 = .ok (.aaload, 1) := by decide +kernel
theorem dX4_copyFinding_32 : decode cX4_copyFinding 32 = .ok (.astore 9, 2) := by decide +kernel
theorem dX4_copyFinding_34 : decode cX4_copyFinding 34 = .ok (.aload 8, 2) := by decide +kernel
theorem dX4_copyFinding_36 : decode cX4_copyFinding 36 = .ok (.ifnull 8, 3) := by decide +kernel
theorem dX4_copyFinding_39 : decode cX4_copyFinding 39 = .ok (.aload 9, 2) := by decide +kernel
theorem dX4_copyFinding_41 : decode cX4_copyFinding 41 = .ok (.ifnonnull 6, 3) := by decide +kernel
theorem dX4_copyFinding_44 : decode cX4_copyFinding 44 = .ok (.bipush (-11), 2) := by decide +kernel
theorem dX4_copyFinding_46 : decode cX4_copyFinding 46 = .ok (.ireturn, 1) := by decide +kernel
theorem dX4_copyFinding_47 : decode cX4_copyFinding 47 = .ok (.aload 8, 2) := by decide +kernel
theorem dX4_copyFinding_49 : decode cX4_copyFinding 49 = .ok (.getfield 254, 3) := by decide +kernel
theorem dX4_copyFinding_52 : decode cX4_copyFinding 52 = .ok (.aload 9, 2) := by decide +kernel
theorem dX4_copyFinding_54 : decode cX4_copyFinding 54 = .ok (.getfield 254, 3) := by decide +kernel
theorem dX4_copyFinding_57 : decode cX4_copyFinding 57 = .ok (.if_icmp .eq 6, 3) := by decide +kernel
theorem dX4_copyFinding_60 : decode cX4_copyFinding 60 = .ok (.bipush (-13), 2) := by decide +kernel
theorem dX4_copyFinding_62 : decode cX4_copyFinding 62 = .ok (.ireturn, 1) := by decide +kernel
theorem dX4_copyFinding_63 : decode cX4_copyFinding 63 = .ok (.aload 8, 2) := by decide +kernel
theorem dX4_copyFinding_65 : decode cX4_copyFinding 65 = .ok (.iload_n 2, 1) := by decide +kernel
theorem dX4_copyFinding_66 : decode cX4_copyFinding 66 = .ok (.invokevirtual 251, 3) := by decide +kernel
theorem dX4_copyFinding_69 : decode cX4_copyFinding 69 = .ok (.ifCond .eq 13, 3) := by decide +kernel
theorem dX4_copyFinding_72 : decode cX4_copyFinding 72 = .ok (.aload 9, 2) := by decide +kernel
theorem dX4_copyFinding_74 : decode cX4_copyFinding 74 = .ok (.iload 5, 2) := by decide +kernel
theorem dX4_copyFinding_76 : decode cX4_copyFinding 76 = .ok (.invokevirtual 251, 3) := by decide +kernel
theorem dX4_copyFinding_79 : decode cX4_copyFinding 79 = .ok (.ifCond .ne 6, 3) := by decide +kernel
theorem dX4_copyFinding_82 : decode cX4_copyFinding 82 = .ok (.bipush (-12), 2) := by decide +kernel
theorem dX4_copyFinding_84 : decode cX4_copyFinding 84 = .ok (.ireturn, 1) := by decide +kernel
theorem dX4_copyFinding_85 : decode cX4_copyFinding 85 = .ok (.aload 8, 2) := by decide +kernel
theorem dX4_copyFinding_87 : decode cX4_copyFinding 87 = .ok (.getfield 187, 3) := by decide +kernel
theorem dX4_copyFinding_90 : decode cX4_copyFinding 90 = .ok (.iload_n 2, 1) := by decide +kernel
theorem dX4_copyFinding_91 : decode cX4_copyFinding 91 = .ok (.aaload, 1) := by decide +kernel
theorem dX4_copyFinding_92 : decode cX4_copyFinding 92 = .ok (.ifnull 14, 3) := by decide +kernel
theorem dX4_copyFinding_95 : decode cX4_copyFinding 95 = .ok (.aload 9, 2) := by decide +kernel
theorem dX4_copyFinding_97 : decode cX4_copyFinding 97 = .ok (.getfield 187, 3) := by decide +kernel
theorem dX4_copyFinding_100 : decode cX4_copyFinding 100 = .ok (.iload 5, 2) := by decide +kernel
theorem dX4_copyFinding_102 : decode cX4_copyFinding 102 = .ok (.aaload, 1) := by decide +kernel
theorem dX4_copyFinding_103 : decode cX4_copyFinding 103 = .ok (.ifnonnull 6, 3) := by decide +kernel
theorem dX4_copyFinding_106 : decode cX4_copyFinding 106 = .ok (.bipush (-11), 2) := by decide +kernel
theorem dX4_copyFinding_108 : decode cX4_copyFinding 108 = .ok (.ireturn, 1) := by decide +kernel
theorem dX4_copyFinding_109 : decode cX4_copyFinding 109 = .ok (.aload 8, 2) := by decide +kernel
theorem dX4_copyFinding_111 : decode cX4_copyFinding 111 = .ok (.iload_n 2, 1) := by decide +kernel
theorem dX4_copyFinding_112 : decode cX4_copyFinding 112 = .ok (.iload_n 3, 1) := by decide +kernel
theorem dX4_copyFinding_113 : decode cX4_copyFinding 113 = .ok (.iload 7, 2) := by decide +kernel
theorem dX4_copyFinding_115 : decode cX4_copyFinding 115 = .ok (.invokevirtual 257, 3) := by decide +kernel
theorem dX4_copyFinding_118 : decode cX4_copyFinding 118 = .ok (.ifCond .eq 21, 3) := by decide +kernel
theorem dX4_copyFinding_121 : decode cX4_copyFinding 121 = .ok (.aload 9, 2) := by decide +kernel
theorem dX4_copyFinding_123 : decode cX4_copyFinding 123 = .ok (.iload 5, 2) := by decide +kernel
theorem dX4_copyFinding_125 : decode cX4_copyFinding 125 = .ok (.iload 6, 2) := by decide +kernel
theorem dX4_copyFinding_127 : decode cX4_copyFinding 127 = .ok (.iload 7, 2) := by decide +kernel
theorem dX4_copyFinding_129 : decode cX4_copyFinding 129 = .ok (.invokevirtual 257, 3) := by decide +kernel
theorem dX4_copyFinding_132 : decode cX4_copyFinding 132 = .ok (.ifCond .eq 7, 3) := by decide +kernel
theorem dX4_copyFinding_135 : decode cX4_copyFinding 135 = .ok (.iconst 0, 1) := by decide +kernel
theorem dX4_copyFinding_136 : decode cX4_copyFinding 136 = .ok (.goto 5, 3) := by decide +kernel
theorem dX4_copyFinding_139 : decode cX4_copyFinding 139 = .ok (.bipush (-12), 2) := by decide +kernel
theorem dX4_copyFinding_141 : decode cX4_copyFinding 141 = .ok (.ireturn, 1) := by decide +kernel
theorem dX4_rowFinding_0 : decode cX4_rowFinding 0 = .ok (.aload_n 0, 1) := by decide +kernel
theorem dX4_rowFinding_1 : decode cX4_rowFinding 1 = .ok (.ifnonnull 6, 3) := by decide +kernel
theorem dX4_rowFinding_4 : decode cX4_rowFinding 4 = .ok (.bipush (-11), 2) := by decide +kernel
theorem dX4_rowFinding_6 : decode cX4_rowFinding 6 = .ok (.ireturn, 1) := by decide +kernel
theorem dX4_rowFinding_7 : decode cX4_rowFinding 7 = .ok (.aload_n 0, 1) := by decide +kernel
theorem dX4_rowFinding_8 : decode cX4_rowFinding 8 = .ok (.iload_n 1, 1) := by decide +kernel
theorem dX4_rowFinding_9 : decode cX4_rowFinding 9 = .ok (.invokevirtual 251, 3) := by decide +kernel
theorem dX4_rowFinding_12 : decode cX4_rowFinding 12 = .ok (.ifCond .ne 6, 3) := by decide +kernel
theorem dX4_rowFinding_15 : decode cX4_rowFinding 15 = .ok (.bipush (-12), 2) := by decide +kernel
theorem dX4_rowFinding_17 : decode cX4_rowFinding 17 = .ok (.ireturn, 1) := by decide +kernel
theorem dX4_rowFinding_18 : decode cX4_rowFinding 18 = .ok (.aload_n 0, 1) := by decide +kernel
theorem dX4_rowFinding_19 : decode cX4_rowFinding 19 = .ok (.getfield 187, 3) := by decide +kernel
theorem dX4_rowFinding_22 : decode cX4_rowFinding 22 = .ok (.iload_n 1, 1) := by decide +kernel
theorem dX4_rowFinding_23 : decode cX4_rowFinding 23 = .ok (.aaload, 1) := by decide +kernel
theorem dX4_rowFinding_24 : decode cX4_rowFinding 24 = .ok (.ifnonnull 8, 3) := by decide +kernel
theorem dX4_rowFinding_27 : decode cX4_rowFinding 27 = .ok (.bipush (-11), 2) := by decide +kernel
theorem dX4_rowFinding_29 : decode cX4_rowFinding 29 = .ok (.goto 4, 3) := by decide +kernel
theorem dX4_rowFinding_32 : decode cX4_rowFinding 32 = .ok (.iconst 0, 1) := by decide +kernel
theorem dX4_rowFinding_33 : decode cX4_rowFinding 33 = .ok (.ireturn, 1) := by decide +kernel
theorem dX4_readKinds_0 : decode cX4_readKinds 0 = .ok (.aload_n 1, 1) := by decide +kernel
theorem dX4_readKinds_1 : decode cX4_readKinds 1 = .ok (.arraylength, 1) := by decide +kernel
theorem dX4_readKinds_2 : decode cX4_readKinds 2 = .ok (.aload_n 0, 1) := by decide +kernel
theorem dX4_readKinds_3 : decode cX4_readKinds 3 = .ok (.getfield 10, 3) := by decide +kernel
theorem dX4_readKinds_6 : decode cX4_readKinds 6 = .ok (.getfield 57, 3) := by decide +kernel
theorem dX4_readKinds_9 : decode cX4_readKinds 9 = .ok (.invokestatic 260, 3) := by decide +kernel
theorem dX4_readKinds_12 : decode cX4_readKinds 12 = .ok (.istore_n 2, 1) := by decide +kernel
theorem dX4_readKinds_13 : decode cX4_readKinds 13 = .ok (.iconst 0, 1) := by decide +kernel
theorem dX4_readKinds_14 : decode cX4_readKinds 14 = .ok (.istore_n 3, 1) := by decide +kernel
theorem dX4_readKinds_15 : decode cX4_readKinds 15 = .ok (.iload_n 3, 1) := by decide +kernel
theorem dX4_readKinds_16 : decode cX4_readKinds 16 = .ok (.iload_n 2, 1) := by decide +kernel
theorem dX4_readKinds_17 : decode cX4_readKinds 17 = .ok (.if_icmp .ge 32, 3) := by decide +kernel
theorem dX4_readKinds_20 : decode cX4_readKinds 20 = .ok (.aload_n 0, 1) := by decide +kernel
theorem dX4_readKinds_21 : decode cX4_readKinds 21 = .ok (.iload_n 3, 1) := by decide +kernel
theorem dX4_readKinds_22 : decode cX4_readKinds 22 = .ok (.aload_n 1, 1) := by decide +kernel
theorem dX4_readKinds_23 : decode cX4_readKinds 23 = .ok (.iload_n 3, 1) := by decide +kernel
theorem dX4_readKinds_24 : decode cX4_readKinds 24 = .ok (.iaload, 1) := by decide +kernel
theorem dX4_readKinds_25 : decode cX4_readKinds 25 = .ok (.invokevirtual 265, 3) := by decide +kernel
theorem dX4_readKinds_28 : decode cX4_readKinds 28 = .ok (.istore 4, 2) := by decide +kernel
theorem dX4_readKinds_30 : decode cX4_readKinds 30 = .ok (.iload 4, 2) := by decide +kernel
theorem dX4_readKinds_32 : decode cX4_readKinds 32 = .ok (.ifCond .ge 11, 3) := by decide +kernel
theorem dX4_readKinds_35 : decode cX4_readKinds 35 = .ok (.aload_n 0, 1) := by decide +kernel
theorem dX4_readKinds_36 : decode cX4_readKinds 36 = .ok (.iload 4, 2) := by decide +kernel
theorem dX4_readKinds_38 : decode cX4_readKinds 38 = .ok (.putfield 45, 3) := by decide +kernel
theorem dX4_readKinds_41 : decode cX4_readKinds 41 = .ok (.iload_n 3, 1) := by decide +kernel
theorem dX4_readKinds_42 : decode cX4_readKinds 42 = .ok (.ireturn, 1) := by decide +kernel
theorem dX4_readKinds_43 : decode cX4_readKinds 43 = .ok (.iinc 3 1, 3) := by decide +kernel
theorem dX4_readKinds_46 : decode cX4_readKinds 46 = .ok (.goto (-31), 3) := by decide +kernel
theorem dX4_readKinds_49 : decode cX4_readKinds 49 = .ok (.iload_n 2, 1) := by decide +kernel
theorem dX4_readKinds_50 : decode cX4_readKinds 50 = .ok (.ireturn, 1) := by decide +kernel
