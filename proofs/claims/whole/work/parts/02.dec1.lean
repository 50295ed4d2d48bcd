theorem dX0_init_0 : decode cX0_init 0 = .ok (.aload_n 0, 1) := by decide +kernel
theorem dX0_init_1 : decode cX0_init 1 = .ok (.invokespecial 3, 3) := by decide +kernel
theorem dX0_init_4 : decode cX0_init 4 = .ok (.aload_n 0, 1) := by decide +kernel
theorem dX0_init_5 : decode cX0_init 5 = .ok (.iconst 3, 1) := by decide +kernel
theorem dX0_init_6 : decode cX0_init 6 = .ok (.putfield 9, 3) := by decide +kernel
theorem dX0_init_9 : decode cX0_init 9 = .ok (.aload_n 0, 1) := by decide +kernel
theorem dX0_init_10 : decode cX0_init 10 = .ok (.iconst 5, 1) := by decide +kernel
theorem dX0_init_11 : decode cX0_init 11 = .ok (.putfield 15, 3) := by decide +kernel
theorem dX0_init_14 : decode cX0_init 14 = .ok (.aload_n 0, 1) := by decide +kernel
theorem dX0_init_15 : decode cX0_init 15 = .ok (.bipush 6, 2) := by decide +kernel
theorem dX0_init_17 : decode cX0_init 17 = .ok (.newarray .int, 2) := by decide +kernel
theorem dX0_init_19 : decode cX0_init 19 = .ok (.putfield 18, 3) := by decide +kernel
theorem dX0_init_22 : decode cX0_init 22 = .ok (.aload_n 0, 1) := by decide +kernel
theorem dX0_init_23 : decode cX0_init 23 = .ok (.bipush 6, 2) := by decide +kernel
theorem dX0_init_25 : decode cX0_init 25 = .ok (.newarray .int, 2) := by decide +kernel
theorem dX0_init_27 : decode cX0_init 27 = .ok (.putfield 22, 3) := by decide +kernel
theorem dX0_init_30 : decode cX0_init 30 = .ok (.aload_n 0, 1) := by decide +kernel
theorem dX0_init_31 : decode cX0_init 31 = .ok (.bipush 6, 2) := by decide +kernel
theorem dX0_init_33 : decode cX0_init 33 = .ok (.bipush 6, 2) := by decide +kernel
theorem dX0_init_35 : decode cX0_init 35 = .ok (.multianewarray 25 2, 4) := by decide +kernel
theorem dX0_init_39 : decode cX0_init 39 = .ok (.putfield 27, 3) := by decide +kernel
theorem dX0_init_42 : decode cX0_init 42 = .ok (.aload_n 0, 1) := by decide +kernel
theorem dX0_init_43 : decode cX0_init 43 = .ok (.bipush 6, 2) := by decide +kernel
theorem dX0_init_45 : decode cX0_init 45 = .ok (.bipush 64, 2) := by decide +kernel
theorem dX0_init_47 : decode cX0_init 47 = .ok (.multianewarray 25 2, 4) := by decide +kernel
theorem dX0_init_51 : decode cX0_init 51 = .ok (.putfield 30, 3) := by decide +kernel
theorem dX0_init_54 : decode cX0_init 54 = .ok (.aload_n 0, 1) := by decide +kernel
theorem dX0_init_55 : decode cX0_init 55 = .ok (.bipush 6, 2) := by decide +kernel
theorem dX0_init_57 : decode cX0_init 57 = .ok (.newarray .int, 2) := by decide +kernel
theorem dX0_init_59 : decode cX0_init 59 = .ok (.putfield 33, 3) := by decide +kernel
theorem dX0_init_62 : decode cX0_init 62 = .ok (.return_, 1) := by decide +kernel
theorem dX0_empties_0 : decode cX0_empties 0 = .ok (.aload_n 0, 1) := by decide +kernel
theorem dX0_empties_1 : decode cX0_empties 1 = .ok (.iconst 0, 1) := by decide +kernel
theorem dX0_empties_2 : decode cX0_empties 2 = .ok (.putfield 36, 3) := by decide +kernel
theorem dX0_empties_5 : decode cX0_empties 5 = .ok (.aload_n 0, 1) := by decide +kernel
theorem dX0_empties_6 : decode cX0_empties 6 = .ok (.iconst 3, 1) := by decide +kernel
theorem dX0_empties_7 : decode cX0_empties 7 = .ok (.putfield 9, 3) := by decide +kernel
theorem dX0_empties_10 : decode cX0_empties 10 = .ok (.aload_n 0, 1) := by decide +kernel
theorem dX0_empties_11 : decode cX0_empties 11 = .ok (.iconst 5, 1) := by decide +kernel
theorem dX0_empties_12 : decode cX0_empties 12 = .ok (.putfield 15, 3) := by decide +kernel
theorem dX0_empties_15 : decode cX0_empties 15 = .ok (.iconst 0, 1) := by decide +kernel
theorem dX0_empties_16 : decode cX0_empties 16 = .ok (.istore_n 1, 1) := by decide +kernel
theorem dX0_empties_17 : decode cX0_empties 17 = .ok (.iload_n 1, 1) := by decide +kernel
theorem dX0_empties_18 : decode cX0_empties 18 = .ok (.bipush 6, 2) := by decide +kernel
theorem dX0_empties_20 : decode cX0_empties 20 = .ok (.if_icmp .ge 19, 3) := by decide +kernel
theorem dX0_empties_23 : decode cX0_empties 23 = .ok (.aload_n 0, 1) := by decide +kernel
theorem dX0_empties_24 : decode cX0_empties 24 = .ok (.getfield 27, 3) := by decide +kernel
theorem dX0_empties_27 : decode cX0_empties 27 = .ok (.iload_n 1, 1) := by decide +kernel
theorem dX0_empties_28 : decode cX0_empties 28 = .ok (.aaload, 1) := by decide +kernel
theorem dX0_empties_29 : decode cX0_empties 29 = .ok (.iconst 0, 1) := by decide +kernel
theorem dX0_empties_30 : decode cX0_empties 30 = .ok (.invokestatic 39, 3) := by decide +kernel
theorem dX0_empties_33 : decode cX0_empties 33 = .ok (.iinc 1 1, 3) := by decide +kernel
theorem dX0_empties_36 : decode cX0_empties 36 = .ok (.goto (-19), 3) := by decide +kernel
theorem dX0_empties_39 : decode cX0_empties 39 = .ok (.return_, 1) := by decide +kernel
theorem dX0_becomes_0 : decode cX0_becomes 0 = .ok (.aload_n 0, 1) := by decide +kernel
theorem dX0_becomes_1 : decode cX0_becomes 1 = .ok (.aload_n 1, 1) := by decide +kernel
theorem dX0_becomes_2 : decode cX0_becomes 2 = .ok (.getfield 36, 3) := by decide +kernel
theorem dX0_becomes_5 : decode cX0_becomes 5 = .ok (.putfield 36, 3) := by decide +kernel
theorem dX0_becomes_8 : decode cX0_becomes 8 = .ok (.aload_n 0, 1) := by decide +kernel
theorem dX0_becomes_9 : decode cX0_becomes 9 = .ok (.aload_n 1, 1) := by decide +kernel
theorem dX0_becomes_10 : decode cX0_becomes 10 = .ok (.getfield 9, 3) := by decide +kernel
theorem dX0_becomes_13 : decode cX0_becomes 13 = .ok (.putfield 9, 3) := by decide +kernel
theorem dX0_becomes_16 : decode cX0_becomes 16 = .ok (.aload_n 0, 1) := by decide +kernel
theorem dX0_becomes_17 : decode cX0_becomes 17 = .ok (.aload_n 1, 1) := by decide +kernel
theorem dX0_becomes_18 : decode cX0_becomes 18 = .ok (.getfield 15, 3) := by decide +kernel
theorem dX0_becomes_21 : decode cX0_becomes 21 = .ok (.putfield 15, 3) := by decide +kernel
theorem dX0_becomes_24 : decode cX0_becomes 24 = .ok (.aload_n 1, 1) := by decide +kernel
theorem dX0_becomes_25 : decode cX0_becomes 25 = .ok (.getfield 18, 3) := by decide +kernel
theorem dX0_becomes_28 : decode cX0_becomes 28 = .ok (.iconst 0, 1) := by decide +kernel
theorem dX0_becomes_29 : decode cX0_becomes 29 = .ok (.aload_n 0, 1) := by decide +kernel
theorem dX0_becomes_30 : decode cX0_becomes 30 = .ok (.getfield 18, 3) := by decide +kernel
theorem dX0_becomes_33 : decode cX0_becomes 33 = .ok (.iconst 0, 1) := by decide +kernel
theorem dX0_becomes_34 : decode cX0_becomes 34 = .ok (.bipush 6, 2) := by decide +kernel
theorem dX0_becomes_36 : decode cX0_becomes 36 = .ok (.invokestatic 45, 3) := by decide +kernel
theorem dX0_becomes_39 : decode cX0_becomes 39 = .ok (.aload_n 1, 1) := by decide +kernel
theorem dX0_becomes_40 : decode cX0_becomes 40 = .ok (.getfield 22, 3) := by decide +kernel
theorem dX0_becomes_43 : decode cX0_becomes 43 = .ok (.iconst 0, 1) := by decide +kernel
theorem dX0_becomes_44 : decode cX0_becomes 44 = .ok (.aload_n 0, 1) := by decide +kernel
theorem dX0_becomes_45 : decode cX0_becomes 45 = .ok (.getfield 22, 3) := by decide +kernel
theorem dX0_becomes_48 : decode cX0_becomes 48 = .ok (.iconst 0, 1) := by decide +kernel
theorem dX0_becomes_49 : decode cX0_becomes 49 = .ok (.bipush 6, 2) := by decide +kernel
theorem dX0_becomes_51 : decode cX0_becomes 51 = .ok (.invokestatic 45, 3) := by decide +kernel
theorem dX0_becomes_54 : decode cX0_becomes 54 = .ok (.iconst 0, 1) := by decide +kernel
theorem dX0_becomes_55 : decode cX0_becomes 55 = .ok (.istore_n 2, 1) := by decide +kernel
theorem dX0_becomes_56 : decode cX0_becomes 56 = .ok (.iload_n 2, 1) := by decide +kernel
theorem dX0_becomes_57 : decode cX0_becomes 57 = .ok (.bipush 6, 2) := by decide +kernel
theorem dX0_becomes_59 : decode cX0_becomes 59 = .ok (.if_icmp .ge 33, 3) := by decide +kernel
theorem dX0_becomes_62 : decode cX0_becomes 62 = .ok (.aload_n 1, 1) := by decide +kernel
theorem dX0_becomes_63 : decode cX0_becomes 63 = .ok (.getfield 27, 3) := by decide +kernel
theorem dX0_becomes_66 : decode cX0_becomes 66 = .ok (.iload_n 2, 1) := by decide +kernel
theorem dX0_becomes_67 : decode cX0_becomes 67 = .ok (.aaload, 1) := by decide +kernel
theorem dX0_becomes_68 : decode cX0_becomes 68 = .ok (.iconst 0, 1) := by decide +kernel
theorem dX0_becomes_69 : decode cX0_becomes 69 = .ok (.aload_n 0, 1) := by decide +kernel
theorem dX0_becomes_70 : decode cX0_becomes 70 = .ok (.getfield 27, 3) := by decide +kernel
theorem dX0_becomes_73 : decode cX0_becomes 73 = .ok (.iload_n 2, 1) := by decide +kernel
theorem dX0_becomes_74 : decode cX0_becomes 74 = .ok (.aaload, 1) := by decide +kernel
theorem dX0_becomes_75 : decode cX0_becomes 75 = .ok (.iconst 0, 1) := by decide +kernel
theorem dX0_becomes_76 : decode cX0_becomes 76 = .ok (.bipush 6, 2) := by decide +kernel
theorem dX0_becomes_78 : decode cX0_becomes 78 = .ok (.invokestatic 45, 3) := by decide +kernel
theorem dX0_becomes_81 : decode cX0_becomes 81 = .ok (.aload_n 0, 1) := by decide +kernel
theorem dX0_becomes_82 : decode cX0_becomes 82 = .ok (.iload_n 2, 1) := by decide +kernel
theorem dX0_becomes_83 : decode cX0_becomes 83 = .ok (.invokevirtual 51, 3) := by decide +kernel
theorem dX0_becomes_86 : decode cX0_becomes 86 = .ok (.iinc 2 1, 3) := by decide +kernel
theorem dX0_becomes_89 : decode cX0_becomes 89 = .ok (.goto (-33), 3) := by decide +kernel
theorem dX0_becomes_92 : decode cX0_becomes 92 = .ok (.return_, 1) := by decide +kernel
theorem dX0_measures_0 : decode cX0_measures 0 = .ok (.aload_n 0, 1) := by decide +kernel
theorem dX0_measures_1 : decode cX0_measures 1 = .ok (.getfield 33, 3) := by decide +kernel
theorem dX0_measures_4 : decode cX0_measures 4 = .ok (.iload_n 1, 1) := by decide +kernel
theorem dX0_measures_5 : decode cX0_measures 5 = .ok (.iconst 0, 1) := by decide +kernel
theorem dX0_measures_6 : decode cX0_measures 6 = .ok (.iastore, 1) := by decide +kernel
theorem dX0_measures_7 : decode cX0_measures 7 = .ok (.iconst 0, 1) := by decide +kernel
theorem dX0_measures_8 : decode cX0_measures 8 = .ok (.istore_n 2, 1) := by decide +kernel
theorem dX0_measures_9 : decode cX0_measures 9 = .ok (.iload_n 2, 1) := by decide +kernel
theorem dX0_measures_10 : decode cX0_measures 10 = .ok (.iconst 1, 1) := by decide +kernel
theorem dX0_measures_11 : decode cX0_measures 11 = .ok (.aload_n 0, 1) := by decide +kernel
theorem dX0_measures_12 : decode cX0_measures 12 = .ok (.getfield 36, 3) := by decide +kernel
theorem dX0_measures_15 : decode cX0_measures 15 = .ok (.ishl, 1) := by decide +kernel
theorem dX0_measures_16 : decode cX0_measures 16 = .ok (.if_icmp .ge 92, 3) := by decide +kernel
theorem dX0_measures_19 : decode cX0_measures 19 = .ok (.iconst 0, 1) := by decide +kernel
theorem dX0_measures_20 : decode cX0_measures 20 = .ok (.istore_n 3, 1) := by decide +kernel
theorem dX0_measures_21 : decode cX0_measures 21 = .ok (.iconst 0, 1) := by decide +kernel
theorem dX0_measures_22 : decode cX0_measures 22 = .ok (.istore 4, 2) := by decide +kernel
theorem dX0_measures_24 : decode cX0_measures 24 = .ok (.iload 4, 2) := by decide +kernel
theorem dX0_measures_26 : decode cX0_measures 26 = .ok (.aload_n 0, 1) := by decide +kernel
theorem dX0_measures_27 : decode cX0_measures 27 = .ok (.getfield 36, 3) := by decide +kernel
theorem dX0_measures_30 : decode cX0_measures 30 = .ok (.if_icmp .ge 35, 3) := by decide +kernel
theorem dX0_measures_33 : decode cX0_measures 33 = .ok (.iload_n 3, 1) := by decide +kernel
theorem dX0_measures_34 : decode cX0_measures 34 = .ok (.iload_n 2, 1) := by decide +kernel
theorem dX0_measures_35 : decode cX0_measures 35 = .ok (.iload 4, 2) := by decide +kernel
theorem dX0_measures_37 : decode cX0_measures 37 = .ok (.ishr, 1) := by decide +kernel
theorem dX0_measures_38 : decode cX0_measures 38 = .ok (.iconst 1, 1) := by decide +kernel
theorem dX0_measures_39 : decode cX0_measures 39 = .ok (.iand, 1) := by decide +kernel
theorem dX0_measures_40 : decode cX0_measures 40 = .ok (.iconst 1, 1) := by decide +kernel
theorem dX0_measures_41 : decode cX0_measures 41 = .ok (.if_icmp .ne 15, 3) := by decide +kernel
theorem dX0_measures_44 : decode cX0_measures 44 = .ok (.aload_n 0, 1) := by decide +kernel
theorem dX0_measures_45 : decode cX0_measures 45 = .ok (.getfield 27, 3) := by decide +kernel
theorem dX0_measures_48 : decode cX0_measures 48 = .ok (.iload_n 1, 1) := by decide +kernel
theorem dX0_measures_49 : decode cX0_measures 49 = .ok (.aaload, 1) := by decide +kernel
theorem dX0_measures_50 : decode cX0_measures 50 = .ok (.iload 4, 2) := by decide +kernel
theorem dX0_measures_52 : decode cX0_measures 52 = .ok (.iaload, 1) := by decide +kernel
theorem dX0_measures_53 : decode cX0_measures 53 = .ok (.goto 4, 3) := by decide +kernel
theorem dX0_measures_56 : decode cX0_measures 56 = .ok (.iconst 0, 1) := by decide +kernel
theorem dX0_measures_57 : decode cX0_measures 57 = .ok (.iadd, 1) := by decide +kernel
theorem dX0_measures_58 : decode cX0_measures 58 = .ok (.istore_n 3, 1) := by decide +kernel
theorem dX0_measures_59 : decode cX0_measures 59 = .ok (.iinc 4 1, 3) := by decide +kernel
theorem dX0_measures_62 : decode cX0_measures 62 = .ok (.goto (-38), 3) := by decide +kernel
theorem dX0_measures_65 : decode cX0_measures 65 = .ok (.aload_n 0, 1) := by decide +kernel
theorem dX0_measures_66 : decode cX0_measures 66 = .ok (.getfield 30, 3) := by decide +kernel
theorem dX0_measures_69 : decode cX0_measures 69 = .ok (.iload_n 1, 1) := by decide +kernel
theorem dX0_measures_70 : decode cX0_measures 70 = .ok (.aaload, 1) := by decide +kernel
theorem dX0_measures_71 : decode cX0_measures 71 = .ok (.iload_n 2, 1) := by decide +kernel
theorem dX0_measures_72 : decode cX0_measures 72 = .ok (.iload_n 3, 1) := by decide +kernel
theorem dX0_measures_73 : decode cX0_measures 73 = .ok (.iastore, 1) := by decide +kernel
theorem dX0_measures_74 : decode cX0_measures 74 = .ok (.aload_n 0, 1) := by decide +kernel
theorem dX0_measures_75 : decode cX0_measures 75 = .ok (.iload_n 2, 1) := by decide +kernel
theorem dX0_measures_76 : decode cX0_measures 76 = .ok (.iconst 1, 1) := by decide +kernel
theorem dX0_measures_77 : decode cX0_measures 77 = .ok (.iload_n 1, 1) := by decide +kernel
theorem dX0_measures_78 : decode cX0_measures 78 = .ok (.ishl, 1) := by decide +kernel
theorem dX0_measures_79 : decode cX0_measures 79 = .ok (.ior, 1) := by decide +kernel
theorem dX0_measures_80 : decode cX0_measures 80 = .ok (.invokevirtual 55, 3) := by decide +kernel
theorem dX0_measures_83 : decode cX0_measures 83 = .ok (.ifCond .eq 19, 3) := by decide +kernel
theorem dX0_measures_86 : decode cX0_measures 86 = .ok (.aload_n 0, 1) := by decide +kernel
theorem dX0_measures_87 : decode cX0_measures 87 = .ok (.getfield 33, 3) := by decide +kernel
theorem dX0_measures_90 : decode cX0_measures 90 = .ok (.iload_n 1, 1) := by decide +kernel
theorem dX0_measures_91 : decode cX0_measures 91 = .ok (.aload_n 0, 1) := by decide +kernel
theorem dX0_measures_92 : decode cX0_measures 92 = .ok (.getfield 33, 3) := by decide +kernel
theorem dX0_measures_95 : decode cX0_measures 95 = .ok (.iload_n 1, 1) := by decide +kernel
theorem dX0_measures_96 : decode cX0_measures 96 = .ok (.iaload, 1) := by decide +kernel
theorem dX0_measures_97 : decode cX0_measures 97 = .ok (.iload_n 3, 1) := by decide +kernel
theorem dX0_measures_98 : decode cX0_measures 98 = .ok (.invokestatic 59, 3) := by decide +kernel
theorem dX0_measures_101 : decode cX0_measures 101 = .ok (.iastore, 1) := by decide +kernel
theorem dX0_measures_102 : decode cX0_measures 102 = .ok (.iinc 2 1, 3) := by decide +kernel
theorem dX0_measures_105 : decode cX0_measures 105 = .ok (.goto (-96), 3) := by decide +kernel
theorem dX0_measures_108 : decode cX0_measures 108 = .ok (.return_, 1) := by decide +kernel
theorem dX0_isMan_0 : decode cX0_isMan 0 = .ok (.iload_n 1, 1) := by decide +kernel
theorem dX0_isMan_1 : decode cX0_isMan 1 = .ok (.ifCond .lt 15, 3) := by decide +kernel
theorem dX0_isMan_4 : decode cX0_isMan 4 = .ok (.iload_n 1, 1) := by decide +kernel
theorem dX0_isMan_5 : decode cX0_isMan 5 = .ok (.aload_n 0, 1) := by decide +kernel
theorem dX0_isMan_6 : decode cX0_isMan 6 = .ok (.getfield 36, 3) := by decide +kernel
theorem dX0_isMan_9 : decode cX0_isMan 9 = .ok (.if_icmp .ge 7, 3) := by decide +kernel
theorem dX0_isMan_12 : decode cX0_isMan 12 = .ok (.iconst 1, 1) := by decide +kernel
theorem dX0_isMan_13 : decode cX0_isMan 13 = .ok (.goto 4, 3) := by decide +kernel
theorem dX0_isMan_16 : decode cX0_isMan 16 = .ok (.iconst 0, 1) := by decide +kernel
theorem dX0_isMan_17 : decode cX0_isMan 17 = .ok (.ireturn, 1) := by decide +kernel
theorem dX0_areTwo_0 : decode cX0_areTwo 0 = .ok (.aload_n 0, 1) := by decide +kernel
theorem dX0_areTwo_1 : decode cX0_areTwo 1 = .ok (.iload_n 1, 1) := by decide +kernel
theorem dX0_areTwo_2 : decode cX0_areTwo 2 = .ok (.invokevirtual 65, 3) := by decide +kernel
theorem dX0_areTwo_5 : decode cX0_areTwo 5 = .ok (.ifCond .eq 20, 3) := by decide +kernel
theorem dX0_areTwo_8 : decode cX0_areTwo 8 = .ok (.aload_n 0, 1) := by decide +kernel
theorem dX0_areTwo_9 : decode cX0_areTwo 9 = .ok (.iload_n 2, 1) := by decide +kernel
theorem dX0_areTwo_10 : decode cX0_areTwo 10 = .ok (.invokevirtual 65, 3) := by decide +kernel
theorem dX0_areTwo_13 : decode cX0_areTwo 13 = .ok (.ifCond .eq 12, 3) := by decide +kernel
theorem dX0_areTwo_16 : decode cX0_areTwo 16 = .ok (.iload_n 1, 1) := by decide +kernel
theorem dX0_areTwo_17 : decode cX0_areTwo 17 = .ok (.iload_n 2, 1) := by decide +kernel
theorem dX0_areTwo_18 : decode cX0_areTwo 18 = .ok (.if_icmp .eq 7, 3) := by decide +kernel
theorem dX0_areTwo_21 : decode cX0_areTwo 21 = .ok (.iconst 1, 1) := by decide +kernel
theorem dX0_areTwo_22 : decode cX0_areTwo 22 = .ok (.goto 4, 3) := by decide +kernel
theorem dX0_areTwo_25 : decode cX0_areTwo 25 = .ok (.iconst 0, 1) := by decide +kernel
theorem dX0_areTwo_26 : decode cX0_areTwo 26 = .ok (.ireturn, 1) := by decide +kernel
theorem dX0_isShift_0 : decode cX0_isShift 0 = .ok (.iload_n 1, 1) := by decide +kernel
theorem dX0_isShift_1 : decode cX0_isShift 1 = .ok (.ifCond .lt 28, 3) := by decide +kernel
theorem dX0_isShift_4 : decode cX0_isShift 4 = .ok (.iload_n 1, 1) := by decide +kernel
theorem dX0_isShift_5 : decode cX0_isShift 5 = .ok (.iconst 1, 1) := by decide +kernel
theorem dX0_isShift_6 : decode cX0_isShift 6 = .ok (.aload_n 0, 1) := by decide +kernel
theorem dX0_isShift_7 : decode cX0_isShift 7 = .ok (.getfield 36, 3) := by decide +kernel
theorem dX0_isShift_10 : decode cX0_isShift 10 = .ok (.ishl, 1) := by decide +kernel
theorem dX0_isShift_11 : decode cX0_isShift 11 = .ok (.if_icmp .ge 18, 3) := by decide +kernel
theorem dX0_isShift_14 : decode cX0_isShift 14 = .ok (.iload_n 1, 1) := by decide +kernel
theorem dX0_isShift_15 : decode cX0_isShift 15 = .ok (.invokestatic 68, 3) := by decide +kernel
theorem dX0_isShift_18 : decode cX0_isShift 18 = .ok (.aload_n 0, 1) := by decide +kernel
theorem dX0_isShift_19 : decode cX0_isShift 19 = .ok (.getfield 9, 3) := by decide +kernel
theorem dX0_isShift_22 : decode cX0_isShift 22 = .ok (.if_icmp .gt 7, 3) := by decide +kernel
theorem dX0_isShift_25 : decode cX0_isShift 25 = .ok (.iconst 1, 1) := by decide +kernel
theorem dX0_isShift_26 : decode cX0_isShift 26 = .ok (.goto 4, 3) := by decide +kernel
theorem dX0_isShift_29 : decode cX0_isShift 29 = .ok (.iconst 0, 1) := by decide +kernel
theorem dX0_isShift_30 : decode cX0_isShift 30 = .ok (.ireturn, 1) := by decide +kernel
theorem dX0_pullOf_0 : decode cX0_pullOf 0 = .ok (.aload_n 0, 1) := by decide +kernel
theorem dX0_pullOf_1 : decode cX0_pullOf 1 = .ok (.getfield 30, 3) := by decide +kernel
theorem dX0_pullOf_4 : decode cX0_pullOf 4 = .ok (.iload_n 1, 1) := by decide +kernel
theorem dX0_pullOf_5 : decode cX0_pullOf 5 = .ok (.aaload, 1) := by decide +kernel
theorem dX0_pullOf_6 : decode cX0_pullOf 6 = .ok (.iload_n 2, 1) := by decide +kernel
theorem dX0_pullOf_7 : decode cX0_pullOf 7 = .ok (.iaload, 1) := by decide +kernel
theorem dX0_pullOf_8 : decode cX0_pullOf 8 = .ok (.ireturn, 1) := by decide +kernel
theorem dX0_aheadOfCut_0 : decode cX0_aheadOfCut 0 = .ok (.iload_n 1, 1) := by decide +kernel
theorem dX0_aheadOfCut_1 : decode cX0_aheadOfCut 1 = .ok (.aload_n 0, 1) := by decide +kernel
theorem dX0_aheadOfCut_2 : decode cX0_aheadOfCut 2 = .ok (.getfield 30, 3) := by decide +kernel
theorem dX0_aheadOfCut_5 : decode cX0_aheadOfCut 5 = .ok (.iload_n 2, 1) := by decide +kernel
theorem dX0_aheadOfCut_6 : decode cX0_aheadOfCut 6 = .ok (.aaload, 1) := by decide +kernel
theorem dX0_aheadOfCut_7 : decode cX0_aheadOfCut 7 = .ok (.iload_n 3, 1) := by decide +kernel
theorem dX0_aheadOfCut_8 : decode cX0_aheadOfCut 8 = .ok (.iaload, 1) := by decide +kernel
theorem dX0_aheadOfCut_9 : decode cX0_aheadOfCut 9 = .ok (.iadd, 1) := by decide +kernel
theorem dX0_aheadOfCut_10 : decode cX0_aheadOfCut 10 = .ok (.istore 4, 2) := by decide +kernel
theorem dX0_aheadOfCut_12 : decode cX0_aheadOfCut 12 = .ok (.iload 4, 2) := by decide +kernel
theorem dX0_aheadOfCut_14 : decode cX0_aheadOfCut 14 = .ok (.ifCond .ge 7, 3) := by decide +kernel
theorem dX0_aheadOfCut_17 : decode cX0_aheadOfCut 17 = .ok (.iconst 0, 1) := by decide +kernel
theorem dX0_aheadOfCut_18 : decode cX0_aheadOfCut 18 = .ok (.goto 19, 3) := by decide +kernel
theorem dX0_aheadOfCut_21 : decode cX0_aheadOfCut 21 = .ok (.iload 4, 2) := by decide +kernel
theorem dX0_aheadOfCut_23 : decode cX0_aheadOfCut 23 = .ok (.sipush 999, 3) := by decide +kernel
theorem dX0_aheadOfCut_26 : decode cX0_aheadOfCut 26 = .ok (.if_icmp .le 9, 3) := by decide +kernel
theorem dX0_aheadOfCut_29 : decode cX0_aheadOfCut 29 = .ok (.sipush 999, 3) := by decide +kernel
theorem dX0_aheadOfCut_32 : decode cX0_aheadOfCut 32 = .ok (.goto 5, 3) := by decide +kernel
theorem dX0_aheadOfCut_35 : decode cX0_aheadOfCut 35 = .ok (.iload 4, 2) := by decide +kernel
theorem dX0_aheadOfCut_37 : decode cX0_aheadOfCut 37 = .ok (.ireturn, 1) := by decide +kernel
theorem dX0_cutOf_0 : decode cX0_cutOf 0 = .ok (.aload_n 0, 1) := by decide +kernel
theorem dX0_cutOf_1 : decode cX0_cutOf 1 = .ok (.iload_n 1, 1) := by decide +kernel
theorem dX0_cutOf_2 : decode cX0_cutOf 2 = .ok (.iload_n 2, 1) := by decide +kernel
theorem dX0_cutOf_3 : decode cX0_cutOf 3 = .ok (.iload_n 3, 1) := by decide +kernel
theorem dX0_cutOf_4 : decode cX0_cutOf 4 = .ok (.invokevirtual 74, 3) := by decide +kernel
theorem dX0_cutOf_7 : decode cX0_cutOf 7 = .ok (.iconst 2, 1) := by decide +kernel
theorem dX0_cutOf_8 : decode cX0_cutOf 8 = .ok (.idiv, 1) := by decide +kernel
theorem dX0_cutOf_9 : decode cX0_cutOf 9 = .ok (.ireturn, 1) := by decide +kernel
theorem dX0_coinsAtMost_0 : decode cX0_coinsAtMost 0 = .ok (.sipush 999, 3) := by decide +kernel
theorem dX0_coinsAtMost_3 : decode cX0_coinsAtMost 3 = .ok (.iload_n 1, 1) := by decide +kernel
theorem dX0_coinsAtMost_4 : decode cX0_coinsAtMost 4 = .ok (.aload_n 0, 1) := by decide +kernel
theorem dX0_coinsAtMost_5 : decode cX0_coinsAtMost 5 = .ok (.getfield 33, 3) := by decide +kernel
theorem dX0_coinsAtMost_8 : decode cX0_coinsAtMost 8 = .ok (.iload_n 2, 1) := by decide +kernel
theorem dX0_coinsAtMost_9 : decode cX0_coinsAtMost 9 = .ok (.iaload, 1) := by decide +kernel
theorem dX0_coinsAtMost_10 : decode cX0_coinsAtMost 10 = .ok (.iadd, 1) := by decide +kernel
theorem dX0_coinsAtMost_11 : decode cX0_coinsAtMost 11 = .ok (.invokestatic 78, 3) := by decide +kernel
theorem dX0_coinsAtMost_14 : decode cX0_coinsAtMost 14 = .ok (.iconst 2, 1) := by decide +kernel
theorem dX0_coinsAtMost_15 : decode cX0_coinsAtMost 15 = .ok (.idiv, 1) := by decide +kernel
theorem dX0_coinsAtMost_16 : decode cX0_coinsAtMost 16 = .ok (.istore_n 3, 1) := by decide +kernel
theorem dX0_coinsAtMost_17 : decode cX0_coinsAtMost 17 = .ok (.iload_n 3, 1) := by decide +kernel
theorem dX0_coinsAtMost_18 : decode cX0_coinsAtMost 18 = .ok (.aload_n 0, 1) := by decide +kernel
theorem dX0_coinsAtMost_19 : decode cX0_coinsAtMost 19 = .ok (.getfield 15, 3) := by decide +kernel
theorem dX0_coinsAtMost_22 : decode cX0_coinsAtMost 22 = .ok (.if_icmp .ge 7, 3) := by decide +kernel
theorem dX0_coinsAtMost_25 : decode cX0_coinsAtMost 25 = .ok (.iconst 0, 1) := by decide +kernel
theorem dX0_coinsAtMost_26 : decode cX0_coinsAtMost 26 = .ok (.goto 4, 3) := by decide +kernel
theorem dX0_coinsAtMost_29 : decode cX0_coinsAtMost 29 = .ok (.iload_n 3, 1) := by decide +kernel
theorem dX0_coinsAtMost_30 : decode cX0_coinsAtMost 30 = .ok (.ireturn, 1) := by decide +kernel
theorem dX0_coinsOf_0 : decode cX0_coinsOf 0 = .ok (.iload_n 3, 1) := by decide +kernel
theorem dX0_coinsOf_1 : decode cX0_coinsOf 1 = .ok (.iload_n 2, 1) := by decide +kernel
theorem dX0_coinsOf_2 : decode cX0_coinsOf 2 = .ok (.ishr, 1) := by decide +kernel
theorem dX0_coinsOf_3 : decode cX0_coinsOf 3 = .ok (.iconst 1, 1) := by decide +kernel
theorem dX0_coinsOf_4 : decode cX0_coinsOf 4 = .ok (.iand, 1) := by decide +kernel
theorem dX0_coinsOf_5 : decode cX0_coinsOf 5 = .ok (.ifCond .ne 5, 3) := by decide +kernel
theorem dX0_coinsOf_8 : decode cX0_coinsOf 8 = .ok (.iconst 0, 1) := by decide +kernel
theorem dX0_coinsOf_9 : decode cX0_coinsOf 9 = .ok (.ireturn, 1) := by decide +kernel
theorem dX0_coinsOf_10 : decode cX0_coinsOf 10 = .ok (.aload_n 0, 1) := by decide +kernel
theorem dX0_coinsOf_11 : decode cX0_coinsOf 11 = .ok (.iload_n 1, 1) := by decide +kernel
theorem dX0_coinsOf_12 : decode cX0_coinsOf 12 = .ok (.iload_n 2, 1) := by decide +kernel
theorem dX0_coinsOf_13 : decode cX0_coinsOf 13 = .ok (.iload_n 3, 1) := by decide +kernel
theorem dX0_coinsOf_14 : decode cX0_coinsOf 14 = .ok (.invokevirtual 74, 3) := by decide +kernel
theorem dX0_coinsOf_17 : decode cX0_coinsOf 17 = .ok (.iconst 2, 1) := by decide +kernel
theorem dX0_coinsOf_18 : decode cX0_coinsOf 18 = .ok (.idiv, 1) := by decide +kernel
theorem dX0_coinsOf_19 : decode cX0_coinsOf 19 = .ok (.istore 4, 2) := by decide +kernel
theorem dX0_coinsOf_21 : decode cX0_coinsOf 21 = .ok (.iload 4, 2) := by decide +kernel
theorem dX0_coinsOf_23 : decode cX0_coinsOf 23 = .ok (.aload_n 0, 1) := by decide +kernel
theorem dX0_coinsOf_24 : decode cX0_coinsOf 24 = .ok (.getfield 15, 3) := by decide +kernel
theorem dX0_coinsOf_27 : decode cX0_coinsOf 27 = .ok (.if_icmp .ge 7, 3) := by decide +kernel
theorem dX0_coinsOf_30 : decode cX0_coinsOf 30 = .ok (.iconst 0, 1) := by decide +kernel
theorem dX0_coinsOf_31 : decode cX0_coinsOf 31 = .ok (.goto 5, 3) := by decide +kernel
theorem dX0_coinsOf_34 : decode cX0_coinsOf 34 = .ok (.iload 4, 2) := by decide +kernel
theorem dX0_coinsOf_36 : decode cX0_coinsOf 36 = .ok (.ireturn, 1) := by decide +kernel
theorem dX0_brings_0 : decode cX0_brings 0 = .ok (.iconst 0, 1) := by decide +kernel
theorem dX0_brings_1 : decode cX0_brings 1 = .ok (.istore_n 3, 1) := by decide +kernel
theorem dX0_brings_2 : decode cX0_brings 2 = .ok (.iconst 0, 1) := by decide +kernel
theorem dX0_brings_3 : decode cX0_brings 3 = .ok (.istore 4, 2) := by decide +kernel
theorem dX0_brings_5 : decode cX0_brings 5 = .ok (.iload 4, 2) := by decide +kernel
theorem dX0_brings_7 : decode cX0_brings 7 = .ok (.aload_n 0, 1) := by decide +kernel
theorem dX0_brings_8 : decode cX0_brings 8 = .ok (.getfield 36, 3) := by decide +kernel
theorem dX0_brings_11 : decode cX0_brings 11 = .ok (.if_icmp .ge 23, 3) := by decide +kernel
theorem dX0_brings_14 : decode cX0_brings 14 = .ok (.iload_n 3, 1) := by decide +kernel
theorem dX0_brings_15 : decode cX0_brings 15 = .ok (.aload_n 0, 1) := by decide +kernel
theorem dX0_brings_16 : decode cX0_brings 16 = .ok (.aload_n 1, 1) := by decide +kernel
theorem dX0_brings_17 : decode cX0_brings 17 = .ok (.iload 4, 2) := by decide +kernel
theorem dX0_brings_19 : decode cX0_brings 19 = .ok (.iaload, 1) := by decide +kernel
theorem dX0_brings_20 : decode cX0_brings 20 = .ok (.iload 4, 2) := by decide +kernel
theorem dX0_brings_22 : decode cX0_brings 22 = .ok (.iload_n 2, 1) := by decide +kernel
theorem dX0_brings_23 : decode cX0_brings 23 = .ok (.invokevirtual 81, 3) := by decide +kernel
theorem dX0_brings_26 : decode cX0_brings 26 = .ok (.iadd, 1) := by decide +kernel
theorem dX0_brings_27 : decode cX0_brings 27 = .ok (.istore_n 3, 1) := by decide +kernel
theorem dX0_brings_28 : decode cX0_brings 28 = .ok (.iinc 4 1, 3) := by decide +kernel
theorem dX0_brings_31 : decode cX0_brings 31 = .ok (.goto (-26), 3) := by decide +kernel
theorem dX0_brings_34 : decode cX0_brings 34 = .ok (.iload_n 3, 1) := by decide +kernel
theorem dX0_brings_35 : decode cX0_brings 35 = .ok (.ireturn, 1) := by decide +kernel
theorem dX0_lives_0 : decode cX0_lives 0 = .ok (.iconst 0, 1) := by decide +kernel
theorem dX0_lives_1 : decode cX0_lives 1 = .ok (.istore 4, 2) := by decide +kernel
theorem dX0_lives_3 : decode cX0_lives 3 = .ok (.iload 4, 2) := by decide +kernel
theorem dX0_lives_5 : decode cX0_lives 5 = .ok (.aload_n 0, 1) := by decide +kernel
theorem dX0_lives_6 : decode cX0_lives 6 = .ok (.getfield 36, 3) := by decide +kernel
theorem dX0_lives_9 : decode cX0_lives 9 = .ok (.if_icmp .ge 68, 3) := by decide +kernel
theorem dX0_lives_12 : decode cX0_lives 12 = .ok (.iload_n 3, 1) := by decide +kernel
theorem dX0_lives_13 : decode cX0_lives 13 = .ok (.iload 4, 2) := by decide +kernel
theorem dX0_lives_15 : decode cX0_lives 15 = .ok (.ishr, 1) := by decide +kernel
theorem dX0_lives_16 : decode cX0_lives 16 = .ok (.iconst 1, 1) := by decide +kernel
theorem dX0_lives_17 : decode cX0_lives 17 = .ok (.iand, 1) := by decide +kernel
theorem dX0_lives_18 : decode cX0_lives 18 = .ok (.iconst 1, 1) := by decide +kernel
theorem dX0_lives_19 : decode cX0_lives 19 = .ok (.if_icmp .ne 30, 3) := by decide +kernel
theorem dX0_lives_22 : decode cX0_lives 22 = .ok (.aload_n 0, 1) := by decide +kernel
theorem dX0_lives_23 : decode cX0_lives 23 = .ok (.aload_n 1, 1) := by decide +kernel
theorem dX0_lives_24 : decode cX0_lives 24 = .ok (.iload 4, 2) := by decide +kernel
theorem dX0_lives_26 : decode cX0_lives 26 = .ok (.iaload, 1) := by decide +kernel
theorem dX0_lives_27 : decode cX0_lives 27 = .ok (.iload 4, 2) := by decide +kernel
theorem dX0_lives_29 : decode cX0_lives 29 = .ok (.iload_n 3, 1) := by decide +kernel
theorem dX0_lives_30 : decode cX0_lives 30 = .ok (.invokevirtual 74, 3) := by decide +kernel
theorem dX0_lives_33 : decode cX0_lives 33 = .ok (.istore 5, 2) := by decide +kernel
theorem dX0_lives_35 : decode cX0_lives 35 = .ok (.aload_n 2, 1) := by decide +kernel
theorem dX0_lives_36 : decode cX0_lives 36 = .ok (.iload 4, 2) := by decide +kernel
theorem dX0_lives_38 : decode cX0_lives 38 = .ok (.iload 5, 2) := by decide +kernel
theorem dX0_lives_40 : decode cX0_lives 40 = .ok (.iload 5, 2) := by decide +kernel
theorem dX0_lives_42 : decode cX0_lives 42 = .ok (.iconst 2, 1) := by decide +kernel
theorem dX0_lives_43 : decode cX0_lives 43 = .ok (.idiv, 1) := by decide +kernel
theorem dX0_lives_44 : decode cX0_lives 44 = .ok (.isub, 1) := by decide +kernel
theorem dX0_lives_45 : decode cX0_lives 45 = .ok (.iastore, 1) := by decide +kernel
theorem dX0_lives_46 : decode cX0_lives 46 = .ok (.goto 25, 3) := by decide +kernel
theorem dX0_lives_49 : decode cX0_lives 49 = .ok (.aload_n 2, 1) := by decide +kernel
theorem dX0_lives_50 : decode cX0_lives 50 = .ok (.iload 4, 2) := by decide +kernel
theorem dX0_lives_52 : decode cX0_lives 52 = .ok (.sipush 999, 3) := by decide +kernel
theorem dX0_lives_55 : decode cX0_lives 55 = .ok (.aload_n 1, 1) := by decide +kernel
theorem dX0_lives_56 : decode cX0_lives 56 = .ok (.iload 4, 2) := by decide +kernel
theorem dX0_lives_58 : decode cX0_lives 58 = .ok (.iaload, 1) := by decide +kernel
theorem dX0_lives_59 : decode cX0_lives 59 = .ok (.aload_n 0, 1) := by decide +kernel
theorem dX0_lives_60 : decode cX0_lives 60 = .ok (.getfield 22, 3) := by decide +kernel
theorem dX0_lives_63 : decode cX0_lives 63 = .ok (.iload 4, 2) := by decide +kernel
theorem dX0_lives_65 : decode cX0_lives 65 = .ok (.iaload, 1) := by decide +kernel
theorem dX0_lives_66 : decode cX0_lives 66 = .ok (.iadd, 1) := by decide +kernel
theorem dX0_lives_67 : decode cX0_lives 67 = .ok (.invokestatic 78, 3) := by decide +kernel
theorem dX0_lives_70 : decode cX0_lives 70 = .ok (.iastore, 1) := by decide +kernel
theorem dX0_lives_71 : decode cX0_lives 71 = .ok (.iinc 4 1, 3) := by decide +kernel
theorem dX0_lives_74 : decode cX0_lives 74 = .ok (.goto (-71), 3) := by decide +kernel
theorem dX0_lives_77 : decode cX0_lives 77 = .ok (.return_, 1) := by decide +kernel
theorem dX1_init_0 : decode cX1_init 0 = .ok (.aload_n 0, 1) := by decide +kernel
theorem dX1_init_1 : decode cX1_init 1 = .ok (.invokespecial 1, 3) := by decide +kernel
theorem dX1_init_4 : decode cX1_init 4 = .ok (.return_, 1) := by decide +kernel
theorem dX1_worth_0 : decode cX1_worth 0 = .ok (.aload_n 0, 1) := by decide +kernel
theorem dX1_worth_1 : decode cX1_worth 1 = .ok (.dup, 1) := by decide +kernel
theorem dX1_worth_2 : decode cX1_worth 2 = .ok (.getfield 7, 3) := by decide +kernel
theorem dX1_worth_5 : decode cX1_worth 5 = .ok (.ldc2_w 13, 3) := by decide +kernel
theorem dX1_worth_8 : decode cX1_worth 8 = .ok (.ladd, 1) := by decide +kernel
theorem dX1_worth_9 : decode cX1_worth 9 = .ok (.putfield 7, 3) := by decide +kernel
theorem dX1_worth_12 : decode cX1_worth 12 = .ok (.aload_n 0, 1) := by decide +kernel
theorem dX1_worth_13 : decode cX1_worth 13 = .ok (.aload_n 1, 1) := by decide +kernel
theorem dX1_worth_14 : decode cX1_worth 14 = .ok (.aload_n 2, 1) := by decide +kernel
theorem dX1_worth_15 : decode cX1_worth 15 = .ok (.iload_n 3, 1) := by decide +kernel
theorem dX1_worth_16 : decode cX1_worth 16 = .ok (.invokespecial 15, 3) := by decide +kernel
theorem dX1_worth_19 : decode cX1_worth 19 = .ok (.aload_n 2, 1) := by decide +kernel
theorem dX1_worth_20 : decode cX1_worth 20 = .ok (.getfield 19, 3) := by decide +kernel
theorem dX1_worth_23 : decode cX1_worth 23 = .ok (.iadd, 1) := by decide +kernel
theorem dX1_worth_24 : decode cX1_worth 24 = .ok (.ireturn, 1) := by decide +kernel
theorem dX2_init_0 : decode cX2_init 0 = .ok (.aload_n 0, 1) := by decide +kernel
theorem dX2_init_1 : decode cX2_init 1 = .ok (.invokespecial 1, 3) := by decide +kernel
theorem dX2_init_4 : decode cX2_init 4 = .ok (.return_, 1) := by decide +kernel
theorem dX2_worth_0 : decode cX2_worth 0 = .ok (.aload_n 0, 1) := by decide +kernel
theorem dX2_worth_1 : decode cX2_worth 1 = .ok (.dup, 1) := by decide +kernel
theorem dX2_worth_2 : decode cX2_worth 2 = .ok (.getfield 7, 3) := by decide +kernel
theorem dX2_worth_5 : decode cX2_worth 5 = .ok (.lconst 1, 1) := by decide +kernel
theorem dX2_worth_6 : decode cX2_worth 6 = .ok (.ladd, 1) := by decide +kernel
theorem dX2_worth_7 : decode cX2_worth 7 = .ok (.putfield 7, 3) := by decide +kernel
theorem dX2_worth_10 : decode cX2_worth 10 = .ok (.aload_n 2, 1) := by decide +kernel
theorem dX2_worth_11 : decode cX2_worth 11 = .ok (.getfield 13, 3) := by decide +kernel
theorem dX2_worth_14 : decode cX2_worth 14 = .ok (.iload_n 3, 1) := by decide +kernel
theorem dX2_worth_15 : decode cX2_worth 15 = .ok (.iaload, 1) := by decide +kernel
theorem dX2_worth_16 : decode cX2_worth 16 = .ok (.iconst 2, 1) := by decide +kernel
theorem dX2_worth_17 : decode cX2_worth 17 = .ok (.idiv, 1) := by decide +kernel
theorem dX2_worth_18 : decode cX2_worth 18 = .ok (.ireturn, 1) := by decide +kernel
theorem dX3_init_0 : decode cX3_init 0 = .ok (.aload_n 0, 1) := by decide +kernel
theorem dX3_init_1 : decode cX3_init 1 = .ok (.invokespecial 3, 3) := by decide +kernel
theorem dX3_init_4 : decode cX3_init 4 = .ok (.aload_n 0, 1) := by decide +kernel
theorem dX3_init_5 : decode cX3_init 5 = .ok (.bipush 6, 2) := by decide +kernel
theorem dX3_init_7 : decode cX3_init 7 = .ok (.newarray .int, 2) := by decide +kernel
theorem dX3_init_9 : decode cX3_init 9 = .ok (.putfield 9, 3) := by decide +kernel
theorem dX3_init_12 : decode cX3_init 12 = .ok (.aload_n 0, 1) := by decide +kernel
theorem dX3_init_13 : decode cX3_init 13 = .ok (.bipush 6, 2) := by decide +kernel
theorem dX3_init_15 : decode cX3_init 15 = .ok (.newarray .int, 2) := by decide +kernel
theorem dX3_init_17 : decode cX3_init 17 = .ok (.putfield 15, 3) := by decide +kernel
theorem dX3_init_20 : decode cX3_init 20 = .ok (.return_, 1) := by decide +kernel
theorem dX3_searches_0 : decode cX3_searches 0 = .ok (.aload_n 0, 1) := by decide +kernel
theorem dX3_searches_1 : decode cX3_searches 1 = .ok (.iconst (-1), 1) := by decide +kernel
theorem dX3_searches_2 : decode cX3_searches 2 = .ok (.putfield 18, 3) := by decide +kernel
theorem dX3_searches_5 : decode cX3_searches 5 = .ok (.aload_n 0, 1) := by decide +kernel
theorem dX3_searches_6 : decode cX3_searches 6 = .ok (.getfield 15, 3) := by decide +kernel
theorem dX3_searches_9 : decode cX3_searches 9 = .ok (.bipush (-9), 2) := by decide +kernel
theorem dX3_searches_11 : decode cX3_searches 11 = .ok (.invokestatic 22, 3) := by decide +kernel
theorem dX3_searches_14 : decode cX3_searches 14 = .ok (.aload_n 0, 1) := by decide +kernel
theorem dX3_searches_15 : decode cX3_searches 15 = .ok (.aload_n 1, 1) := by decide +kernel
theorem dX3_searches_16 : decode cX3_searches 16 = .ok (.iconst 0, 1) := by decide +kernel
theorem dX3_searches_17 : decode cX3_searches 17 = .ok (.iconst 0, 1) := by decide +kernel
theorem dX3_searches_18 : decode cX3_searches 18 = .ok (.invokevirtual 28, 3) := by decide +kernel
theorem dX3_searches_21 : decode cX3_searches 21 = .ok (.return_, 1) := by decide +kernel
theorem dX3_looks_0 : decode cX3_looks 0 = .ok (.iload_n 2, 1) := by decide +kernel
theorem dX3_looks_1 : decode cX3_looks 1 = .ok (.aload_n 1, 1) := by decide +kernel
theorem dX3_looks_2 : decode cX3_looks 2 = .ok (.getfield 32, 3) := by decide +kernel
theorem dX3_looks_5 : decode cX3_looks 5 = .ok (.if_icmp .ge 9, 3) := by decide +kernel
theorem dX3_looks_8 : decode cX3_looks 8 = .ok (.iload_n 2, 1) := by decide +kernel
theorem dX3_looks_9 : decode cX3_looks 9 = .ok (.bipush 6, 2) := by decide +kernel
theorem dX3_looks_11 : decode cX3_looks 11 = .ok (.if_icmp .lt 9, 3) := by decide +kernel
theorem dX3_looks_14 : decode cX3_looks 14 = .ok (.aload_n 0, 1) := by decide +kernel
theorem dX3_looks_15 : decode cX3_looks 15 = .ok (.iload_n 3, 1) := by decide +kernel
theorem dX3_looks_16 : decode cX3_looks 16 = .ok (.invokevirtual 37, 3) := by decide +kernel
theorem dX3_looks_19 : decode cX3_looks 19 = .ok (.return_, 1) := by decide +kernel
theorem dX3_looks_20 : decode cX3_looks 20 = .ok (.aload_n 0, 1) := by decide +kernel
theorem dX3_looks_21 : decode cX3_looks 21 = .ok (.aload_n 1, 1) := by decide +kernel
theorem dX3_looks_22 : decode cX3_looks 22 = .ok (.iload_n 2, 1) := by decide +kernel
theorem dX3_looks_23 : decode cX3_looks 23 = .ok (.iconst 1, 1) := by decide +kernel
theorem dX3_looks_24 : decode cX3_looks 24 = .ok (.iadd, 1) := by decide +kernel
theorem dX3_looks_25 : decode cX3_looks 25 = .ok (.iload_n 3, 1) := by decide +kernel
theorem dX3_looks_26 : decode cX3_looks 26 = .ok (.invokevirtual 28, 3) := by decide +kernel
theorem dX3_looks_29 : decode cX3_looks 29 = .ok (.aload_n 0, 1) := by decide +kernel
theorem dX3_looks_30 : decode cX3_looks 30 = .ok (.getfield 15, 3) := by decide +kernel
theorem dX3_looks_33 : decode cX3_looks 33 = .ok (.iload_n 2, 1) := by decide +kernel
theorem dX3_looks_34 : decode cX3_looks 34 = .ok (.iaload, 1) := by decide +kernel
theorem dX3_looks_35 : decode cX3_looks 35 = .ok (.bipush (-9), 2) := by decide +kernel
theorem dX3_looks_37 : decode cX3_looks 37 = .ok (.if_icmp .eq 4, 3) := by decide +kernel
theorem dX3_looks_40 : decode cX3_looks 40 = .ok (.return_, 1) := by decide +kernel
theorem dX3_looks_41 : decode cX3_looks 41 = .ok (.iload_n 2, 1) := by decide +kernel
theorem dX3_looks_42 : decode cX3_looks 42 = .ok (.iconst 1, 1) := by decide +kernel
theorem dX3_looks_43 : decode cX3_looks 43 = .ok (.iadd, 1) := by decide +kernel
theorem dX3_looks_44 : decode cX3_looks 44 = .ok (.istore 4, 2) := by decide +kernel
theorem dX3_looks_46 : decode cX3_looks 46 = .ok (.iload 4, 2) := by decide +kernel
theorem dX3_looks_48 : decode cX3_looks 48 = .ok (.aload_n 1, 1) := by decide +kernel
theorem dX3_looks_49 : decode cX3_looks 49 = .ok (.getfield 32, 3) := by decide +kernel
theorem dX3_looks_52 : decode cX3_looks 52 = .ok (.if_icmp .ge 73, 3) := by decide +kernel
theorem dX3_looks_55 : decode cX3_looks 55 = .ok (.aload_n 0, 1) := by decide +kernel
theorem dX3_looks_56 : decode cX3_looks 56 = .ok (.getfield 15, 3) := by decide +kernel
theorem dX3_looks_59 : decode cX3_looks 59 = .ok (.iload 4, 2) := by decide +kernel
theorem dX3_looks_61 : decode cX3_looks 61 = .ok (.iaload, 1) := by decide +kernel
theorem dX3_looks_62 : decode cX3_looks 62 = .ok (.bipush (-9), 2) := by decide +kernel
theorem dX3_looks_64 : decode cX3_looks 64 = .ok (.if_icmp .ne 55, 3) := by decide +kernel
theorem dX3_looks_67 : decode cX3_looks 67 = .ok (.aload_n 0, 1) := by decide +kernel
theorem dX3_looks_68 : decode cX3_looks 68 = .ok (.getfield 15, 3) := by decide +kernel
theorem dX3_looks_71 : decode cX3_looks 71 = .ok (.iload_n 2, 1) := by decide +kernel
theorem dX3_looks_72 : decode cX3_looks 72 = .ok (.iload 4, 2) := by decide +kernel
theorem dX3_looks_74 : decode cX3_looks 74 = .ok (.iastore, 1) := by decide +kernel
theorem dX3_looks_75 : decode cX3_looks 75 = .ok (.aload_n 0, 1) := by decide +kernel
theorem dX3_looks_76 : decode cX3_looks 76 = .ok (.getfield 15, 3) := by decide +kernel
theorem dX3_looks_79 : decode cX3_looks 79 = .ok (.iload 4, 2) := by decide +kernel
theorem dX3_looks_81 : decode cX3_looks 81 = .ok (.iload_n 2, 1) := by decide +kernel
theorem dX3_looks_82 : decode cX3_looks 82 = .ok (.iastore, 1) := by decide +kernel
theorem dX3_looks_83 : decode cX3_looks 83 = .ok (.aload_n 0, 1) := by decide +kernel
theorem dX3_looks_84 : decode cX3_looks 84 = .ok (.aload_n 1, 1) := by decide +kernel
theorem dX3_looks_85 : decode cX3_looks 85 = .ok (.iload_n 2, 1) := by decide +kernel
theorem dX3_looks_86 : decode cX3_looks 86 = .ok (.iconst 1, 1) := by decide +kernel
theorem dX3_looks_87 : decode cX3_looks 87 = .ok (.iadd, 1) := by decide +kernel
theorem dX3_looks_88 : decode cX3_looks 88 = .ok (.iload_n 3, 1) := by decide +kernel
theorem dX3_looks_89 : decode cX3_looks 89 = .ok (.aload_n 1, 1) := by decide +kernel
theorem dX3_looks_90 : decode cX3_looks 90 = .ok (.getfield 41, 3) := by decide +kernel
theorem dX3_looks_93 : decode cX3_looks 93 = .ok (.iload_n 2, 1) := by decide +kernel
theorem dX3_looks_94 : decode cX3_looks 94 = .ok (.aaload, 1) := by decide +kernel
theorem dX3_looks_95 : decode cX3_looks 95 = .ok (.iload 4, 2) := by decide +kernel
theorem dX3_looks_97 : decode cX3_looks 97 = .ok (.iaload, 1) := by decide +kernel
theorem dX3_looks_98 : decode cX3_looks 98 = .ok (.iadd, 1) := by decide +kernel
theorem dX3_looks_99 : decode cX3_looks 99 = .ok (.invokevirtual 28, 3) := by decide +kernel
theorem dX3_looks_102 : decode cX3_looks 102 = .ok (.aload_n 0, 1) := by decide +kernel
theorem dX3_looks_103 : decode cX3_looks 103 = .ok (.getfield 15, 3) := by decide +kernel
theorem dX3_looks_106 : decode cX3_looks 106 = .ok (.iload_n 2, 1) := by decide +kernel
theorem dX3_looks_107 : decode cX3_looks 107 = .ok (.bipush (-9), 2) := by decide +kernel
theorem dX3_looks_109 : decode cX3_looks 109 = .ok (.iastore, 1) := by decide +kernel
theorem dX3_looks_110 : decode cX3_looks 110 = .ok (.aload_n 0, 1) := by decide +kernel
theorem dX3_looks_111 : decode cX3_looks 111 = .ok (.getfield 15, 3) := by decide +kernel
theorem dX3_looks_114 : decode cX3_looks 114 = .ok (.iload 4, 2) := by decide +kernel
theorem dX3_looks_116 : decode cX3_looks 116 = .ok (.bipush (-9), 2) := by decide +kernel
theorem dX3_looks_118 : decode cX3_looks 118 = .ok (.iastore, 1) := by decide +kernel
theorem dX3_looks_119 : decode cX3_looks 119 = .ok (.iinc 4 1, 3) := by decide +kernel
theorem dX3_looks_122 : decode cX3_looks 122 = .ok (.goto (-76), 3) := by decide +kernel
theorem dX3_looks_125 : decode cX3_looks 125 = .ok (.return_, 1) := by decide +kernel
theorem dX3_takes_0 : decode cX3_takes 0 = .ok (.iload_n 1, 1) := by decide +kernel
theorem dX3_takes_1 : decode cX3_takes 1 = .ok (.aload_n 0, 1) := by decide +kernel
theorem dX3_takes_2 : decode cX3_takes 2 = .ok (.getfield 18, 3) := by decide +kernel
theorem dX3_takes_5 : decode cX3_takes 5 = .ok (.if_icmp .le 23, 3) := by decide +kernel
theorem dX3_takes_8 : decode cX3_takes 8 = .ok (.aload_n 0, 1) := by decide +kernel
theorem dX3_takes_9 : decode cX3_takes 9 = .ok (.iload_n 1, 1) := by decide +kernel
theorem dX3_takes_10 : decode cX3_takes 10 = .ok (.putfield 18, 3) := by decide +kernel
theorem dX3_takes_13 : decode cX3_takes 13 = .ok (.aload_n 0, 1) := by decide +kernel
theorem dX3_takes_14 : decode cX3_takes 14 = .ok (.getfield 15, 3) := by decide +kernel
theorem dX3_takes_17 : decode cX3_takes 17 = .ok (.iconst 0, 1) := by decide +kernel
theorem dX3_takes_18 : decode cX3_takes 18 = .ok (.aload_n 0, 1) := by decide +kernel
theorem dX3_takes_19 : decode cX3_takes 19 = .ok (.getfield 9, 3) := by decide +kernel
theorem dX3_takes_22 : decode cX3_takes 22 = .ok (.iconst 0, 1) := by decide +kernel
theorem dX3_takes_23 : decode cX3_takes 23 = .ok (.bipush 6, 2) := by decide +kernel
theorem dX3_takes_25 : decode cX3_takes 25 = .ok (.invokestatic 45, 3) := by decide +kernel
theorem dX3_takes_28 : decode cX3_takes 28 = .ok (.return_, 1) := by decide +kernel
theorem dX4_init_0 : decode cX4_init 0 = .ok (.aload_n 0, 1) := by decide +kernel
theorem dX4_init_1 : decode cX4_init 1 = .ok (.invokespecial 3, 3) := by decide +kernel
theorem dX4_init_4 : decode cX4_init 4 = .ok (.aload_n 0, 1) := by decide +kernel
theorem dX4_init_5 : decode cX4_init 5 = .ok (.bipush 6, 2) := by decide +kernel
theorem dX4_init_7 : decode cX4_init 7 = .ok (.newarray .int, 2) := by decide +kernel
theorem dX4_init_9 : decode cX4_init 9 = .ok (.putfield 9, 3) := by decide +kernel
theorem dX4_init_12 : decode cX4_init 12 = .ok (.aload_n 0, 1) := by decide +kernel
theorem dX4_init_13 : decode cX4_init 13 = .ok (.bipush 6, 2) := by decide +kernel
theorem dX4_init_15 : decode cX4_init 15 = .ok (.newarray .int, 2) := by decide +kernel
theorem dX4_init_17 : decode cX4_init 17 = .ok (.putfield 15, 3) := by decide +kernel
theorem dX4_init_20 : decode cX4_init 20 = .ok (.aload_n 0, 1) := by decide +kernel
theorem dX4_init_21 : decode cX4_init 21 = .ok (.sipush 140, 3) := by decide +kernel
theorem dX4_init_24 : decode cX4_init 24 = .ok (.newarray .int, 2) := by decide +kernel
theorem dX4_init_26 : decode cX4_init 26 = .ok (.putfield 18, 3) := by decide +kernel
theorem dX4_init_29 : decode cX4_init 29 = .ok (.return_, 1) := by decide +kernel
theorem dX4_begins_0 : decode cX4_begins 0 = .ok (.aload_n 1, 1) := by decide +kernel
theorem dX4_begins_1 : decode cX4_begins 1 = .ok (.getfield 21, 3) := by decide +kernel
theorem dX4_begins_4 : decode cX4_begins 4 = .ok (.iconst 0, 1) := by decide +kernel
theorem dX4_begins_5 : decode cX4_begins 5 = .ok (.aload_n 0, 1) := by decide +kernel
theorem dX4_begins_6 : decode cX4_begins 6 = .ok (.getfield 9, 3) := by decide +kernel
theorem dX4_begins_9 : decode cX4_begins 9 = .ok (.iconst 0, 1) := by decide +kernel
theorem dX4_begins_10 : decode cX4_begins 10 = .ok (.bipush 6, 2) := by decide +kernel
theorem dX4_begins_12 : decode cX4_begins 12 = .ok (.invokestatic 24, 3) := by decide +kernel
theorem dX4_begins_15 : decode cX4_begins 15 = .ok (.aload_n 0, 1) := by decide +kernel
theorem dX4_begins_16 : decode cX4_begins 16 = .ok (.getfield 15, 3) := by decide +kernel
theorem dX4_begins_19 : decode cX4_begins 19 = .ok (.iconst 0, 1) := by decide +kernel
theorem dX4_begins_20 : decode cX4_begins 20 = .ok (.invokestatic 30, 3) := by decide +kernel
theorem dX4_begins_23 : decode cX4_begins 23 = .ok (.aload_n 0, 1) := by decide +kernel
theorem dX4_begins_24 : decode cX4_begins 24 = .ok (.iconst 0, 1) := by decide +kernel
theorem dX4_begins_25 : decode cX4_begins 25 = .ok (.putfield 36, 3) := by decide +kernel
theorem dX4_begins_28 : decode cX4_begins 28 = .ok (.aload_n 0, 1) := by decide +kernel
theorem dX4_begins_29 : decode cX4_begins 29 = .ok (.iconst 0, 1) := by decide +kernel
theorem dX4_begins_30 : decode cX4_begins 30 = .ok (.putfield 40, 3) := by decide +kernel
theorem dX4_begins_33 : decode cX4_begins 33 = .ok (.aload_n 0, 1) := by decide +kernel
theorem dX4_begins_34 : decode cX4_begins 34 = .ok (.iconst 0, 1) := by decide +kernel
theorem dX4_begins_35 : decode cX4_begins 35 = .ok (.putfield 43, 3) := by decide +kernel
theorem dX4_begins_38 : decode cX4_begins 38 = .ok (.return_, 1) := by decide +kernel
theorem dX4_becomes_0 : decode cX4_becomes 0 = .ok (.aload_n 1, 1) := by decide +kernel
theorem dX4_becomes_1 : decode cX4_becomes 1 = .ok (.getfield 9, 3) := by decide +kernel
theorem dX4_becomes_4 : decode cX4_becomes 4 = .ok (.iconst 0, 1) := by decide +kernel
theorem dX4_becomes_5 : decode cX4_becomes 5 = .ok (.aload_n 0, 1) := by decide +kernel
theorem dX4_becomes_6 : decode cX4_becomes 6 = .ok (.getfield 9, 3) := by decide +kernel
theorem dX4_becomes_9 : decode cX4_becomes 9 = .ok (.iconst 0, 1) := by decide +kernel
theorem dX4_becomes_10 : decode cX4_becomes 10 = .ok (.bipush 6, 2) := by decide +kernel
theorem dX4_becomes_12 : decode cX4_becomes 12 = .ok (.invokestatic 24, 3) := by decide +kernel
theorem dX4_becomes_15 : decode cX4_becomes 15 = .ok (.aload_n 1, 1) := by decide +kernel
theorem dX4_becomes_16 : decode cX4_becomes 16 = .ok (.getfield 15, 3) := by decide +kernel
theorem dX4_becomes_19 : decode cX4_becomes 19 = .ok (.iconst 0, 1) := by decide +kernel
theorem dX4_becomes_20 : decode cX4_becomes 20 = .ok (.aload_n 0, 1) := by decide +kernel
theorem dX4_becomes_21 : decode cX4_becomes 21 = .ok (.getfield 15, 3) := by decide +kernel
theorem dX4_becomes_24 : decode cX4_becomes 24 = .ok (.iconst 0, 1) := by decide +kernel
theorem dX4_becomes_25 : decode cX4_becomes 25 = .ok (.bipush 6, 2) := by decide +kernel
theorem dX4_becomes_27 : decode cX4_becomes 27 = .ok (.invokestatic 24, 3) := by decide +kernel
theorem dX4_becomes_30 : decode cX4_becomes 30 = .ok (.aload_n 1, 1) := by decide +kernel
theorem dX4_becomes_31 : decode cX4_becomes 31 = .ok (.getfield 18, 3) := by decide +kernel
theorem dX4_becomes_34 : decode cX4_becomes 34 = .ok (.iconst 0, 1) := by decide +kernel
theorem dX4_becomes_35 : decode cX4_becomes 35 = .ok (.aload_n 0, 1) := by decide +kernel
theorem dX4_becomes_36 : decode cX4_becomes 36 = .ok (.getfield 18, 3) := by decide +kernel
theorem dX4_becomes_39 : decode cX4_becomes 39 = .ok (.iconst 0, 1) := by decide +kernel
theorem dX4_becomes_40 : decode cX4_becomes 40 = .ok (.aload_n 0, 1) := by decide +kernel
theorem dX4_becomes_41 : decode cX4_becomes 41 = .ok (.getfield 18, 3) := by decide +kernel
theorem dX4_becomes_44 : decode cX4_becomes 44 = .ok (.arraylength, 1) := by decide +kernel
theorem dX4_becomes_45 : decode cX4_becomes 45 = .ok (.invokestatic 24, 3) := by decide +kernel
theorem dX4_becomes_48 : decode cX4_becomes 48 = .ok (.aload_n 0, 1) := by decide +kernel
theorem dX4_becomes_49 : decode cX4_becomes 49 = .ok (.aload_n 1, 1) := by decide +kernel
theorem dX4_becomes_50 : decode cX4_becomes 50 = .ok (.getfield 36, 3) := by decide +kernel
theorem dX4_becomes_53 : decode cX4_becomes 53 = .ok (.putfield 36, 3) := by decide +kernel
theorem dX4_becomes_56 : decode cX4_becomes 56 = .ok (.aload_n 0, 1) := by decide +kernel
theorem dX4_becomes_57 : decode cX4_becomes 57 = .ok (.aload_n 1, 1) := by decide +kernel
theorem dX4_becomes_58 : decode cX4_becomes 58 = .ok (.getfield 40, 3) := by decide +kernel
theorem dX4_becomes_61 : decode cX4_becomes 61 = .ok (.putfield 40, 3) := by decide +kernel
theorem dX4_becomes_64 : decode cX4_becomes 64 = .ok (.aload_n 0, 1) := by decide +kernel
theorem dX4_becomes_65 : decode cX4_becomes 65 = .ok (.aload_n 1, 1) := by decide +kernel
theorem dX4_becomes_66 : decode cX4_becomes 66 = .ok (.getfield 43, 3) := by decide +kernel
theorem dX4_becomes_69 : decode cX4_becomes 69 = .ok (.putfield 43, 3) := by decide +kernel
theorem dX4_becomes_72 : decode cX4_becomes 72 = .ok (.return_, 1) := by decide +kernel
theorem dX4_remembers_0 : decode cX4_remembers 0 = .ok (.aload_n 0, 1) := by decide +kernel
theorem dX4_remembers_1 : decode cX4_remembers 1 = .ok (.getfield 43, 3) := by decide +kernel
theorem dX4_remembers_4 : decode cX4_remembers 4 = .ok (.bipush 10, 2) := by decide +kernel
theorem dX4_remembers_6 : decode cX4_remembers 6 = .ok (.if_icmp .lt 31, 3) := by decide +kernel
theorem dX4_remembers_9 : decode cX4_remembers 9 = .ok (.aload_n 0, 1) := by decide +kernel
theorem dX4_remembers_10 : decode cX4_remembers 10 = .ok (.getfield 18, 3) := by decide +kernel
theorem dX4_remembers_13 : decode cX4_remembers 13 = .ok (.bipush 14, 2) := by decide +kernel
theorem dX4_remembers_15 : decode cX4_remembers 15 = .ok (.aload_n 0, 1) := by decide +kernel
theorem dX4_remembers_16 : decode cX4_remembers 16 = .ok (.getfield 18, 3) := by decide +kernel
theorem dX4_remembers_19 : decode cX4_remembers 19 = .ok (.iconst 0, 1) := by decide +kernel
theorem dX4_remembers_20 : decode cX4_remembers 20 = .ok (.aload_n 0, 1) := by decide +kernel
theorem dX4_remembers_21 : decode cX4_remembers 21 = .ok (.getfield 18, 3) := by decide +kernel
theorem dX4_remembers_24 : decode cX4_remembers 24 = .ok (.arraylength, 1) := by decide +kernel
theorem dX4_remembers_25 : decode cX4_remembers 25 = .ok (.bipush 14, 2) := by decide +kernel
theorem dX4_remembers_27 : decode cX4_remembers 27 = .ok (.isub, 1) := by decide +kernel
theorem dX4_remembers_28 : decode cX4_remembers 28 = .ok (.invokestatic 24, 3) := by decide +kernel
theorem dX4_remembers_31 : decode cX4_remembers 31 = .ok (.aload_n 0, 1) := by decide +kernel
theorem dX4_remembers_32 : decode cX4_remembers 32 = .ok (.bipush 9, 2) := by decide +kernel
theorem dX4_remembers_34 : decode cX4_remembers 34 = .ok (.putfield 43, 3) := by decide +kernel
theorem dX4_remembers_37 : decode cX4_remembers 37 = .ok (.aload_n 0, 1) := by decide +kernel
theorem dX4_remembers_38 : decode cX4_remembers 38 = .ok (.getfield 43, 3) := by decide +kernel
theorem dX4_remembers_41 : decode cX4_remembers 41 = .ok (.bipush 14, 2) := by decide +kernel
theorem dX4_remembers_43 : decode cX4_remembers 43 = .ok (.imul, 1) := by decide +kernel
theorem dX4_remembers_44 : decode cX4_remembers 44 = .ok (.istore_n 1, 1) := by decide +kernel
theorem dX4_remembers_45 : decode cX4_remembers 45 = .ok (.aload_n 0, 1) := by decide +kernel
theorem dX4_remembers_46 : decode cX4_remembers 46 = .ok (.getfield 9, 3) := by decide +kernel
theorem dX4_remembers_49 : decode cX4_remembers 49 = .ok (.iconst 0, 1) := by decide +kernel
theorem dX4_remembers_50 : decode cX4_remembers 50 = .ok (.aload_n 0, 1) := by decide +kernel
theorem dX4_remembers_51 : decode cX4_remembers 51 = .ok (.getfield 18, 3) := by decide +kernel
theorem dX4_remembers_54 : decode cX4_remembers 54 = .ok (.iload_n 1, 1) := by decide +kernel
theorem dX4_remembers_55 : decode cX4_remembers 55 = .ok (.bipush 6, 2) := by decide +kernel
theorem dX4_remembers_57 : decode cX4_remembers 57 = .ok (.invokestatic 24, 3) := by decide +kernel
theorem dX4_remembers_60 : decode cX4_remembers 60 = .ok (.aload_n 0, 1) := by decide +kernel
theorem dX4_remembers_61 : decode cX4_remembers 61 = .ok (.getfield 15, 3) := by decide +kernel
theorem dX4_remembers_64 : decode cX4_remembers 64 = .ok (.iconst 0, 1) := by decide +kernel
theorem dX4_remembers_65 : decode cX4_remembers 65 = .ok (.aload_n 0, 1) := by decide +kernel
theorem dX4_remembers_66 : decode cX4_remembers 66 = .ok (.getfield 18, 3) := by decide +kernel
theorem dX4_remembers_69 : decode cX4_remembers 69 = .ok (.iload_n 1, 1) := by decide +kernel
theorem dX4_remembers_70 : decode cX4_remembers 70 = .ok (.bipush 6, 2) := by decide +kernel
theorem dX4_remembers_72 : decode cX4_remembers 72 = .ok (.iadd, 1) := by decide +kernel
theorem dX4_remembers_73 : decode cX4_remembers 73 = .ok (.bipush 6, 2) := by decide +kernel
theorem dX4_remembers_75 : decode cX4_remembers 75 = .ok (.invokestatic 24, 3) := by decide +kernel
theorem dX4_remembers_78 : decode cX4_remembers 78 = .ok (.aload_n 0, 1) := by decide +kernel
theorem dX4_remembers_79 : decode cX4_remembers 79 = .ok (.getfield 18, 3) := by decide +kernel
theorem dX4_remembers_82 : decode cX4_remembers 82 = .ok (.iload_n 1, 1) := by decide +kernel
theorem dX4_remembers_83 : decode cX4_remembers 83 = .ok (.bipush 14, 2) := by decide +kernel
theorem dX4_remembers_85 : decode cX4_remembers 85 = .ok (.iadd, 1) := by decide +kernel
theorem dX4_remembers_86 : decode cX4_remembers 86 = .ok (.iconst 2, 1) := by decide +kernel
theorem dX4_remembers_87 : decode cX4_remembers 87 = .ok (.isub, 1) := by decide +kernel
theorem dX4_remembers_88 : decode cX4_remembers 88 = .ok (.aload_n 0, 1) := by decide +kernel
theorem dX4_remembers_89 : decode cX4_remembers 89 = .ok (.getfield 36, 3) := by decide +kernel
theorem dX4_remembers_92 : decode cX4_remembers 92 = .ok (.iastore, 1) := by decide +kernel
theorem dX4_remembers_93 : decode cX4_remembers 93 = .ok (.aload_n 0, 1) := by decide +kernel
theorem dX4_remembers_94 : decode cX4_remembers 94 = .ok (.getfield 18, 3) := by decide +kernel
theorem dX4_remembers_97 : decode cX4_remembers 97 = .ok (.iload_n 1, 1) := by decide +kernel
theorem dX4_remembers_98 : decode cX4_remembers 98 = .ok (.bipush 14, 2) := by decide +kernel
theorem dX4_remembers_100 : decode cX4_remembers 100 = .ok (.iadd, 1) := by decide +kernel
theorem dX4_remembers_101 : decode cX4_remembers 101 = .ok (.iconst 1, 1) := by decide +kernel
theorem dX4_remembers_102 : decode cX4_remembers 102 = .ok (.isub, 1) := by decide +kernel
theorem dX4_remembers_103 : decode cX4_remembers 103 = .ok (.aload_n 0, 1) := by decide +kernel
theorem dX4_remembers_104 : decode cX4_remembers 104 = .ok (.getfield 40, 3) := by decide +kernel
theorem dX4_remembers_107 : decode cX4_remembers 107 = .ok (.iastore, 1) := by decide +kernel
theorem dX4_remembers_108 : decode cX4_remembers 108 = .ok (.aload_n 0, 1) := by decide +kernel
theorem dX4_remembers_109 : decode cX4_remembers 109 = .ok (.dup, 1) := by decide +kernel
theorem dX4_remembers_110 : decode cX4_remembers 110 = .ok (.getfield 43, 3) := by decide +kernel
theorem dX4_remembers_113 : decode cX4_remembers 113 = .ok (.iconst 1, 1) := by decide +kernel
theorem dX4_remembers_114 : decode cX4_remembers 114 = .ok (.iadd, 1) := by decide +kernel
theorem dX4_remembers_115 : decode cX4_remembers 115 = .ok (.putfield 43, 3) := by decide +kernel
theorem dX4_remembers_118 : decode cX4_remembers 118 = .ok (.return_, 1) := by decide +kernel
theorem dX4_recalls_0 : decode cX4_recalls 0 = .ok (.aload_n 0, 1) := by decide +kernel
theorem dX4_recalls_1 : decode cX4_recalls 1 = .ok (.getfield 43, 3) := by decide +kernel
theorem dX4_recalls_4 : decode cX4_recalls 4 = .ok (.ifCond .gt 4, 3) := by decide +kernel
theorem dX4_recalls_7 : decode cX4_recalls 7 = .ok (.return_, 1) := by decide +kernel
theorem dX4_recalls_8 : decode cX4_recalls 8 = .ok (.aload_n 0, 1) := by decide +kernel
theorem dX4_recalls_9 : decode cX4_recalls 9 = .ok (.dup, 1) := by decide +kernel
theorem dX4_recalls_10 : decode cX4_recalls 10 = .ok (.getfield 43, 3) := by decide +kernel
theorem dX4_recalls_13 : decode cX4_recalls 13 = .ok (.iconst 1, 1) := by decide +kernel
theorem dX4_recalls_14 : decode cX4_recalls 14 = .ok (.isub, 1) := by decide +kernel
theorem dX4_recalls_15 : decode cX4_recalls 15 = .ok (.putfield 43, 3) := by decide +kernel
theorem dX4_recalls_18 : decode cX4_recalls 18 = .ok (.aload_n 0, 1) := by decide +kernel
theorem dX4_recalls_19 : decode cX4_recalls 19 = .ok (.getfield 43, 3) := by decide +kernel
theorem dX4_recalls_22 : decode cX4_recalls 22 = .ok (.bipush 14, 2) := by decide +kernel
theorem dX4_recalls_24 : decode cX4_recalls 24 = .ok (.imul, 1) := by decide +kernel
theorem dX4_recalls_25 : decode cX4_recalls 25 = .ok (.istore_n 1, 1) := by decide +kernel
theorem dX4_recalls_26 : decode cX4_recalls 26 = .ok (.aload_n 0, 1) := by decide +kernel
theorem dX4_recalls_27 : decode cX4_recalls 27 = .ok (.getfield 18, 3) := by decide +kernel
theorem dX4_recalls_30 : decode cX4_recalls 30 = .ok (.iload_n 1, 1) := by decide +kernel
theorem dX4_recalls_31 : decode cX4_recalls 31 = .ok (.aload_n 0, 1) := by decide +kernel
theorem dX4_recalls_32 : decode cX4_recalls 32 = .ok (.getfield 9, 3) := by decide +kernel
theorem dX4_recalls_35 : decode cX4_recalls 35 = .ok (.iconst 0, 1) := by decide +kernel
theorem dX4_recalls_36 : decode cX4_recalls 36 = .ok (.bipush 6, 2) := by decide +kernel
theorem dX4_recalls_38 : decode cX4_recalls 38 = .ok (.invokestatic 24, 3) := by decide +kernel
theorem dX4_recalls_41 : decode cX4_recalls 41 = .ok (.aload_n 0, 1) := by decide +kernel
theorem dX4_recalls_42 : decode cX4_recalls 42 = .ok (.getfield 18, 3) := by decide +kernel
theorem dX4_recalls_45 : decode cX4_recalls 45 = .ok (.iload_n 1, 1) := by decide +kernel
theorem dX4_recalls_46 : decode cX4_recalls 46 = .ok (.bipush 6, 2) := by decide +kernel
theorem dX4_recalls_48 : decode cX4_recalls 48 = .ok (.iadd, 1) := by decide +kernel
theorem dX4_recalls_49 : decode cX4_recalls 49 = .ok (.aload_n 0, 1) := by decide +kernel
theorem dX4_recalls_50 : decode cX4_recalls 50 = .ok (.getfield 15, 3) := by decide +kernel
theorem dX4_recalls_53 : decode cX4_recalls 53 = .ok (.iconst 0, 1) := by decide +kernel
theorem dX4_recalls_54 : decode cX4_recalls 54 = .ok (.bipush 6, 2) := by decide +kernel
theorem dX4_recalls_56 : decode cX4_recalls 56 = .ok (.invokestatic 24, 3) := by decide +kernel
theorem dX4_recalls_59 : decode cX4_recalls 59 = .ok (.aload_n 0, 1) := by decide +kernel
theorem dX4_recalls_60 : decode cX4_recalls 60 = .ok (.aload_n 0, 1) := by decide +kernel
theorem dX4_recalls_61 : decode cX4_recalls 61 = .ok (.getfield 18, 3) := by decide +kernel
theorem dX4_recalls_64 : decode cX4_recalls 64 = .ok (.iload_n 1, 1) := by decide +kernel
theorem dX4_recalls_65 : decode cX4_recalls 65 = .ok (.bipush 14, 2) := by decide +kernel
theorem dX4_recalls_67 : decode cX4_recalls 67 = .ok (.iadd, 1) := by decide +kernel
theorem dX4_recalls_68 : decode cX4_recalls 68 = .ok (.iconst 2, 1) := by decide +kernel
theorem dX4_recalls_69 : decode cX4_recalls 69 = .ok (.isub, 1) := by decide +kernel
theorem dX4_recalls_70 : decode cX4_recalls 70 = .ok (.iaload, 1) := by decide +kernel
theorem dX4_recalls_71 : decode cX4_recalls 71 = .ok (.putfield 36, 3) := by decide +kernel
theorem dX4_recalls_74 : decode cX4_recalls 74 = .ok (.aload_n 0, 1) := by decide +kernel
theorem dX4_recalls_75 : decode cX4_recalls 75 = .ok (.aload_n 0, 1) := by decide +kernel
theorem dX4_recalls_76 : decode cX4_recalls 76 = .ok (.getfield 18, 3) := by decide +kernel
theorem dX4_recalls_79 : decode cX4_recalls 79 = .ok (.iload_n 1, 1) := by decide +kernel
theorem dX4_recalls_80 : decode cX4_recalls 80 = .ok (.bipush 14, 2) := by decide +kernel
theorem dX4_recalls_82 : decode cX4_recalls 82 = .ok (.iadd, 1) := by decide +kernel
theorem dX4_recalls_83 : decode cX4_recalls 83 = .ok (.iconst 1, 1) := by decide +kernel
theorem dX4_recalls_84 : decode cX4_recalls 84 = .ok (.isub, 1) := by decide +kernel
theorem dX4_recalls_85 : decode cX4_recalls 85 = .ok (.iaload, 1) := by decide +kernel
theorem dX4_recalls_86 : decode cX4_recalls 86 = .ok (.putfield 40, 3) := by decide +kernel
theorem dX4_recalls_89 : decode cX4_recalls 89 = .ok (.return_, 1) := by decide +kernel
theorem dX5_init_0 : decode cX5_init 0 = .ok (.aload_n 0, 1) := by decide +kernel
theorem dX5_init_1 : decode cX5_init 1 = .ok (.invokespecial 3, 3) := by decide +kernel
theorem dX5_init_4 : decode cX5_init 4 = .ok (.aload_n 0, 1) := by decide +kernel
theorem dX5_init_5 : decode cX5_init 5 = .ok (.iconst 3, 1) := by decide +kernel
theorem dX5_init_6 : decode cX5_init 6 = .ok (.newarray .int, 2) := by decide +kernel
theorem dX5_init_8 : decode cX5_init 8 = .ok (.putfield 9, 3) := by decide +kernel
theorem dX5_init_11 : decode cX5_init 11 = .ok (.aload_n 0, 1) := by decide +kernel
theorem dX5_init_12 : decode cX5_init 12 = .ok (.iconst 4, 1) := by decide +kernel
theorem dX5_init_13 : decode cX5_init 13 = .ok (.bipush 6, 2) := by decide +kernel
theorem dX5_init_15 : decode cX5_init 15 = .ok (.multianewarray 15 2, 4) := by decide +kernel
theorem dX5_init_19 : decode cX5_init 19 = .ok (.putfield 17, 3) := by decide +kernel
theorem dX5_init_22 : decode cX5_init 22 = .ok (.aload_n 0, 1) := by decide +kernel
theorem dX5_init_23 : decode cX5_init 23 = .ok (.iconst 3, 1) := by decide +kernel
theorem dX5_init_24 : decode cX5_init 24 = .ok (.newarray .int, 2) := by decide +kernel
theorem dX5_init_26 : decode cX5_init 26 = .ok (.putfield 20, 3) := by decide +kernel
theorem dX5_init_29 : decode cX5_init 29 = .ok (.return_, 1) := by decide +kernel
theorem dX5_forgets_0 : decode cX5_forgets 0 = .ok (.aload_n 0, 1) := by decide +kernel
theorem dX5_forgets_1 : decode cX5_forgets 1 = .ok (.iconst 0, 1) := by decide +kernel
theorem dX5_forgets_2 : decode cX5_forgets 2 = .ok (.putfield 23, 3) := by decide +kernel
theorem dX5_forgets_5 : decode cX5_forgets 5 = .ok (.return_, 1) := by decide +kernel
theorem dX5_searches_0 : decode cX5_searches 0 = .ok (.iload_n 3, 1) := by decide +kernel
theorem dX5_searches_1 : decode cX5_searches 1 = .ok (.aload_n 0, 1) := by decide +kernel
theorem dX5_searches_2 : decode cX5_searches 2 = .ok (.getfield 23, 3) := by decide +kernel
theorem dX5_searches_5 : decode cX5_searches 5 = .ok (.if_icmp .ne 22, 3) := by decide +kernel
theorem dX5_searches_8 : decode cX5_searches 8 = .ok (.iload 4, 2) := by decide +kernel
theorem dX5_searches_10 : decode cX5_searches 10 = .ok (.aload_n 0, 1) := by decide +kernel
theorem dX5_searches_11 : decode cX5_searches 11 = .ok (.getfield 27, 3) := by decide +kernel
theorem dX5_searches_14 : decode cX5_searches 14 = .ok (.if_icmp .ne 13, 3) := by decide +kernel
theorem dX5_searches_17 : decode cX5_searches 17 = .ok (.aload_n 0, 1) := by decide +kernel
theorem dX5_searches_18 : decode cX5_searches 18 = .ok (.aload_n 1, 1) := by decide +kernel
theorem dX5_searches_19 : decode cX5_searches 19 = .ok (.aload_n 2, 1) := by decide +kernel
theorem dX5_searches_20 : decode cX5_searches 20 = .ok (.invokevirtual 30, 3) := by decide +kernel
theorem dX5_searches_23 : decode cX5_searches 23 = .ok (.ifCond .eq 4, 3) := by decide +kernel
theorem dX5_searches_26 : decode cX5_searches 26 = .ok (.return_, 1) := by decide +kernel
theorem dX5_searches_27 : decode cX5_searches 27 = .ok (.aload_n 0, 1) := by decide +kernel
theorem dX5_searches_28 : decode cX5_searches 28 = .ok (.iload_n 3, 1) := by decide +kernel
theorem dX5_searches_29 : decode cX5_searches 29 = .ok (.putfield 23, 3) := by decide +kernel
theorem dX5_searches_32 : decode cX5_searches 32 = .ok (.aload_n 0, 1) := by decide +kernel
theorem dX5_searches_33 : decode cX5_searches 33 = .ok (.iload 4, 2) := by decide +kernel
theorem dX5_searches_35 : decode cX5_searches 35 = .ok (.putfield 27, 3) := by decide +kernel
theorem dX5_searches_38 : decode cX5_searches 38 = .ok (.aload_n 0, 1) := by decide +kernel
theorem dX5_searches_39 : decode cX5_searches 39 = .ok (.iconst (-1), 1) := by decide +kernel
theorem dX5_searches_40 : decode cX5_searches 40 = .ok (.putfield 34, 3) := by decide +kernel
theorem dX5_searches_43 : decode cX5_searches 43 = .ok (.aload_n 0, 1) := by decide +kernel
theorem dX5_searches_44 : decode cX5_searches 44 = .ok (.iconst 0, 1) := by decide +kernel
theorem dX5_searches_45 : decode cX5_searches 45 = .ok (.putfield 37, 3) := by decide +kernel
theorem dX5_searches_48 : decode cX5_searches 48 = .ok (.iconst 0, 1) := by decide +kernel
theorem dX5_searches_49 : decode cX5_searches 49 = .ok (.istore 5, 2) := by decide +kernel
theorem dX5_searches_51 : decode cX5_searches 51 = .ok (.iload 5, 2) := by decide +kernel
theorem dX5_searches_53 : decode cX5_searches 53 = .ok (.aload_n 1, 1) := by decide +kernel
theorem dX5_searches_54 : decode cX5_searches 54 = .ok (.getfield 40, 3) := by decide +kernel
theorem dX5_searches_57 : decode cX5_searches 57 = .ok (.if_icmp .ge 48, 3) := by decide +kernel
theorem dX5_searches_60 : decode cX5_searches 60 = .ok (.aload_n 0, 1) := by decide +kernel
theorem dX5_searches_61 : decode cX5_searches 61 = .ok (.getfield 17, 3) := by decide +kernel
theorem dX5_searches_64 : decode cX5_searches 64 = .ok (.iconst 0, 1) := by decide +kernel
theorem dX5_searches_65 : decode cX5_searches 65 = .ok (.aaload, 1) := by decide +kernel
theorem dX5_searches_66 : decode cX5_searches 66 = .ok (.iload 5, 2) := by decide +kernel
theorem dX5_searches_68 : decode cX5_searches 68 = .ok (.aload_n 2, 1) := by decide +kernel
theorem dX5_searches_69 : decode cX5_searches 69 = .ok (.iload 5, 2) := by decide +kernel
theorem dX5_searches_71 : decode cX5_searches 71 = .ok (.iaload, 1) := by decide +kernel
theorem dX5_searches_72 : decode cX5_searches 72 = .ok (.iastore, 1) := by decide +kernel
theorem dX5_searches_73 : decode cX5_searches 73 = .ok (.aload_n 0, 1) := by decide +kernel
theorem dX5_searches_74 : decode cX5_searches 74 = .ok (.dup, 1) := by decide +kernel
theorem dX5_searches_75 : decode cX5_searches 75 = .ok (.getfield 37, 3) := by decide +kernel
theorem dX5_searches_78 : decode cX5_searches 78 = .ok (.aload_n 2, 1) := by decide +kernel
theorem dX5_searches_79 : decode cX5_searches 79 = .ok (.iload 5, 2) := by decide +kernel
theorem dX5_searches_81 : decode cX5_searches 81 = .ok (.iaload, 1) := by decide +kernel
theorem dX5_searches_82 : decode cX5_searches 82 = .ok (.iload 4, 2) := by decide +kernel
theorem dX5_searches_84 : decode cX5_searches 84 = .ok (.if_icmp .lt 10, 3) := by decide +kernel
theorem dX5_searches_87 : decode cX5_searches 87 = .ok (.iconst 1, 1) := by decide +kernel
theorem dX5_searches_88 : decode cX5_searches 88 = .ok (.iload 5, 2) := by decide +kernel
theorem dX5_searches_90 : decode cX5_searches 90 = .ok (.ishl, 1) := by decide +kernel
theorem dX5_searches_91 : decode cX5_searches 91 = .ok (.goto 4, 3) := by decide +kernel
theorem dX5_searches_94 : decode cX5_searches 94 = .ok (.iconst 0, 1) := by decide +kernel
theorem dX5_searches_95 : decode cX5_searches 95 = .ok (.ior, 1) := by decide +kernel
theorem dX5_searches_96 : decode cX5_searches 96 = .ok (.putfield 37, 3) := by decide +kernel
theorem dX5_searches_99 : decode cX5_searches 99 = .ok (.iinc 5 1, 3) := by decide +kernel
theorem dX5_searches_102 : decode cX5_searches 102 = .ok (.goto (-51), 3) := by decide +kernel
theorem dX5_searches_105 : decode cX5_searches 105 = .ok (.aload_n 0, 1) := by decide +kernel
theorem dX5_searches_106 : decode cX5_searches 106 = .ok (.aload_n 1, 1) := by decide +kernel
theorem dX5_searches_107 : decode cX5_searches 107 = .ok (.iconst 0, 1) := by decide +kernel
theorem dX5_searches_108 : decode cX5_searches 108 = .ok (.iconst 0, 1) := by decide +kernel
theorem dX5_searches_109 : decode cX5_searches 109 = .ok (.invokevirtual 45, 3) := by decide +kernel
theorem dX5_searches_112 : decode cX5_searches 112 = .ok (.return_, 1) := by decide +kernel
theorem dX5_isStart_0 : decode cX5_isStart 0 = .ok (.iconst 0, 1) := by decide +kernel
theorem dX5_isStart_1 : decode cX5_isStart 1 = .ok (.istore_n 3, 1) := by decide +kernel
theorem dX5_isStart_2 : decode cX5_isStart 2 = .ok (.iload_n 3, 1) := by decide +kernel
theorem dX5_isStart_3 : decode cX5_isStart 3 = .ok (.aload_n 1, 1) := by decide +kernel
theorem dX5_isStart_4 : decode cX5_isStart 4 = .ok (.getfield 40, 3) := by decide +kernel
theorem dX5_isStart_7 : decode cX5_isStart 7 = .ok (.if_icmp .ge 25, 3) := by decide +kernel
theorem dX5_isStart_10 : decode cX5_isStart 10 = .ok (.aload_n 0, 1) := by decide +kernel
theorem dX5_isStart_11 : decode cX5_isStart 11 = .ok (.getfield 17, 3) := by decide +kernel
theorem dX5_isStart_14 : decode cX5_isStart 14 = .ok (.iconst 0, 1) := by decide +kernel
theorem dX5_isStart_15 : decode cX5_isStart 15 = .ok (.aaload, 1) := by decide +kernel
theorem dX5_isStart_16 : decode cX5_isStart 16 = .ok (.iload_n 3, 1) := by decide +kernel
theorem dX5_isStart_17 : decode cX5_isStart 17 = .ok (.iaload, 1) := by decide +kernel
theorem dX5_isStart_18 : decode cX5_isStart 18 = .ok (.aload_n 2, 1) := by decide +kernel
theorem dX5_isStart_19 : decode cX5_isStart 19 = .ok (.iload_n 3, 1) := by decide +kernel
theorem dX5_isStart_20 : decode cX5_isStart 20 = .ok (.iaload, 1) := by decide +kernel
theorem dX5_isStart_21 : decode cX5_isStart 21 = .ok (.if_icmp .eq 5, 3) := by decide +kernel
theorem dX5_isStart_24 : decode cX5_isStart 24 = .ok (.iconst 0, 1) := by decide +kernel
theorem dX5_isStart_25 : decode cX5_isStart 25 = .ok (.ireturn, 1) := by decide +kernel
theorem dX5_isStart_26 : decode cX5_isStart 26 = .ok (.iinc 3 1, 3) := by decide +kernel
theorem dX5_isStart_29 : decode cX5_isStart 29 = .ok (.goto (-27), 3) := by decide +kernel
theorem dX5_isStart_32 : decode cX5_isStart 32 = .ok (.iconst 1, 1) := by decide +kernel
theorem dX5_isStart_33 : decode cX5_isStart 33 = .ok (.ireturn, 1) := by decide +kernel
theorem dX5_looks_0 : decode cX5_looks 0 = .ok (.iload_n 2, 1) := by decide +kernel
theorem dX5_looks_1 : decode cX5_looks 1 = .ok (.aload_n 0, 1) := by decide +kernel
theorem dX5_looks_2 : decode cX5_looks 2 = .ok (.getfield 23, 3) := by decide +kernel
theorem dX5_looks_5 : decode cX5_looks 5 = .ok (.if_icmp .ge 8, 3) := by decide +kernel
theorem dX5_looks_8 : decode cX5_looks 8 = .ok (.iload_n 2, 1) := by decide +kernel
theorem dX5_looks_9 : decode cX5_looks 9 = .ok (.iconst 3, 1) := by decide +kernel
theorem dX5_looks_10 : decode cX5_looks 10 = .ok (.if_icmp .lt 9, 3) := by decide +kernel
theorem dX5_looks_13 : decode cX5_looks 13 = .ok (.aload_n 0, 1) := by decide +kernel
theorem dX5_looks_14 : decode cX5_looks 14 = .ok (.iload_n 3, 1) := by decide +kernel
theorem dX5_looks_15 : decode cX5_looks 15 = .ok (.invokevirtual 49, 3) := by decide +kernel
theorem dX5_looks_18 : decode cX5_looks 18 = .ok (.return_, 1) := by decide +kernel
theorem dX5_looks_19 : decode cX5_looks 19 = .ok (.iload_n 2, 1) := by decide +kernel
theorem dX5_looks_20 : decode cX5_looks 20 = .ok (.aload_n 0, 1) := by decide +kernel
theorem dX5_looks_21 : decode cX5_looks 21 = .ok (.getfield 23, 3) := by decide +kernel
theorem dX5_looks_24 : decode cX5_looks 24 = .ok (.iconst 1, 1) := by decide +kernel
theorem dX5_looks_25 : decode cX5_looks 25 = .ok (.isub, 1) := by decide +kernel
theorem dX5_looks_26 : decode cX5_looks 26 = .ok (.if_icmp .ne 7, 3) := by decide +kernel
theorem dX5_looks_29 : decode cX5_looks 29 = .ok (.iconst 1, 1) := by decide +kernel
theorem dX5_looks_30 : decode cX5_looks 30 = .ok (.goto 4, 3) := by decide +kernel
theorem dX5_looks_33 : decode cX5_looks 33 = .ok (.iconst 0, 1) := by decide +kernel
theorem dX5_looks_34 : decode cX5_looks 34 = .ok (.istore 4, 2) := by decide +kernel
theorem dX5_looks_36 : decode cX5_looks 36 = .ok (.iload 4, 2) := by decide +kernel
theorem dX5_looks_38 : decode cX5_looks 38 = .ok (.ifCond .eq 24, 3) := by decide +kernel
theorem dX5_looks_41 : decode cX5_looks 41 = .ok (.iload_n 3, 1) := by decide +kernel
theorem dX5_looks_42 : decode cX5_looks 42 = .ok (.aload_n 0, 1) := by decide +kernel
theorem dX5_looks_43 : decode cX5_looks 43 = .ok (.aload_n 1, 1) := by decide +kernel
theorem dX5_looks_44 : decode cX5_looks 44 = .ok (.aload_n 0, 1) := by decide +kernel
theorem dX5_looks_45 : decode cX5_looks 45 = .ok (.getfield 17, 3) := by decide +kernel
theorem dX5_looks_48 : decode cX5_looks 48 = .ok (.iload_n 2, 1) := by decide +kernel
theorem dX5_looks_49 : decode cX5_looks 49 = .ok (.aaload, 1) := by decide +kernel
theorem dX5_looks_50 : decode cX5_looks 50 = .ok (.invokevirtual 53, 3) := by decide +kernel
theorem dX5_looks_53 : decode cX5_looks 53 = .ok (.iadd, 1) := by decide +kernel
theorem dX5_looks_54 : decode cX5_looks 54 = .ok (.aload_n 0, 1) := by decide +kernel
theorem dX5_looks_55 : decode cX5_looks 55 = .ok (.getfield 34, 3) := by decide +kernel
theorem dX5_looks_58 : decode cX5_looks 58 = .ok (.if_icmp .gt 4, 3) := by decide +kernel
theorem dX5_looks_61 : decode cX5_looks 61 = .ok (.return_, 1) := by decide +kernel
theorem dX5_looks_62 : decode cX5_looks 62 = .ok (.iconst 0, 1) := by decide +kernel
theorem dX5_looks_63 : decode cX5_looks 63 = .ok (.istore 5, 2) := by decide +kernel
theorem dX5_looks_65 : decode cX5_looks 65 = .ok (.iload 5, 2) := by decide +kernel
theorem dX5_looks_67 : decode cX5_looks 67 = .ok (.iconst 1, 1) := by decide +kernel
theorem dX5_looks_68 : decode cX5_looks 68 = .ok (.aload_n 1, 1) := by decide +kernel
theorem dX5_looks_69 : decode cX5_looks 69 = .ok (.getfield 40, 3) := by decide +kernel
theorem dX5_looks_72 : decode cX5_looks 72 = .ok (.ishl, 1) := by decide +kernel
theorem dX5_looks_73 : decode cX5_looks 73 = .ok (.if_icmp .ge 108, 3) := by decide +kernel
theorem dX5_looks_76 : decode cX5_looks 76 = .ok (.aload_n 1, 1) := by decide +kernel
theorem dX5_looks_77 : decode cX5_looks 77 = .ok (.iload 5, 2) := by decide +kernel
theorem dX5_looks_79 : decode cX5_looks 79 = .ok (.invokevirtual 57, 3) := by decide +kernel
theorem dX5_looks_82 : decode cX5_looks 82 = .ok (.ifCond .ne 6, 3) := by decide +kernel
theorem dX5_looks_85 : decode cX5_looks 85 = .ok (.goto 90, 3) := by decide +kernel
theorem dX5_looks_88 : decode cX5_looks 88 = .ok (.iload_n 3, 1) := by decide +kernel
theorem dX5_looks_89 : decode cX5_looks 89 = .ok (.aload_n 1, 1) := by decide +kernel
theorem dX5_looks_90 : decode cX5_looks 90 = .ok (.aload_n 0, 1) := by decide +kernel
theorem dX5_looks_91 : decode cX5_looks 91 = .ok (.getfield 17, 3) := by decide +kernel
theorem dX5_looks_94 : decode cX5_looks 94 = .ok (.iload_n 2, 1) := by decide +kernel
theorem dX5_looks_95 : decode cX5_looks 95 = .ok (.aaload, 1) := by decide +kernel
theorem dX5_looks_96 : decode cX5_looks 96 = .ok (.iload 5, 2) := by decide +kernel
theorem dX5_looks_98 : decode cX5_looks 98 = .ok (.invokevirtual 61, 3) := by decide +kernel
theorem dX5_looks_101 : decode cX5_looks 101 = .ok (.iadd, 1) := by decide +kernel
theorem dX5_looks_102 : decode cX5_looks 102 = .ok (.istore 6, 2) := by decide +kernel
theorem dX5_looks_104 : decode cX5_looks 104 = .ok (.iload 4, 2) := by decide +kernel
theorem dX5_looks_106 : decode cX5_looks 106 = .ok (.ifCond .eq 15, 3) := by decide +kernel
theorem dX5_looks_109 : decode cX5_looks 109 = .ok (.iload 6, 2) := by decide +kernel
theorem dX5_looks_111 : decode cX5_looks 111 = .ok (.aload_n 0, 1) := by decide +kernel
theorem dX5_looks_112 : decode cX5_looks 112 = .ok (.getfield 34, 3) := by decide +kernel
theorem dX5_looks_115 : decode cX5_looks 115 = .ok (.if_icmp .gt 6, 3) := by decide +kernel
theorem dX5_looks_118 : decode cX5_looks 118 = .ok (.goto 57, 3) := by decide +kernel
theorem dX5_looks_121 : decode cX5_looks 121 = .ok (.aload_n 1, 1) := by decide +kernel
theorem dX5_looks_122 : decode cX5_looks 122 = .ok (.aload_n 0, 1) := by decide +kernel
theorem dX5_looks_123 : decode cX5_looks 123 = .ok (.getfield 17, 3) := by decide +kernel
theorem dX5_looks_126 : decode cX5_looks 126 = .ok (.iload_n 2, 1) := by decide +kernel
theorem dX5_looks_127 : decode cX5_looks 127 = .ok (.aaload, 1) := by decide +kernel
theorem dX5_looks_128 : decode cX5_looks 128 = .ok (.aload_n 0, 1) := by decide +kernel
theorem dX5_looks_129 : decode cX5_looks 129 = .ok (.getfield 17, 3) := by decide +kernel
theorem dX5_looks_132 : decode cX5_looks 132 = .ok (.iload_n 2, 1) := by decide +kernel
theorem dX5_looks_133 : decode cX5_looks 133 = .ok (.iconst 1, 1) := by decide +kernel
theorem dX5_looks_134 : decode cX5_looks 134 = .ok (.iadd, 1) := by decide +kernel
theorem dX5_looks_135 : decode cX5_looks 135 = .ok (.aaload, 1) := by decide +kernel
theorem dX5_looks_136 : decode cX5_looks 136 = .ok (.iload 5, 2) := by decide +kernel
theorem dX5_looks_138 : decode cX5_looks 138 = .ok (.invokevirtual 65, 3) := by decide +kernel
theorem dX5_looks_141 : decode cX5_looks 141 = .ok (.aload_n 0, 1) := by decide +kernel
theorem dX5_looks_142 : decode cX5_looks 142 = .ok (.aload_n 1, 1) := by decide +kernel
theorem dX5_looks_143 : decode cX5_looks 143 = .ok (.aload_n 0, 1) := by decide +kernel
theorem dX5_looks_144 : decode cX5_looks 144 = .ok (.getfield 17, 3) := by decide +kernel
theorem dX5_looks_147 : decode cX5_looks 147 = .ok (.iload_n 2, 1) := by decide +kernel
theorem dX5_looks_148 : decode cX5_looks 148 = .ok (.iconst 1, 1) := by decide +kernel
theorem dX5_looks_149 : decode cX5_looks 149 = .ok (.iadd, 1) := by decide +kernel
theorem dX5_looks_150 : decode cX5_looks 150 = .ok (.aaload, 1) := by decide +kernel
theorem dX5_looks_151 : decode cX5_looks 151 = .ok (.invokevirtual 69, 3) := by decide +kernel
theorem dX5_looks_154 : decode cX5_looks 154 = .ok (.ifCond .eq 21, 3) := by decide +kernel
theorem dX5_looks_157 : decode cX5_looks 157 = .ok (.aload_n 0, 1) := by decide +kernel
theorem dX5_looks_158 : decode cX5_looks 158 = .ok (.getfield 20, 3) := by decide +kernel
theorem dX5_looks_161 : decode cX5_looks 161 = .ok (.iload_n 2, 1) := by decide +kernel
theorem dX5_looks_162 : decode cX5_looks 162 = .ok (.iload 5, 2) := by decide +kernel
theorem dX5_looks_164 : decode cX5_looks 164 = .ok (.iastore, 1) := by decide +kernel
theorem dX5_looks_165 : decode cX5_looks 165 = .ok (.aload_n 0, 1) := by decide +kernel
theorem dX5_looks_166 : decode cX5_looks 166 = .ok (.aload_n 1, 1) := by decide +kernel
theorem dX5_looks_167 : decode cX5_looks 167 = .ok (.iload_n 2, 1) := by decide +kernel
theorem dX5_looks_168 : decode cX5_looks 168 = .ok (.iconst 1, 1) := by decide +kernel
theorem dX5_looks_169 : decode cX5_looks 169 = .ok (.iadd, 1) := by decide +kernel
theorem dX5_looks_170 : decode cX5_looks 170 = .ok (.iload 6, 2) := by decide +kernel
theorem dX5_looks_172 : decode cX5_looks 172 = .ok (.invokevirtual 45, 3) := by decide +kernel
theorem dX5_looks_175 : decode cX5_looks 175 = .ok (.iinc 5 1, 3) := by decide +kernel
theorem dX5_looks_178 : decode cX5_looks 178 = .ok (.goto (-113), 3) := by decide +kernel
theorem dX5_looks_181 : decode cX5_looks 181 = .ok (.return_, 1) := by decide +kernel
theorem dX5_takes_0 : decode cX5_takes 0 = .ok (.iload_n 1, 1) := by decide +kernel
theorem dX5_takes_1 : decode cX5_takes 1 = .ok (.aload_n 0, 1) := by decide +kernel
theorem dX5_takes_2 : decode cX5_takes 2 = .ok (.getfield 34, 3) := by decide +kernel
theorem dX5_takes_5 : decode cX5_takes 5 = .ok (.if_icmp .le 22, 3) := by decide +kernel
theorem dX5_takes_8 : decode cX5_takes 8 = .ok (.aload_n 0, 1) := by decide +kernel
theorem dX5_takes_9 : decode cX5_takes 9 = .ok (.iload_n 1, 1) := by decide +kernel
theorem dX5_takes_10 : decode cX5_takes 10 = .ok (.putfield 34, 3) := by decide +kernel
theorem dX5_takes_13 : decode cX5_takes 13 = .ok (.aload_n 0, 1) := by decide +kernel
theorem dX5_takes_14 : decode cX5_takes 14 = .ok (.getfield 20, 3) := by decide +kernel
theorem dX5_takes_17 : decode cX5_takes 17 = .ok (.iconst 0, 1) := by decide +kernel
theorem dX5_takes_18 : decode cX5_takes 18 = .ok (.aload_n 0, 1) := by decide +kernel
theorem dX5_takes_19 : decode cX5_takes 19 = .ok (.getfield 9, 3) := by decide +kernel
theorem dX5_takes_22 : decode cX5_takes 22 = .ok (.iconst 0, 1) := by decide +kernel
theorem dX5_takes_23 : decode cX5_takes 23 = .ok (.iconst 3, 1) := by decide +kernel
theorem dX5_takes_24 : decode cX5_takes 24 = .ok (.invokestatic 72, 3) := by decide +kernel
theorem dX5_takes_27 : decode cX5_takes 27 = .ok (.return_, 1) := by decide +kernel
theorem dX5_holds_0 : decode cX5_holds 0 = .ok (.iconst 0, 1) := by decide +kernel
theorem dX5_holds_1 : decode cX5_holds 1 = .ok (.istore_n 3, 1) := by decide +kernel
theorem dX5_holds_2 : decode cX5_holds 2 = .ok (.iload_n 3, 1) := by decide +kernel
theorem dX5_holds_3 : decode cX5_holds 3 = .ok (.aload_n 1, 1) := by decide +kernel
theorem dX5_holds_4 : decode cX5_holds 4 = .ok (.getfield 40, 3) := by decide +kernel
theorem dX5_holds_7 : decode cX5_holds 7 = .ok (.if_icmp .ge 33, 3) := by decide +kernel
theorem dX5_holds_10 : decode cX5_holds 10 = .ok (.aload_n 0, 1) := by decide +kernel
theorem dX5_holds_11 : decode cX5_holds 11 = .ok (.getfield 37, 3) := by decide +kernel
theorem dX5_holds_14 : decode cX5_holds 14 = .ok (.iload_n 3, 1) := by decide +kernel
theorem dX5_holds_15 : decode cX5_holds 15 = .ok (.ishr, 1) := by decide +kernel
theorem dX5_holds_16 : decode cX5_holds 16 = .ok (.iconst 1, 1) := by decide +kernel
theorem dX5_holds_17 : decode cX5_holds 17 = .ok (.iand, 1) := by decide +kernel
theorem dX5_holds_18 : decode cX5_holds 18 = .ok (.iconst 1, 1) := by decide +kernel
theorem dX5_holds_19 : decode cX5_holds 19 = .ok (.if_icmp .ne 15, 3) := by decide +kernel
theorem dX5_holds_22 : decode cX5_holds 22 = .ok (.aload_n 2, 1) := by decide +kernel
theorem dX5_holds_23 : decode cX5_holds 23 = .ok (.iload_n 3, 1) := by decide +kernel
theorem dX5_holds_24 : decode cX5_holds 24 = .ok (.iaload, 1) := by decide +kernel
theorem dX5_holds_25 : decode cX5_holds 25 = .ok (.aload_n 0, 1) := by decide +kernel
theorem dX5_holds_26 : decode cX5_holds 26 = .ok (.getfield 27, 3) := by decide +kernel
theorem dX5_holds_29 : decode cX5_holds 29 = .ok (.if_icmp .ge 5, 3) := by decide +kernel
theorem dX5_holds_32 : decode cX5_holds 32 = .ok (.iconst 0, 1) := by decide +kernel
theorem dX5_holds_33 : decode cX5_holds 33 = .ok (.ireturn, 1) := by decide +kernel
theorem dX5_holds_34 : decode cX5_holds 34 = .ok (.iinc 3 1, 3) := by decide +kernel
theorem dX5_holds_37 : decode cX5_holds 37 = .ok (.goto (-35), 3) := by decide +kernel
theorem dX5_holds_40 : decode cX5_holds 40 = .ok (.iconst 1, 1) := by decide +kernel
theorem dX5_holds_41 : decode cX5_holds 41 = .ok (.ireturn, 1) := by decide +kernel
theorem dX5_ceiling_0 : decode cX5_ceiling 0 = .ok (.iconst 0, 1) := by decide +kernel
theorem dX5_ceiling_1 : decode cX5_ceiling 1 = .ok (.istore_n 3, 1) := by decide +kernel
theorem dX5_ceiling_2 : decode cX5_ceiling 2 = .ok (.iconst 0, 1) := by decide +kernel
theorem dX5_ceiling_3 : decode cX5_ceiling 3 = .ok (.istore 4, 2) := by decide +kernel
theorem dX5_ceiling_5 : decode cX5_ceiling 5 = .ok (.iconst 0, 1) := by decide +kernel
theorem dX5_ceiling_6 : decode cX5_ceiling 6 = .ok (.istore 5, 2) := by decide +kernel
theorem dX5_ceiling_8 : decode cX5_ceiling 8 = .ok (.iload 5, 2) := by decide +kernel
theorem dX5_ceiling_10 : decode cX5_ceiling 10 = .ok (.aload_n 1, 1) := by decide +kernel
theorem dX5_ceiling_11 : decode cX5_ceiling 11 = .ok (.getfield 78, 3) := by decide +kernel
theorem dX5_ceiling_14 : decode cX5_ceiling 14 = .ok (.if_icmp .ge 89, 3) := by decide +kernel
theorem dX5_ceiling_17 : decode cX5_ceiling 17 = .ok (.iconst 0, 1) := by decide +kernel
theorem dX5_ceiling_18 : decode cX5_ceiling 18 = .ok (.istore 6, 2) := by decide +kernel
theorem dX5_ceiling_20 : decode cX5_ceiling 20 = .ok (.iconst 0, 1) := by decide +kernel
theorem dX5_ceiling_21 : decode cX5_ceiling 21 = .ok (.istore 7, 2) := by decide +kernel
theorem dX5_ceiling_23 : decode cX5_ceiling 23 = .ok (.iconst 0, 1) := by decide +kernel
theorem dX5_ceiling_24 : decode cX5_ceiling 24 = .ok (.istore 8, 2) := by decide +kernel
theorem dX5_ceiling_26 : decode cX5_ceiling 26 = .ok (.iload 8, 2) := by decide +kernel
theorem dX5_ceiling_28 : decode cX5_ceiling 28 = .ok (.aload_n 1, 1) := by decide +kernel
theorem dX5_ceiling_29 : decode cX5_ceiling 29 = .ok (.getfield 40, 3) := by decide +kernel
theorem dX5_ceiling_32 : decode cX5_ceiling 32 = .ok (.if_icmp .ge 51, 3) := by decide +kernel
theorem dX5_ceiling_35 : decode cX5_ceiling 35 = .ok (.iload 4, 2) := by decide +kernel
theorem dX5_ceiling_37 : decode cX5_ceiling 37 = .ok (.iload 8, 2) := by decide +kernel
theorem dX5_ceiling_39 : decode cX5_ceiling 39 = .ok (.ishr, 1) := by decide +kernel
theorem dX5_ceiling_40 : decode cX5_ceiling 40 = .ok (.iconst 1, 1) := by decide +kernel
theorem dX5_ceiling_41 : decode cX5_ceiling 41 = .ok (.iand, 1) := by decide +kernel
theorem dX5_ceiling_42 : decode cX5_ceiling 42 = .ok (.iconst 1, 1) := by decide +kernel
theorem dX5_ceiling_43 : decode cX5_ceiling 43 = .ok (.if_icmp .ne 7, 3) := by decide +kernel
theorem dX5_ceiling_46 : decode cX5_ceiling 46 = .ok (.iconst 0, 1) := by decide +kernel
theorem dX5_ceiling_47 : decode cX5_ceiling 47 = .ok (.goto 13, 3) := by decide +kernel
theorem dX5_ceiling_50 : decode cX5_ceiling 50 = .ok (.aload_n 1, 1) := by decide +kernel
theorem dX5_ceiling_51 : decode cX5_ceiling 51 = .ok (.aload_n 2, 1) := by decide +kernel
theorem dX5_ceiling_52 : decode cX5_ceiling 52 = .ok (.iload 8, 2) := by decide +kernel
theorem dX5_ceiling_54 : decode cX5_ceiling 54 = .ok (.iaload, 1) := by decide +kernel
theorem dX5_ceiling_55 : decode cX5_ceiling 55 = .ok (.iload 8, 2) := by decide +kernel
theorem dX5_ceiling_57 : decode cX5_ceiling 57 = .ok (.invokevirtual 81, 3) := by decide +kernel
theorem dX5_ceiling_60 : decode cX5_ceiling 60 = .ok (.istore 9, 2) := by decide +kernel
theorem dX5_ceiling_62 : decode cX5_ceiling 62 = .ok (.iload 9, 2) := by decide +kernel
theorem dX5_ceiling_64 : decode cX5_ceiling 64 = .ok (.iload 6, 2) := by decide +kernel
theorem dX5_ceiling_66 : decode cX5_ceiling 66 = .ok (.if_icmp .le 11, 3) := by decide +kernel
theorem dX5_ceiling_69 : decode cX5_ceiling 69 = .ok (.iload 9, 2) := by decide +kernel
theorem dX5_ceiling_71 : decode cX5_ceiling 71 = .ok (.istore 6, 2) := by decide +kernel
theorem dX5_ceiling_73 : decode cX5_ceiling 73 = .ok (.iload 8, 2) := by decide +kernel
theorem dX5_ceiling_75 : decode cX5_ceiling 75 = .ok (.istore 7, 2) := by decide +kernel
theorem dX5_ceiling_77 : decode cX5_ceiling 77 = .ok (.iinc 8 1, 3) := by decide +kernel
theorem dX5_ceiling_80 : decode cX5_ceiling 80 = .ok (.goto (-54), 3) := by decide +kernel
theorem dX5_ceiling_83 : decode cX5_ceiling 83 = .ok (.iload 4, 2) := by decide +kernel
theorem dX5_ceiling_85 : decode cX5_ceiling 85 = .ok (.iconst 1, 1) := by decide +kernel
theorem dX5_ceiling_86 : decode cX5_ceiling 86 = .ok (.iload 7, 2) := by decide +kernel
theorem dX5_ceiling_88 : decode cX5_ceiling 88 = .ok (.ishl, 1) := by decide +kernel
theorem dX5_ceiling_89 : decode cX5_ceiling 89 = .ok (.ior, 1) := by decide +kernel
theorem dX5_ceiling_90 : decode cX5_ceiling 90 = .ok (.istore 4, 2) := by decide +kernel
theorem dX5_ceiling_92 : decode cX5_ceiling 92 = .ok (.iload_n 3, 1) := by decide +kernel
theorem dX5_ceiling_93 : decode cX5_ceiling 93 = .ok (.iload 6, 2) := by decide +kernel
theorem dX5_ceiling_95 : decode cX5_ceiling 95 = .ok (.iadd, 1) := by decide +kernel
theorem dX5_ceiling_96 : decode cX5_ceiling 96 = .ok (.istore_n 3, 1) := by decide +kernel
theorem dX5_ceiling_97 : decode cX5_ceiling 97 = .ok (.iinc 5 1, 3) := by decide +kernel
theorem dX5_ceiling_100 : decode cX5_ceiling 100 = .ok (.goto (-92), 3) := by decide +kernel
theorem dX5_ceiling_103 : decode cX5_ceiling 103 = .ok (.iload_n 3, 1) := by decide +kernel
theorem dX5_ceiling_104 : decode cX5_ceiling 104 = .ok (.ireturn, 1) := by decide +kernel
theorem dX6_init_0 : decode cX6_init 0 = .ok (.aload_n 0, 1) := by decide +kernel
theorem dX6_init_1 : decode cX6_init 1 = .ok (.invokespecial 1, 3) := by decide +kernel
theorem dX6_init_4 : decode cX6_init 4 = .ok (.return_, 1) := by decide +kernel
theorem dX6_worth_0 : decode cX6_worth 0 = .ok (.aload_n 0, 1) := by decide +kernel
theorem dX6_worth_1 : decode cX6_worth 1 = .ok (.dup, 1) := by decide +kernel
theorem dX6_worth_2 : decode cX6_worth 2 = .ok (.getfield 7, 3) := by decide +kernel
theorem dX6_worth_5 : decode cX6_worth 5 = .ok (.ldc2_w 13, 3) := by decide +kernel
theorem dX6_worth_8 : decode cX6_worth 8 = .ok (.ladd, 1) := by decide +kernel
theorem dX6_worth_9 : decode cX6_worth 9 = .ok (.putfield 7, 3) := by decide +kernel
theorem dX6_worth_12 : decode cX6_worth 12 = .ok (.aload_n 0, 1) := by decide +kernel
theorem dX6_worth_13 : decode cX6_worth 13 = .ok (.aload_n 1, 1) := by decide +kernel
theorem dX6_worth_14 : decode cX6_worth 14 = .ok (.aload_n 2, 1) := by decide +kernel
theorem dX6_worth_15 : decode cX6_worth 15 = .ok (.iload_n 3, 1) := by decide +kernel
theorem dX6_worth_16 : decode cX6_worth 16 = .ok (.invokespecial 15, 3) := by decide +kernel
theorem dX6_worth_19 : decode cX6_worth 19 = .ok (.aload_n 2, 1) := by decide +kernel
theorem dX6_worth_20 : decode cX6_worth 20 = .ok (.getfield 19, 3) := by decide +kernel
theorem dX6_worth_23 : decode cX6_worth 23 = .ok (.iload_n 3, 1) := by decide +kernel
theorem dX6_worth_24 : decode cX6_worth 24 = .ok (.iaload, 1) := by decide +kernel
theorem dX6_worth_25 : decode cX6_worth 25 = .ok (.isub, 1) := by decide +kernel
theorem dX6_worth_26 : decode cX6_worth 26 = .ok (.ireturn, 1) := by decide +kernel
theorem dX7_init_0 : decode cX7_init 0 = .ok (.aload_n 0, 1) := by decide +kernel
theorem dX7_init_1 : decode cX7_init 1 = .ok (.invokespecial 1, 3) := by decide +kernel
theorem dX7_init_4 : decode cX7_init 4 = .ok (.return_, 1) := by decide +kernel
theorem dX7_worth_0 : decode cX7_worth 0 = .ok (.aload_n 0, 1) := by decide +kernel
theorem dX7_worth_1 : decode cX7_worth 1 = .ok (.dup, 1) := by decide +kernel
theorem dX7_worth_2 : decode cX7_worth 2 = .ok (.getfield 7, 3) := by decide +kernel
theorem dX7_worth_5 : decode cX7_worth 5 = .ok (.ldc2_w 13, 3) := by decide +kernel
theorem dX7_worth_8 : decode cX7_worth 8 = .ok (.ladd, 1) := by decide +kernel
theorem dX7_worth_9 : decode cX7_worth 9 = .ok (.putfield 7, 3) := by decide +kernel
theorem dX7_worth_12 : decode cX7_worth 12 = .ok (.aload_n 0, 1) := by decide +kernel
theorem dX7_worth_13 : decode cX7_worth 13 = .ok (.aload_n 1, 1) := by decide +kernel
theorem dX7_worth_14 : decode cX7_worth 14 = .ok (.aload_n 2, 1) := by decide +kernel
theorem dX7_worth_15 : decode cX7_worth 15 = .ok (.iload_n 3, 1) := by decide +kernel
theorem dX7_worth_16 : decode cX7_worth 16 = .ok (.invokespecial 15, 3) := by decide +kernel
theorem dX7_worth_19 : decode cX7_worth 19 = .ok (.iconst 2, 1) := by decide +kernel
theorem dX7_worth_20 : decode cX7_worth 20 = .ok (.imul, 1) := by decide +kernel
theorem dX7_worth_21 : decode cX7_worth 21 = .ok (.ireturn, 1) := by decide +kernel
theorem dX8_init_0 : decode cX8_init 0 = .ok (.aload_n 0, 1) := by decide +kernel
theorem dX8_init_1 : decode cX8_init 1 = .ok (.invokespecial 1, 3) := by decide +kernel
theorem dX8_init_4 : decode cX8_init 4 = .ok (.return_, 1) := by decide +kernel
theorem dX8_worth_0 : decode cX8_worth 0 = .ok (.aload_n 0, 1) := by decide +kernel
theorem dX8_worth_1 : decode cX8_worth 1 = .ok (.dup, 1) := by decide +kernel
theorem dX8_worth_2 : decode cX8_worth 2 = .ok (.getfield 7, 3) := by decide +kernel
theorem dX8_worth_5 : decode cX8_worth 5 = .ok (.ldc2_w 13, 3) := by decide +kernel
theorem dX8_worth_8 : decode cX8_worth 8 = .ok (.ladd, 1) := by decide +kernel
theorem dX8_worth_9 : decode cX8_worth 9 = .ok (.putfield 7, 3) := by decide +kernel
theorem dX8_worth_12 : decode cX8_worth 12 = .ok (.aload_n 0, 1) := by decide +kernel
theorem dX8_worth_13 : decode cX8_worth 13 = .ok (.aload_n 1, 1) := by decide +kernel
theorem dX8_worth_14 : decode cX8_worth 14 = .ok (.aload_n 2, 1) := by decide +kernel
theorem dX8_worth_15 : decode cX8_worth 15 = .ok (.iload_n 3, 1) := by decide +kernel
theorem dX8_worth_16 : decode cX8_worth 16 = .ok (.invokespecial 15, 3) := by decide +kernel
theorem dX8_worth_19 : decode cX8_worth 19 = .ok (.aload_n 1, 1) := by decide +kernel
theorem dX8_worth_20 : decode cX8_worth 20 = .ok (.iload_n 3, 1) := by decide +kernel
theorem dX8_worth_21 : decode cX8_worth 21 = .ok (.iconst 1, 1) := by decide +kernel
theorem dX8_worth_22 : decode cX8_worth 22 = .ok (.aload_n 1, 1) := by decide +kernel
theorem dX8_worth_23 : decode cX8_worth 23 = .ok (.getfield 19, 3) := by decide +kernel
theorem dX8_worth_26 : decode cX8_worth 26 = .ok (.ishl, 1) := by decide +kernel
theorem dX8_worth_27 : decode cX8_worth 27 = .ok (.iconst 1, 1) := by decide +kernel
theorem dX8_worth_28 : decode cX8_worth 28 = .ok (.isub, 1) := by decide +kernel
theorem dX8_worth_29 : decode cX8_worth 29 = .ok (.invokevirtual 25, 3) := by decide +kernel
theorem dX8_worth_32 : decode cX8_worth 32 = .ok (.iadd, 1) := by decide +kernel
theorem dX8_worth_33 : decode cX8_worth 33 = .ok (.ireturn, 1) := by decide +kernel
theorem dX9_init_0 : decode cX9_init 0 = .ok (.aload_n 0, 1) := by decide +kernel
theorem dX9_init_1 : decode cX9_init 1 = .ok (.invokespecial 1, 3) := by decide +kernel
theorem dX9_init_4 : decode cX9_init 4 = .ok (.return_, 1) := by decide +kernel
theorem dX9_worth_0 : decode cX9_worth 0 = .ok (.aload_n 0, 1) := by decide +kernel
theorem dX9_worth_1 : decode cX9_worth 1 = .ok (.dup, 1) := by decide +kernel
theorem dX9_worth_2 : decode cX9_worth 2 = .ok (.getfield 7, 3) := by decide +kernel
theorem dX9_worth_5 : decode cX9_worth 5 = .ok (.ldc2_w 13, 3) := by decide +kernel
theorem dX9_worth_8 : decode cX9_worth 8 = .ok (.ladd, 1) := by decide +kernel
theorem dX9_worth_9 : decode cX9_worth 9 = .ok (.putfield 7, 3) := by decide +kernel
theorem dX9_worth_12 : decode cX9_worth 12 = .ok (.aload_n 0, 1) := by decide +kernel
theorem dX9_worth_13 : decode cX9_worth 13 = .ok (.aload_n 1, 1) := by decide +kernel
theorem dX9_worth_14 : decode cX9_worth 14 = .ok (.aload_n 2, 1) := by decide +kernel
theorem dX9_worth_15 : decode cX9_worth 15 = .ok (.iload_n 3, 1) := by decide +kernel
theorem dX9_worth_16 : decode cX9_worth 16 = .ok (.invokespecial 15, 3) := by decide +kernel
theorem dX9_worth_19 : decode cX9_worth 19 = .ok (.aload_n 1, 1) := by decide +kernel
theorem dX9_worth_20 : decode cX9_worth 20 = .ok (.getfield 19, 3) := by decide +kernel
theorem dX9_worth_23 : decode cX9_worth 23 = .ok (.iload_n 3, 1) := by decide +kernel
theorem dX9_worth_24 : decode cX9_worth 24 = .ok (.iaload, 1) := by decide +kernel
theorem dX9_worth_25 : decode cX9_worth 25 = .ok (.iadd, 1) := by decide +kernel
theorem dX9_worth_26 : decode cX9_worth 26 = .ok (.ireturn, 1) := by decide +kernel
theorem dX10_init_0 : decode cX10_init 0 = .ok (.aload_n 0, 1) := by decide +kernel
theorem dX10_init_1 : decode cX10_init 1 = .ok (.invokespecial 3, 3) := by decide +kernel
theorem dX10_init_4 : decode cX10_init 4 = .ok (.aload_n 0, 1) := by decide +kernel
theorem dX10_init_5 : decode cX10_init 5 = .ok (.sipush 150, 3) := by decide +kernel
theorem dX10_init_8 : decode cX10_init 8 = .ok (.newarray .int, 2) := by decide +kernel
theorem dX10_init_10 : decode cX10_init 10 = .ok (.putfield 9, 3) := by decide +kernel
theorem dX10_init_13 : decode cX10_init 13 = .ok (.return_, 1) := by decide +kernel
theorem dX10_adds_0 : decode cX10_adds 0 = .ok (.aload_n 0, 1) := by decide +kernel
theorem dX10_adds_1 : decode cX10_adds 1 = .ok (.getfield 15, 3) := by decide +kernel
theorem dX10_adds_4 : decode cX10_adds 4 = .ok (.sipush 150, 3) := by decide +kernel
theorem dX10_adds_7 : decode cX10_adds 7 = .ok (.if_icmp .ge 23, 3) := by decide +kernel
theorem dX10_adds_10 : decode cX10_adds 10 = .ok (.aload_n 0, 1) := by decide +kernel
theorem dX10_adds_11 : decode cX10_adds 11 = .ok (.getfield 9, 3) := by decide +kernel
theorem dX10_adds_14 : decode cX10_adds 14 = .ok (.aload_n 0, 1) := by decide +kernel
theorem dX10_adds_15 : decode cX10_adds 15 = .ok (.getfield 15, 3) := by decide +kernel
theorem dX10_adds_18 : decode cX10_adds 18 = .ok (.iload_n 1, 1) := by decide +kernel
theorem dX10_adds_19 : decode cX10_adds 19 = .ok (.iastore, 1) := by decide +kernel
theorem dX10_adds_20 : decode cX10_adds 20 = .ok (.aload_n 0, 1) := by decide +kernel
theorem dX10_adds_21 : decode cX10_adds 21 = .ok (.dup, 1) := by decide +kernel
theorem dX10_adds_22 : decode cX10_adds 22 = .ok (.getfield 15, 3) := by decide +kernel
theorem dX10_adds_25 : decode cX10_adds 25 = .ok (.iconst 1, 1) := by decide +kernel
theorem dX10_adds_26 : decode cX10_adds 26 = .ok (.iadd, 1) := by decide +kernel
theorem dX10_adds_27 : decode cX10_adds 27 = .ok (.putfield 15, 3) := by decide +kernel
theorem dX10_adds_30 : decode cX10_adds 30 = .ok (.return_, 1) := by decide +kernel
theorem dX10_reads_0 : decode cX10_reads 0 = .ok (.aload_n 1, 1) := by decide +kernel
theorem dX10_reads_1 : decode cX10_reads 1 = .ok (.invokevirtual 19, 3) := by decide +kernel
theorem dX10_reads_4 : decode cX10_reads 4 = .ok (.aload_n 0, 1) := by decide +kernel
theorem dX10_reads_5 : decode cX10_reads 5 = .ok (.iconst 0, 1) := by decide +kernel
theorem dX10_reads_6 : decode cX10_reads 6 = .ok (.putfield 24, 3) := by decide +kernel
theorem dX10_reads_9 : decode cX10_reads 9 = .ok (.aload_n 0, 1) := by decide +kernel
theorem dX10_reads_10 : decode cX10_reads 10 = .ok (.iconst 0, 1) := by decide +kernel
theorem dX10_reads_11 : decode cX10_reads 11 = .ok (.putfield 27, 3) := by decide +kernel
theorem dX10_reads_14 : decode cX10_reads 14 = .ok (.aload_n 0, 1) := by decide +kernel
theorem dX10_reads_15 : decode cX10_reads 15 = .ok (.iconst 0, 1) := by decide +kernel
theorem dX10_reads_16 : decode cX10_reads 16 = .ok (.putfield 31, 3) := by decide +kernel
theorem dX10_reads_19 : decode cX10_reads 19 = .ok (.aload_n 0, 1) := by decide +kernel
theorem dX10_reads_20 : decode cX10_reads 20 = .ok (.iconst 0, 1) := by decide +kernel
theorem dX10_reads_21 : decode cX10_reads 21 = .ok (.putfield 34, 3) := by decide +kernel
theorem dX10_reads_24 : decode cX10_reads 24 = .ok (.iconst 0, 1) := by decide +kernel
theorem dX10_reads_25 : decode cX10_reads 25 = .ok (.istore_n 2, 1) := by decide +kernel
theorem dX10_reads_26 : decode cX10_reads 26 = .ok (.iload_n 2, 1) := by decide +kernel
theorem dX10_reads_27 : decode cX10_reads 27 = .ok (.sipush 150, 3) := by decide +kernel
theorem dX10_reads_30 : decode cX10_reads 30 = .ok (.if_icmp .gt 70, 3) := by decide +kernel
theorem dX10_reads_33 : decode cX10_reads 33 = .ok (.aload_n 0, 1) := by decide +kernel
theorem dX10_reads_34 : decode cX10_reads 34 = .ok (.invokevirtual 37, 3) := by decide +kernel
theorem dX10_reads_37 : decode cX10_reads 37 = .ok (.aload_n 0, 1) := by decide +kernel
theorem dX10_reads_38 : decode cX10_reads 38 = .ok (.getfield 40, 3) := by decide +kernel
theorem dX10_reads_41 : decode cX10_reads 41 = .ok (.ifCond .ne 5, 3) := by decide +kernel
theorem dX10_reads_44 : decode cX10_reads 44 = .ok (.iload_n 2, 1) := by decide +kernel
theorem dX10_reads_45 : decode cX10_reads 45 = .ok (.ireturn, 1) := by decide +kernel
theorem dX10_reads_46 : decode cX10_reads 46 = .ok (.aload_n 0, 1) := by decide +kernel
theorem dX10_reads_47 : decode cX10_reads 47 = .ok (.aload_n 1, 1) := by decide +kernel
theorem dX10_reads_48 : decode cX10_reads 48 = .ok (.invokevirtual 43, 3) := by decide +kernel
theorem dX10_reads_51 : decode cX10_reads 51 = .ok (.aload_n 0, 1) := by decide +kernel
theorem dX10_reads_52 : decode cX10_reads 52 = .ok (.getfield 27, 3) := by decide +kernel
theorem dX10_reads_55 : decode cX10_reads 55 = .ok (.ifCond .ne 24, 3) := by decide +kernel
theorem dX10_reads_58 : decode cX10_reads 58 = .ok (.aload_n 0, 1) := by decide +kernel
theorem dX10_reads_59 : decode cX10_reads 59 = .ok (.invokevirtual 37, 3) := by decide +kernel
theorem dX10_reads_62 : decode cX10_reads 62 = .ok (.aload_n 0, 1) := by decide +kernel
theorem dX10_reads_63 : decode cX10_reads 63 = .ok (.aload_n 0, 1) := by decide +kernel
theorem dX10_reads_64 : decode cX10_reads 64 = .ok (.getfield 40, 3) := by decide +kernel
theorem dX10_reads_67 : decode cX10_reads 67 = .ok (.iconst 3, 1) := by decide +kernel
theorem dX10_reads_68 : decode cX10_reads 68 = .ok (.if_icmp .eq 7, 3) := by decide +kernel
theorem dX10_reads_71 : decode cX10_reads 71 = .ok (.iconst 1, 1) := by decide +kernel
theorem dX10_reads_72 : decode cX10_reads 72 = .ok (.goto 4, 3) := by decide +kernel
theorem dX10_reads_75 : decode cX10_reads 75 = .ok (.iconst 0, 1) := by decide +kernel
theorem dX10_reads_76 : decode cX10_reads 76 = .ok (.putfield 27, 3) := by decide +kernel
theorem dX10_reads_79 : decode cX10_reads 79 = .ok (.aload_n 0, 1) := by decide +kernel
theorem dX10_reads_80 : decode cX10_reads 80 = .ok (.getfield 27, 3) := by decide +kernel
theorem dX10_reads_83 : decode cX10_reads 83 = .ok (.ifCond .eq 11, 3) := by decide +kernel
theorem dX10_reads_86 : decode cX10_reads 86 = .ok (.bipush (-10), 2) := by decide +kernel
theorem dX10_reads_88 : decode cX10_reads 88 = .ok (.aload_n 0, 1) := by decide +kernel
theorem dX10_reads_89 : decode cX10_reads 89 = .ok (.getfield 47, 3) := by decide +kernel
theorem dX10_reads_92 : decode cX10_reads 92 = .ok (.isub, 1) := by decide +kernel
theorem dX10_reads_93 : decode cX10_reads 93 = .ok (.ireturn, 1) := by decide +kernel
theorem dX10_reads_94 : decode cX10_reads 94 = .ok (.iinc 2 1, 3) := by decide +kernel
theorem dX10_reads_97 : decode cX10_reads 97 = .ok (.goto (-71), 3) := by decide +kernel
theorem dX10_reads_100 : decode cX10_reads 100 = .ok (.bipush (-10), 2) := by decide +kernel
theorem dX10_reads_102 : decode cX10_reads 102 = .ok (.aload_n 0, 1) := by decide +kernel
theorem dX10_reads_103 : decode cX10_reads 103 = .ok (.getfield 15, 3) := by decide +kernel
theorem dX10_reads_106 : decode cX10_reads 106 = .ok (.isub, 1) := by decide +kernel
theorem dX10_reads_107 : decode cX10_reads 107 = .ok (.ireturn, 1) := by decide +kernel
theorem dX10_readsItem_0 : decode cX10_readsItem 0 = .ok (.aload_n 0, 1) := by decide +kernel
theorem dX10_readsItem_1 : decode cX10_readsItem 1 = .ok (.getfield 40, 3) := by decide +kernel
theorem dX10_readsItem_4 : decode cX10_readsItem 4 = .ok (.iconst 1, 1) := by decide +kernel
theorem dX10_readsItem_5 : decode cX10_readsItem 5 = .ok (.if_icmp .ne 10, 3) := by decide +kernel
theorem dX10_readsItem_8 : decode cX10_readsItem 8 = .ok (.aload_n 0, 1) := by decide +kernel
theorem dX10_readsItem_9 : decode cX10_readsItem 9 = .ok (.getfield 50, 3) := by decide +kernel
theorem dX10_readsItem_12 : decode cX10_readsItem 12 = .ok (.goto 4, 3) := by decide +kernel
theorem dX10_readsItem_15 : decode cX10_readsItem 15 = .ok (.iconst 0, 1) := by decide +kernel
theorem dX10_readsItem_16 : decode cX10_readsItem 16 = .ok (.lookupswitch 132 #[(99, 78), (101, 69), (109, 52), (114, 60), (115, 105)], 52) := by decide +kernel
theorem dX10_readsItem_68 : decode cX10_readsItem 68 = .ok (.aload_n 0, 1) := by decide +kernel
theorem dX10_readsItem_69 : decode cX10_readsItem 69 = .ok (.aload_n 1, 1) := by decide +kernel
theorem dX10_readsItem_70 : decode cX10_readsItem 70 = .ok (.invokevirtual 53, 3) := by decide +kernel
theorem dX10_readsItem_73 : decode cX10_readsItem 73 = .ok (.goto 80, 3) := by decide +kernel
theorem dX10_readsItem_76 : decode cX10_readsItem 76 = .ok (.aload_n 0, 1) := by decide +kernel
theorem dX10_readsItem_77 : decode cX10_readsItem 77 = .ok (.aload_n 1, 1) := by decide +kernel
theorem dX10_readsItem_78 : decode cX10_readsItem 78 = .ok (.iconst 1, 1) := by decide +kernel
theorem dX10_readsItem_79 : decode cX10_readsItem 79 = .ok (.invokevirtual 56, 3) := by decide +kernel
theorem dX10_readsItem_82 : decode cX10_readsItem 82 = .ok (.goto 71, 3) := by decide +kernel
theorem dX10_readsItem_85 : decode cX10_readsItem 85 = .ok (.aload_n 0, 1) := by decide +kernel
theorem dX10_readsItem_86 : decode cX10_readsItem 86 = .ok (.aload_n 1, 1) := by decide +kernel
theorem dX10_readsItem_87 : decode cX10_readsItem 87 = .ok (.iconst (-1), 1) := by decide +kernel
theorem dX10_readsItem_88 : decode cX10_readsItem 88 = .ok (.invokevirtual 56, 3) := by decide +kernel
theorem dX10_readsItem_91 : decode cX10_readsItem 91 = .ok (.goto 62, 3) := by decide +kernel
theorem dX10_readsItem_94 : decode cX10_readsItem 94 = .ok (.aload_n 0, 1) := by decide +kernel
theorem dX10_readsItem_95 : decode cX10_readsItem 95 = .ok (.aload_n 0, 1) := by decide +kernel
theorem dX10_readsItem_96 : decode cX10_readsItem 96 = .ok (.getfield 31, 3) := by decide +kernel
theorem dX10_readsItem_99 : decode cX10_readsItem 99 = .ok (.putfield 27, 3) := by decide +kernel
theorem dX10_readsItem_102 : decode cX10_readsItem 102 = .ok (.aload_n 0, 1) := by decide +kernel
theorem dX10_readsItem_103 : decode cX10_readsItem 103 = .ok (.iconst 1, 1) := by decide +kernel
theorem dX10_readsItem_104 : decode cX10_readsItem 104 = .ok (.putfield 31, 3) := by decide +kernel
theorem dX10_readsItem_107 : decode cX10_readsItem 107 = .ok (.aload_n 1, 1) := by decide +kernel
theorem dX10_readsItem_108 : decode cX10_readsItem 108 = .ok (.aload_n 0, 1) := by decide +kernel
theorem dX10_readsItem_109 : decode cX10_readsItem 109 = .ok (.iconst 1, 1) := by decide +kernel
theorem dX10_readsItem_110 : decode cX10_readsItem 110 = .ok (.bipush 6, 2) := by decide +kernel
theorem dX10_readsItem_112 : decode cX10_readsItem 112 = .ok (.invokevirtual 60, 3) := by decide +kernel
theorem dX10_readsItem_115 : decode cX10_readsItem 115 = .ok (.putfield 64, 3) := by decide +kernel
theorem dX10_readsItem_118 : decode cX10_readsItem 118 = .ok (.goto 35, 3) := by decide +kernel
theorem dX10_readsItem_121 : decode cX10_readsItem 121 = .ok (.aload_n 0, 1) := by decide +kernel
theorem dX10_readsItem_122 : decode cX10_readsItem 122 = .ok (.aload_n 0, 1) := by decide +kernel
theorem dX10_readsItem_123 : decode cX10_readsItem 123 = .ok (.getfield 34, 3) := by decide +kernel
theorem dX10_readsItem_126 : decode cX10_readsItem 126 = .ok (.putfield 27, 3) := by decide +kernel
theorem dX10_readsItem_129 : decode cX10_readsItem 129 = .ok (.aload_n 0, 1) := by decide +kernel
theorem dX10_readsItem_130 : decode cX10_readsItem 130 = .ok (.iconst 1, 1) := by decide +kernel
theorem dX10_readsItem_131 : decode cX10_readsItem 131 = .ok (.putfield 34, 3) := by decide +kernel
theorem dX10_readsItem_134 : decode cX10_readsItem 134 = .ok (.aload_n 1, 1) := by decide +kernel
theorem dX10_readsItem_135 : decode cX10_readsItem 135 = .ok (.aload_n 0, 1) := by decide +kernel
theorem dX10_readsItem_136 : decode cX10_readsItem 136 = .ok (.iconst 0, 1) := by decide +kernel
theorem dX10_readsItem_137 : decode cX10_readsItem 137 = .ok (.bipush 50, 2) := by decide +kernel
theorem dX10_readsItem_139 : decode cX10_readsItem 139 = .ok (.invokevirtual 60, 3) := by decide +kernel
theorem dX10_readsItem_142 : decode cX10_readsItem 142 = .ok (.putfield 67, 3) := by decide +kernel
theorem dX10_readsItem_145 : decode cX10_readsItem 145 = .ok (.goto 8, 3) := by decide +kernel
theorem dX10_readsItem_148 : decode cX10_readsItem 148 = .ok (.aload_n 0, 1) := by decide +kernel
theorem dX10_readsItem_149 : decode cX10_readsItem 149 = .ok (.iconst 1, 1) := by decide +kernel
theorem dX10_readsItem_150 : decode cX10_readsItem 150 = .ok (.putfield 27, 3) := by decide +kernel
theorem dX10_readsItem_153 : decode cX10_readsItem 153 = .ok (.return_, 1) := by decide +kernel
theorem dX10_readsMan_0 : decode cX10_readsMan 0 = .ok (.aload_n 0, 1) := by decide +kernel
theorem dX10_readsMan_1 : decode cX10_readsMan 1 = .ok (.aload_n 1, 1) := by decide +kernel
theorem dX10_readsMan_2 : decode cX10_readsMan 2 = .ok (.getfield 70, 3) := by decide +kernel
theorem dX10_readsMan_5 : decode cX10_readsMan 5 = .ok (.bipush 6, 2) := by decide +kernel
theorem dX10_readsMan_7 : decode cX10_readsMan 7 = .ok (.if_icmp .lt 7, 3) := by decide +kernel
theorem dX10_readsMan_10 : decode cX10_readsMan 10 = .ok (.iconst 1, 1) := by decide +kernel
theorem dX10_readsMan_11 : decode cX10_readsMan 11 = .ok (.goto 4, 3) := by decide +kernel
theorem dX10_readsMan_14 : decode cX10_readsMan 14 = .ok (.iconst 0, 1) := by decide +kernel
theorem dX10_readsMan_15 : decode cX10_readsMan 15 = .ok (.putfield 27, 3) := by decide +kernel
theorem dX10_readsMan_18 : decode cX10_readsMan 18 = .ok (.aload_n 0, 1) := by decide +kernel
theorem dX10_readsMan_19 : decode cX10_readsMan 19 = .ok (.iconst 0, 1) := by decide +kernel
theorem dX10_readsMan_20 : decode cX10_readsMan 20 = .ok (.bipush 99, 2) := by decide +kernel
theorem dX10_readsMan_22 : decode cX10_readsMan 22 = .ok (.invokevirtual 60, 3) := by decide +kernel
theorem dX10_readsMan_25 : decode cX10_readsMan 25 = .ok (.istore_n 2, 1) := by decide +kernel
theorem dX10_readsMan_26 : decode cX10_readsMan 26 = .ok (.aload_n 0, 1) := by decide +kernel
theorem dX10_readsMan_27 : decode cX10_readsMan 27 = .ok (.iconst 0, 1) := by decide +kernel
theorem dX10_readsMan_28 : decode cX10_readsMan 28 = .ok (.bipush 9, 2) := by decide +kernel
theorem dX10_readsMan_30 : decode cX10_readsMan 30 = .ok (.invokevirtual 60, 3) := by decide +kernel
theorem dX10_readsMan_33 : decode cX10_readsMan 33 = .ok (.istore_n 3, 1) := by decide +kernel
theorem dX10_readsMan_34 : decode cX10_readsMan 34 = .ok (.aload_n 0, 1) := by decide +kernel
theorem dX10_readsMan_35 : decode cX10_readsMan 35 = .ok (.getfield 27, 3) := by decide +kernel
theorem dX10_readsMan_38 : decode cX10_readsMan 38 = .ok (.ifCond .ne 33, 3) := by decide +kernel
theorem dX10_readsMan_41 : decode cX10_readsMan 41 = .ok (.aload_n 1, 1) := by decide +kernel
theorem dX10_readsMan_42 : decode cX10_readsMan 42 = .ok (.getfield 73, 3) := by decide +kernel
theorem dX10_readsMan_45 : decode cX10_readsMan 45 = .ok (.aload_n 1, 1) := by decide +kernel
theorem dX10_readsMan_46 : decode cX10_readsMan 46 = .ok (.getfield 70, 3) := by decide +kernel
theorem dX10_readsMan_49 : decode cX10_readsMan 49 = .ok (.iload_n 2, 1) := by decide +kernel
theorem dX10_readsMan_50 : decode cX10_readsMan 50 = .ok (.iastore, 1) := by decide +kernel
theorem dX10_readsMan_51 : decode cX10_readsMan 51 = .ok (.aload_n 1, 1) := by decide +kernel
theorem dX10_readsMan_52 : decode cX10_readsMan 52 = .ok (.getfield 76, 3) := by decide +kernel
theorem dX10_readsMan_55 : decode cX10_readsMan 55 = .ok (.aload_n 1, 1) := by decide +kernel
theorem dX10_readsMan_56 : decode cX10_readsMan 56 = .ok (.getfield 70, 3) := by decide +kernel
theorem dX10_readsMan_59 : decode cX10_readsMan 59 = .ok (.iload_n 3, 1) := by decide +kernel
theorem dX10_readsMan_60 : decode cX10_readsMan 60 = .ok (.iastore, 1) := by decide +kernel
theorem dX10_readsMan_61 : decode cX10_readsMan 61 = .ok (.aload_n 1, 1) := by decide +kernel
theorem dX10_readsMan_62 : decode cX10_readsMan 62 = .ok (.dup, 1) := by decide +kernel
theorem dX10_readsMan_63 : decode cX10_readsMan 63 = .ok (.getfield 70, 3) := by decide +kernel
theorem dX10_readsMan_66 : decode cX10_readsMan 66 = .ok (.iconst 1, 1) := by decide +kernel
theorem dX10_readsMan_67 : decode cX10_readsMan 67 = .ok (.iadd, 1) := by decide +kernel
theorem dX10_readsMan_68 : decode cX10_readsMan 68 = .ok (.putfield 70, 3) := by decide +kernel
theorem dX10_readsMan_71 : decode cX10_readsMan 71 = .ok (.return_, 1) := by decide +kernel
theorem dX10_readsTwo_0 : decode cX10_readsTwo 0 = .ok (.aload_n 0, 1) := by decide +kernel
theorem dX10_readsTwo_1 : decode cX10_readsTwo 1 = .ok (.iconst 0, 1) := by decide +kernel
theorem dX10_readsTwo_2 : decode cX10_readsTwo 2 = .ok (.aload_n 1, 1) := by decide +kernel
theorem dX10_readsTwo_3 : decode cX10_readsTwo 3 = .ok (.getfield 70, 3) := by decide +kernel
theorem dX10_readsTwo_6 : decode cX10_readsTwo 6 = .ok (.iconst 1, 1) := by decide +kernel
theorem dX10_readsTwo_7 : decode cX10_readsTwo 7 = .ok (.isub, 1) := by decide +kernel
theorem dX10_readsTwo_8 : decode cX10_readsTwo 8 = .ok (.invokevirtual 60, 3) := by decide +kernel
theorem dX10_readsTwo_11 : decode cX10_readsTwo 11 = .ok (.istore_n 3, 1) := by decide +kernel
theorem dX10_readsTwo_12 : decode cX10_readsTwo 12 = .ok (.aload_n 0, 1) := by decide +kernel
theorem dX10_readsTwo_13 : decode cX10_readsTwo 13 = .ok (.iconst 0, 1) := by decide +kernel
theorem dX10_readsTwo_14 : decode cX10_readsTwo 14 = .ok (.aload_n 1, 1) := by decide +kernel
theorem dX10_readsTwo_15 : decode cX10_readsTwo 15 = .ok (.getfield 70, 3) := by decide +kernel
theorem dX10_readsTwo_18 : decode cX10_readsTwo 18 = .ok (.iconst 1, 1) := by decide +kernel
theorem dX10_readsTwo_19 : decode cX10_readsTwo 19 = .ok (.isub, 1) := by decide +kernel
theorem dX10_readsTwo_20 : decode cX10_readsTwo 20 = .ok (.invokevirtual 60, 3) := by decide +kernel
theorem dX10_readsTwo_23 : decode cX10_readsTwo 23 = .ok (.istore 4, 2) := by decide +kernel
theorem dX10_readsTwo_25 : decode cX10_readsTwo 25 = .ok (.aload_n 0, 1) := by decide +kernel
theorem dX10_readsTwo_26 : decode cX10_readsTwo 26 = .ok (.aload_n 0, 1) := by decide +kernel
theorem dX10_readsTwo_27 : decode cX10_readsTwo 27 = .ok (.getfield 27, 3) := by decide +kernel
theorem dX10_readsTwo_30 : decode cX10_readsTwo 30 = .ok (.ifCond .ne 9, 3) := by decide +kernel
theorem dX10_readsTwo_33 : decode cX10_readsTwo 33 = .ok (.iload_n 3, 1) := by decide +kernel
theorem dX10_readsTwo_34 : decode cX10_readsTwo 34 = .ok (.iload 4, 2) := by decide +kernel
theorem dX10_readsTwo_36 : decode cX10_readsTwo 36 = .ok (.if_icmp .ne 7, 3) := by decide +kernel
theorem dX10_readsTwo_39 : decode cX10_readsTwo 39 = .ok (.iconst 1, 1) := by decide +kernel
theorem dX10_readsTwo_40 : decode cX10_readsTwo 40 = .ok (.goto 4, 3) := by decide +kernel
theorem dX10_readsTwo_43 : decode cX10_readsTwo 43 = .ok (.iconst 0, 1) := by decide +kernel
theorem dX10_readsTwo_44 : decode cX10_readsTwo 44 = .ok (.putfield 27, 3) := by decide +kernel
theorem dX10_readsTwo_47 : decode cX10_readsTwo 47 = .ok (.iload_n 2, 1) := by decide +kernel
theorem dX10_readsTwo_48 : decode cX10_readsTwo 48 = .ok (.aload_n 0, 1) := by decide +kernel
theorem dX10_readsTwo_49 : decode cX10_readsTwo 49 = .ok (.iconst 0, 1) := by decide +kernel
theorem dX10_readsTwo_50 : decode cX10_readsTwo 50 = .ok (.bipush 9, 2) := by decide +kernel
theorem dX10_readsTwo_52 : decode cX10_readsTwo 52 = .ok (.invokevirtual 60, 3) := by decide +kernel
theorem dX10_readsTwo_55 : decode cX10_readsTwo 55 = .ok (.imul, 1) := by decide +kernel
theorem dX10_readsTwo_56 : decode cX10_readsTwo 56 = .ok (.istore 5, 2) := by decide +kernel
theorem dX10_readsTwo_58 : decode cX10_readsTwo 58 = .ok (.aload_n 0, 1) := by decide +kernel
theorem dX10_readsTwo_59 : decode cX10_readsTwo 59 = .ok (.getfield 27, 3) := by decide +kernel
theorem dX10_readsTwo_62 : decode cX10_readsTwo 62 = .ok (.ifCond .ne 25, 3) := by decide +kernel
theorem dX10_readsTwo_65 : decode cX10_readsTwo 65 = .ok (.aload_n 1, 1) := by decide +kernel
theorem dX10_readsTwo_66 : decode cX10_readsTwo 66 = .ok (.getfield 79, 3) := by decide +kernel
theorem dX10_readsTwo_69 : decode cX10_readsTwo 69 = .ok (.iload_n 3, 1) := by decide +kernel
theorem dX10_readsTwo_70 : decode cX10_readsTwo 70 = .ok (.aaload, 1) := by decide +kernel
theorem dX10_readsTwo_71 : decode cX10_readsTwo 71 = .ok (.iload 4, 2) := by decide +kernel
theorem dX10_readsTwo_73 : decode cX10_readsTwo 73 = .ok (.iload 5, 2) := by decide +kernel
theorem dX10_readsTwo_75 : decode cX10_readsTwo 75 = .ok (.iastore, 1) := by decide +kernel
theorem dX10_readsTwo_76 : decode cX10_readsTwo 76 = .ok (.aload_n 1, 1) := by decide +kernel
theorem dX10_readsTwo_77 : decode cX10_readsTwo 77 = .ok (.getfield 79, 3) := by decide +kernel
theorem dX10_readsTwo_80 : decode cX10_readsTwo 80 = .ok (.iload 4, 2) := by decide +kernel
theorem dX10_readsTwo_82 : decode cX10_readsTwo 82 = .ok (.aaload, 1) := by decide +kernel
theorem dX10_readsTwo_83 : decode cX10_readsTwo 83 = .ok (.iload_n 3, 1) := by decide +kernel
theorem dX10_readsTwo_84 : decode cX10_readsTwo 84 = .ok (.iload 5, 2) := by decide +kernel
theorem dX10_readsTwo_86 : decode cX10_readsTwo 86 = .ok (.iastore, 1) := by decide +kernel
theorem dX10_readsTwo_87 : decode cX10_readsTwo 87 = .ok (.return_, 1) := by decide +kernel
theorem dX10_readsNumber_0 : decode cX10_readsNumber 0 = .ok (.aload_n 0, 1) := by decide +kernel
theorem dX10_readsNumber_1 : decode cX10_readsNumber 1 = .ok (.getfield 27, 3) := by decide +kernel
theorem dX10_readsNumber_4 : decode cX10_readsNumber 4 = .ok (.ifCond .eq 5, 3) := by decide +kernel
theorem dX10_readsNumber_7 : decode cX10_readsNumber 7 = .ok (.iload_n 1, 1) := by decide +kernel
theorem dX10_readsNumber_8 : decode cX10_readsNumber 8 = .ok (.ireturn, 1) := by decide +kernel
theorem dX10_readsNumber_9 : decode cX10_readsNumber 9 = .ok (.aload_n 0, 1) := by decide +kernel
theorem dX10_readsNumber_10 : decode cX10_readsNumber 10 = .ok (.invokevirtual 37, 3) := by decide +kernel
theorem dX10_readsNumber_13 : decode cX10_readsNumber 13 = .ok (.aload_n 0, 1) := by decide +kernel
theorem dX10_readsNumber_14 : decode cX10_readsNumber 14 = .ok (.aload_n 0, 1) := by decide +kernel
theorem dX10_readsNumber_15 : decode cX10_readsNumber 15 = .ok (.getfield 40, 3) := by decide +kernel
theorem dX10_readsNumber_18 : decode cX10_readsNumber 18 = .ok (.iconst 2, 1) := by decide +kernel
theorem dX10_readsNumber_19 : decode cX10_readsNumber 19 = .ok (.if_icmp .ne 19, 3) := by decide +kernel
theorem dX10_readsNumber_22 : decode cX10_readsNumber 22 = .ok (.aload_n 0, 1) := by decide +kernel
theorem dX10_readsNumber_23 : decode cX10_readsNumber 23 = .ok (.getfield 50, 3) := by decide +kernel
theorem dX10_readsNumber_26 : decode cX10_readsNumber 26 = .ok (.iload_n 1, 1) := by decide +kernel
theorem dX10_readsNumber_27 : decode cX10_readsNumber 27 = .ok (.if_icmp .lt 11, 3) := by decide +kernel
theorem dX10_readsNumber_30 : decode cX10_readsNumber 30 = .ok (.aload_n 0, 1) := by decide +kernel
theorem dX10_readsNumber_31 : decode cX10_readsNumber 31 = .ok (.getfield 50, 3) := by decide +kernel
theorem dX10_readsNumber_34 : decode cX10_readsNumber 34 = .ok (.iload_n 2, 1) := by decide +kernel
theorem dX10_readsNumber_35 : decode cX10_readsNumber 35 = .ok (.if_icmp .le 7, 3) := by decide +kernel
theorem dX10_readsNumber_38 : decode cX10_readsNumber 38 = .ok (.iconst 1, 1) := by decide +kernel
theorem dX10_readsNumber_39 : decode cX10_readsNumber 39 = .ok (.goto 4, 3) := by decide +kernel
theorem dX10_readsNumber_42 : decode cX10_readsNumber 42 = .ok (.iconst 0, 1) := by decide +kernel
theorem dX10_readsNumber_43 : decode cX10_readsNumber 43 = .ok (.putfield 27, 3) := by decide +kernel
theorem dX10_readsNumber_46 : decode cX10_readsNumber 46 = .ok (.aload_n 0, 1) := by decide +kernel
theorem dX10_readsNumber_47 : decode cX10_readsNumber 47 = .ok (.getfield 50, 3) := by decide +kernel
theorem dX10_readsNumber_50 : decode cX10_readsNumber 50 = .ok (.ireturn, 1) := by decide +kernel
theorem dX10_readsToken_0 : decode cX10_readsToken 0 = .ok (.aload_n 0, 1) := by decide +kernel
theorem dX10_readsToken_1 : decode cX10_readsToken 1 = .ok (.getfield 24, 3) := by decide +kernel
theorem dX10_readsToken_4 : decode cX10_readsToken 4 = .ok (.aload_n 0, 1) := by decide +kernel
theorem dX10_readsToken_5 : decode cX10_readsToken 5 = .ok (.getfield 15, 3) := by decide +kernel
theorem dX10_readsToken_8 : decode cX10_readsToken 8 = .ok (.if_icmp .ge 30, 3) := by decide +kernel
theorem dX10_readsToken_11 : decode cX10_readsToken 11 = .ok (.aload_n 0, 1) := by decide +kernel
theorem dX10_readsToken_12 : decode cX10_readsToken 12 = .ok (.getfield 9, 3) := by decide +kernel
theorem dX10_readsToken_15 : decode cX10_readsToken 15 = .ok (.aload_n 0, 1) := by decide +kernel
theorem dX10_readsToken_16 : decode cX10_readsToken 16 = .ok (.getfield 24, 3) := by decide +kernel
theorem dX10_readsToken_19 : decode cX10_readsToken 19 = .ok (.iaload, 1) := by decide +kernel
theorem dX10_readsToken_20 : decode cX10_readsToken 20 = .ok (.bipush 32, 2) := by decide +kernel
theorem dX10_readsToken_22 : decode cX10_readsToken 22 = .ok (.if_icmp .ne 16, 3) := by decide +kernel
theorem dX10_readsToken_25 : decode cX10_readsToken 25 = .ok (.aload_n 0, 1) := by decide +kernel
theorem dX10_readsToken_26 : decode cX10_readsToken 26 = .ok (.dup, 1) := by decide +kernel
theorem dX10_readsToken_27 : decode cX10_readsToken 27 = .ok (.getfield 24, 3) := by decide +kernel
theorem dX10_readsToken_30 : decode cX10_readsToken 30 = .ok (.iconst 1, 1) := by decide +kernel
theorem dX10_readsToken_31 : decode cX10_readsToken 31 = .ok (.iadd, 1) := by decide +kernel
theorem dX10_readsToken_32 : decode cX10_readsToken 32 = .ok (.putfield 24, 3) := by decide +kernel
theorem dX10_readsToken_35 : decode cX10_readsToken 35 = .ok (.goto (-35), 3) := by decide +kernel
theorem dX10_readsToken_38 : decode cX10_readsToken 38 = .ok (.aload_n 0, 1) := by decide +kernel
theorem dX10_readsToken_39 : decode cX10_readsToken 39 = .ok (.aload_n 0, 1) := by decide +kernel
theorem dX10_readsToken_40 : decode cX10_readsToken 40 = .ok (.getfield 24, 3) := by decide +kernel
theorem dX10_readsToken_43 : decode cX10_readsToken 43 = .ok (.putfield 47, 3) := by decide +kernel
theorem dX10_readsToken_46 : decode cX10_readsToken 46 = .ok (.aload_n 0, 1) := by decide +kernel
theorem dX10_readsToken_47 : decode cX10_readsToken 47 = .ok (.aload_n 0, 1) := by decide +kernel
theorem dX10_readsToken_48 : decode cX10_readsToken 48 = .ok (.aload_n 0, 1) := by decide +kernel
theorem dX10_readsToken_49 : decode cX10_readsToken 49 = .ok (.getfield 47, 3) := by decide +kernel
theorem dX10_readsToken_52 : decode cX10_readsToken 52 = .ok (.invokevirtual 83, 3) := by decide +kernel
theorem dX10_readsToken_55 : decode cX10_readsToken 55 = .ok (.putfield 40, 3) := by decide +kernel
theorem dX10_readsToken_58 : decode cX10_readsToken 58 = .ok (.aload_n 0, 1) := by decide +kernel
theorem dX10_readsToken_59 : decode cX10_readsToken 59 = .ok (.getfield 40, 3) := by decide +kernel
theorem dX10_readsToken_62 : decode cX10_readsToken 62 = .ok (.iconst 3, 1) := by decide +kernel
theorem dX10_readsToken_63 : decode cX10_readsToken 63 = .ok (.if_icmp .ne 16, 3) := by decide +kernel
theorem dX10_readsToken_66 : decode cX10_readsToken 66 = .ok (.aload_n 0, 1) := by decide +kernel
theorem dX10_readsToken_67 : decode cX10_readsToken 67 = .ok (.dup, 1) := by decide +kernel
theorem dX10_readsToken_68 : decode cX10_readsToken 68 = .ok (.getfield 24, 3) := by decide +kernel
theorem dX10_readsToken_71 : decode cX10_readsToken 71 = .ok (.iconst 1, 1) := by decide +kernel
theorem dX10_readsToken_72 : decode cX10_readsToken 72 = .ok (.iadd, 1) := by decide +kernel
theorem dX10_readsToken_73 : decode cX10_readsToken 73 = .ok (.putfield 24, 3) := by decide +kernel
theorem dX10_readsToken_76 : decode cX10_readsToken 76 = .ok (.goto 71, 3) := by decide +kernel
theorem dX10_readsToken_79 : decode cX10_readsToken 79 = .ok (.aload_n 0, 1) := by decide +kernel
theorem dX10_readsToken_80 : decode cX10_readsToken 80 = .ok (.getfield 40, 3) := by decide +kernel
theorem dX10_readsToken_83 : decode cX10_readsToken 83 = .ok (.iconst 1, 1) := by decide +kernel
theorem dX10_readsToken_84 : decode cX10_readsToken 84 = .ok (.if_icmp .eq 11, 3) := by decide +kernel
theorem dX10_readsToken_87 : decode cX10_readsToken 87 = .ok (.aload_n 0, 1) := by decide +kernel
theorem dX10_readsToken_88 : decode cX10_readsToken 88 = .ok (.getfield 40, 3) := by decide +kernel
theorem dX10_readsToken_91 : decode cX10_readsToken 91 = .ok (.iconst 2, 1) := by decide +kernel
theorem dX10_readsToken_92 : decode cX10_readsToken 92 = .ok (.if_icmp .ne 55, 3) := by decide +kernel
theorem dX10_readsToken_95 : decode cX10_readsToken 95 = .ok (.aload_n 0, 1) := by decide +kernel
theorem dX10_readsToken_96 : decode cX10_readsToken 96 = .ok (.getfield 24, 3) := by decide +kernel
theorem dX10_readsToken_99 : decode cX10_readsToken 99 = .ok (.aload_n 0, 1) := by decide +kernel
theorem dX10_readsToken_100 : decode cX10_readsToken 100 = .ok (.getfield 15, 3) := by decide +kernel
theorem dX10_readsToken_103 : decode cX10_readsToken 103 = .ok (.if_icmp .ge 31, 3) := by decide +kernel
theorem dX10_readsToken_106 : decode cX10_readsToken 106 = .ok (.aload_n 0, 1) := by decide +kernel
theorem dX10_readsToken_107 : decode cX10_readsToken 107 = .ok (.aload_n 0, 1) := by decide +kernel
theorem dX10_readsToken_108 : decode cX10_readsToken 108 = .ok (.getfield 24, 3) := by decide +kernel
theorem dX10_readsToken_111 : decode cX10_readsToken 111 = .ok (.invokevirtual 83, 3) := by decide +kernel
theorem dX10_readsToken_114 : decode cX10_readsToken 114 = .ok (.aload_n 0, 1) := by decide +kernel
theorem dX10_readsToken_115 : decode cX10_readsToken 115 = .ok (.getfield 40, 3) := by decide +kernel
theorem dX10_readsToken_118 : decode cX10_readsToken 118 = .ok (.if_icmp .ne 16, 3) := by decide +kernel
theorem dX10_readsToken_121 : decode cX10_readsToken 121 = .ok (.aload_n 0, 1) := by decide +kernel
theorem dX10_readsToken_122 : decode cX10_readsToken 122 = .ok (.dup, 1) := by decide +kernel
theorem dX10_readsToken_123 : decode cX10_readsToken 123 = .ok (.getfield 24, 3) := by decide +kernel
theorem dX10_readsToken_126 : decode cX10_readsToken 126 = .ok (.iconst 1, 1) := by decide +kernel
theorem dX10_readsToken_127 : decode cX10_readsToken 127 = .ok (.iadd, 1) := by decide +kernel
theorem dX10_readsToken_128 : decode cX10_readsToken 128 = .ok (.putfield 24, 3) := by decide +kernel
theorem dX10_readsToken_131 : decode cX10_readsToken 131 = .ok (.goto (-36), 3) := by decide +kernel
theorem dX10_readsToken_134 : decode cX10_readsToken 134 = .ok (.aload_n 0, 1) := by decide +kernel
theorem dX10_readsToken_135 : decode cX10_readsToken 135 = .ok (.aload_n 0, 1) := by decide +kernel
theorem dX10_readsToken_136 : decode cX10_readsToken 136 = .ok (.getfield 24, 3) := by decide +kernel
theorem dX10_readsToken_139 : decode cX10_readsToken 139 = .ok (.aload_n 0, 1) := by decide +kernel
theorem dX10_readsToken_140 : decode cX10_readsToken 140 = .ok (.getfield 47, 3) := by decide +kernel
theorem dX10_readsToken_143 : decode cX10_readsToken 143 = .ok (.isub, 1) := by decide +kernel
theorem dX10_readsToken_144 : decode cX10_readsToken 144 = .ok (.invokevirtual 87, 3) := by decide +kernel
theorem dX10_readsToken_147 : decode cX10_readsToken 147 = .ok (.return_, 1) := by decide +kernel
theorem dX10_signAt_0 : decode cX10_signAt 0 = .ok (.iload_n 1, 1) := by decide +kernel
theorem dX10_signAt_1 : decode cX10_signAt 1 = .ok (.aload_n 0, 1) := by decide +kernel
theorem dX10_signAt_2 : decode cX10_signAt 2 = .ok (.getfield 15, 3) := by decide +kernel
theorem dX10_signAt_5 : decode cX10_signAt 5 = .ok (.if_icmp .lt 5, 3) := by decide +kernel
theorem dX10_signAt_8 : decode cX10_signAt 8 = .ok (.iconst 0, 1) := by decide +kernel
theorem dX10_signAt_9 : decode cX10_signAt 9 = .ok (.ireturn, 1) := by decide +kernel
theorem dX10_signAt_10 : decode cX10_signAt 10 = .ok (.aload_n 0, 1) := by decide +kernel
theorem dX10_signAt_11 : decode cX10_signAt 11 = .ok (.getfield 9, 3) := by decide +kernel
theorem dX10_signAt_14 : decode cX10_signAt 14 = .ok (.iload_n 1, 1) := by decide +kernel
theorem dX10_signAt_15 : decode cX10_signAt 15 = .ok (.iaload, 1) := by decide +kernel
theorem dX10_signAt_16 : decode cX10_signAt 16 = .ok (.istore_n 2, 1) := by decide +kernel
theorem dX10_signAt_17 : decode cX10_signAt 17 = .ok (.iload_n 2, 1) := by decide +kernel
theorem dX10_signAt_18 : decode cX10_signAt 18 = .ok (.bipush 97, 2) := by decide +kernel
theorem dX10_signAt_20 : decode cX10_signAt 20 = .ok (.if_icmp .lt 11, 3) := by decide +kernel
theorem dX10_signAt_23 : decode cX10_signAt 23 = .ok (.iload_n 2, 1) := by decide +kernel
theorem dX10_signAt_24 : decode cX10_signAt 24 = .ok (.bipush 122, 2) := by decide +kernel
theorem dX10_signAt_26 : decode cX10_signAt 26 = .ok (.if_icmp .gt 5, 3) := by decide +kernel
theorem dX10_signAt_29 : decode cX10_signAt 29 = .ok (.iconst 1, 1) := by decide +kernel
theorem dX10_signAt_30 : decode cX10_signAt 30 = .ok (.ireturn, 1) := by decide +kernel
theorem dX10_signAt_31 : decode cX10_signAt 31 = .ok (.iload_n 2, 1) := by decide +kernel
theorem dX10_signAt_32 : decode cX10_signAt 32 = .ok (.bipush 48, 2) := by decide +kernel
theorem dX10_signAt_34 : decode cX10_signAt 34 = .ok (.if_icmp .lt 11, 3) := by decide +kernel
theorem dX10_signAt_37 : decode cX10_signAt 37 = .ok (.iload_n 2, 1) := by decide +kernel
theorem dX10_signAt_38 : decode cX10_signAt 38 = .ok (.bipush 57, 2) := by decide +kernel
theorem dX10_signAt_40 : decode cX10_signAt 40 = .ok (.if_icmp .gt 5, 3) := by decide +kernel
theorem dX10_signAt_43 : decode cX10_signAt 43 = .ok (.iconst 2, 1) := by decide +kernel
theorem dX10_signAt_44 : decode cX10_signAt 44 = .ok (.ireturn, 1) := by decide +kernel
theorem dX10_signAt_45 : decode cX10_signAt 45 = .ok (.iload_n 2, 1) := by decide +kernel
theorem dX10_signAt_46 : decode cX10_signAt 46 = .ok (.bipush 59, 2) := by decide +kernel
theorem dX10_signAt_48 : decode cX10_signAt 48 = .ok (.if_icmp .ne 7, 3) := by decide +kernel
theorem dX10_signAt_51 : decode cX10_signAt 51 = .ok (.iconst 3, 1) := by decide +kernel
theorem dX10_signAt_52 : decode cX10_signAt 52 = .ok (.goto 4, 3) := by decide +kernel
theorem dX10_signAt_55 : decode cX10_signAt 55 = .ok (.iconst 4, 1) := by decide +kernel
theorem dX10_signAt_56 : decode cX10_signAt 56 = .ok (.ireturn, 1) := by decide +kernel
theorem dX10_readsValue_0 : decode cX10_readsValue 0 = .ok (.aload_n 0, 1) := by decide +kernel
theorem dX10_readsValue_1 : decode cX10_readsValue 1 = .ok (.getfield 40, 3) := by decide +kernel
theorem dX10_readsValue_4 : decode cX10_readsValue 4 = .ok (.iconst 1, 1) := by decide +kernel
theorem dX10_readsValue_5 : decode cX10_readsValue 5 = .ok (.if_icmp .ne 28, 3) := by decide +kernel
theorem dX10_readsValue_8 : decode cX10_readsValue 8 = .ok (.aload_n 0, 1) := by decide +kernel
theorem dX10_readsValue_9 : decode cX10_readsValue 9 = .ok (.iload_n 1, 1) := by decide +kernel
theorem dX10_readsValue_10 : decode cX10_readsValue 10 = .ok (.iconst 1, 1) := by decide +kernel
theorem dX10_readsValue_11 : decode cX10_readsValue 11 = .ok (.if_icmp .ne 15, 3) := by decide +kernel
theorem dX10_readsValue_14 : decode cX10_readsValue 14 = .ok (.aload_n 0, 1) := by decide +kernel
theorem dX10_readsValue_15 : decode cX10_readsValue 15 = .ok (.getfield 9, 3) := by decide +kernel
theorem dX10_readsValue_18 : decode cX10_readsValue 18 = .ok (.aload_n 0, 1) := by decide +kernel
theorem dX10_readsValue_19 : decode cX10_readsValue 19 = .ok (.getfield 47, 3) := by decide +kernel
theorem dX10_readsValue_22 : decode cX10_readsValue 22 = .ok (.iaload, 1) := by decide +kernel
theorem dX10_readsValue_23 : decode cX10_readsValue 23 = .ok (.goto 4, 3) := by decide +kernel
theorem dX10_readsValue_26 : decode cX10_readsValue 26 = .ok (.iconst 0, 1) := by decide +kernel
theorem dX10_readsValue_27 : decode cX10_readsValue 27 = .ok (.putfield 50, 3) := by decide +kernel
theorem dX10_readsValue_30 : decode cX10_readsValue 30 = .ok (.goto 88, 3) := by decide +kernel
theorem dX10_readsValue_33 : decode cX10_readsValue 33 = .ok (.iload_n 1, 1) := by decide +kernel
theorem dX10_readsValue_34 : decode cX10_readsValue 34 = .ok (.iconst 1, 1) := by decide +kernel
theorem dX10_readsValue_35 : decode cX10_readsValue 35 = .ok (.if_icmp .ne 22, 3) := by decide +kernel
theorem dX10_readsValue_38 : decode cX10_readsValue 38 = .ok (.aload_n 0, 1) := by decide +kernel
theorem dX10_readsValue_39 : decode cX10_readsValue 39 = .ok (.aload_n 0, 1) := by decide +kernel
theorem dX10_readsValue_40 : decode cX10_readsValue 40 = .ok (.getfield 9, 3) := by decide +kernel
theorem dX10_readsValue_43 : decode cX10_readsValue 43 = .ok (.aload_n 0, 1) := by decide +kernel
theorem dX10_readsValue_44 : decode cX10_readsValue 44 = .ok (.getfield 47, 3) := by decide +kernel
theorem dX10_readsValue_47 : decode cX10_readsValue 47 = .ok (.iaload, 1) := by decide +kernel
theorem dX10_readsValue_48 : decode cX10_readsValue 48 = .ok (.bipush 48, 2) := by decide +kernel
theorem dX10_readsValue_50 : decode cX10_readsValue 50 = .ok (.isub, 1) := by decide +kernel
theorem dX10_readsValue_51 : decode cX10_readsValue 51 = .ok (.putfield 50, 3) := by decide +kernel
theorem dX10_readsValue_54 : decode cX10_readsValue 54 = .ok (.goto 64, 3) := by decide +kernel
theorem dX10_readsValue_57 : decode cX10_readsValue 57 = .ok (.iload_n 1, 1) := by decide +kernel
theorem dX10_readsValue_58 : decode cX10_readsValue 58 = .ok (.iconst 2, 1) := by decide +kernel
theorem dX10_readsValue_59 : decode cX10_readsValue 59 = .ok (.if_icmp .ne 54, 3) := by decide +kernel
theorem dX10_readsValue_62 : decode cX10_readsValue 62 = .ok (.aload_n 0, 1) := by decide +kernel
theorem dX10_readsValue_63 : decode cX10_readsValue 63 = .ok (.getfield 9, 3) := by decide +kernel
theorem dX10_readsValue_66 : decode cX10_readsValue 66 = .ok (.aload_n 0, 1) := by decide +kernel
theorem dX10_readsValue_67 : decode cX10_readsValue 67 = .ok (.getfield 47, 3) := by decide +kernel
theorem dX10_readsValue_70 : decode cX10_readsValue 70 = .ok (.iaload, 1) := by decide +kernel
theorem dX10_readsValue_71 : decode cX10_readsValue 71 = .ok (.bipush 48, 2) := by decide +kernel
theorem dX10_readsValue_73 : decode cX10_readsValue 73 = .ok (.if_icmp .eq 40, 3) := by decide +kernel
theorem dX10_readsValue_76 : decode cX10_readsValue 76 = .ok (.aload_n 0, 1) := by decide +kernel
theorem dX10_readsValue_77 : decode cX10_readsValue 77 = .ok (.aload_n 0, 1) := by decide +kernel
theorem dX10_readsValue_78 : decode cX10_readsValue 78 = .ok (.getfield 9, 3) := by decide +kernel
theorem dX10_readsValue_81 : decode cX10_readsValue 81 = .ok (.aload_n 0, 1) := by decide +kernel
theorem dX10_readsValue_82 : decode cX10_readsValue 82 = .ok (.getfield 47, 3) := by decide +kernel
theorem dX10_readsValue_85 : decode cX10_readsValue 85 = .ok (.iaload, 1) := by decide +kernel
theorem dX10_readsValue_86 : decode cX10_readsValue 86 = .ok (.bipush 48, 2) := by decide +kernel
theorem dX10_readsValue_88 : decode cX10_readsValue 88 = .ok (.isub, 1) := by decide +kernel
theorem dX10_readsValue_89 : decode cX10_readsValue 89 = .ok (.bipush 10, 2) := by decide +kernel
theorem dX10_readsValue_91 : decode cX10_readsValue 91 = .ok (.imul, 1) := by decide +kernel
theorem dX10_readsValue_92 : decode cX10_readsValue 92 = .ok (.aload_n 0, 1) := by decide +kernel
theorem dX10_readsValue_93 : decode cX10_readsValue 93 = .ok (.getfield 9, 3) := by decide +kernel
theorem dX10_readsValue_96 : decode cX10_readsValue 96 = .ok (.aload_n 0, 1) := by decide +kernel
theorem dX10_readsValue_97 : decode cX10_readsValue 97 = .ok (.getfield 47, 3) := by decide +kernel
theorem dX10_readsValue_100 : decode cX10_readsValue 100 = .ok (.iconst 1, 1) := by decide +kernel
theorem dX10_readsValue_101 : decode cX10_readsValue 101 = .ok (.iadd, 1) := by decide +kernel
theorem dX10_readsValue_102 : decode cX10_readsValue 102 = .ok (.iaload, 1) := by decide +kernel
theorem dX10_readsValue_103 : decode cX10_readsValue 103 = .ok (.iadd, 1) := by decide +kernel
theorem dX10_readsValue_104 : decode cX10_readsValue 104 = .ok (.bipush 48, 2) := by decide +kernel
theorem dX10_readsValue_106 : decode cX10_readsValue 106 = .ok (.isub, 1) := by decide +kernel
theorem dX10_readsValue_107 : decode cX10_readsValue 107 = .ok (.putfield 50, 3) := by decide +kernel
theorem dX10_readsValue_110 : decode cX10_readsValue 110 = .ok (.goto 8, 3) := by decide +kernel
theorem dX10_readsValue_113 : decode cX10_readsValue 113 = .ok (.aload_n 0, 1) := by decide +kernel
theorem dX10_readsValue_114 : decode cX10_readsValue 114 = .ok (.iconst 4, 1) := by decide +kernel
theorem dX10_readsValue_115 : decode cX10_readsValue 115 = .ok (.putfield 40, 3) := by decide +kernel
theorem dX10_readsValue_118 : decode cX10_readsValue 118 = .ok (.return_, 1) := by decide +kernel
theorem dX11_init_0 : decode cX11_init 0 = .ok (.aload_n 0, 1) := by decide +kernel
theorem dX11_init_1 : decode cX11_init 1 = .ok (.invokespecial 3, 3) := by decide +kernel
theorem dX11_init_4 : decode cX11_init 4 = .ok (.aload_n 0, 1) := by decide +kernel
theorem dX11_init_5 : decode cX11_init 5 = .ok (.new 9, 3) := by decide +kernel
theorem dX11_init_8 : decode cX11_init 8 = .ok (.dup, 1) := by decide +kernel
theorem dX11_init_9 : decode cX11_init 9 = .ok (.invokespecial 11, 3) := by decide +kernel
theorem dX11_init_12 : decode cX11_init 12 = .ok (.putfield 12, 3) := by decide +kernel
theorem dX11_init_15 : decode cX11_init 15 = .ok (.aload_n 0, 1) := by decide +kernel
theorem dX11_init_16 : decode cX11_init 16 = .ok (.new 16, 3) := by decide +kernel
theorem dX11_init_19 : decode cX11_init 19 = .ok (.dup, 1) := by decide +kernel
theorem dX11_init_20 : decode cX11_init 20 = .ok (.invokespecial 18, 3) := by decide +kernel
theorem dX11_init_23 : decode cX11_init 23 = .ok (.putfield 19, 3) := by decide +kernel
theorem dX11_init_26 : decode cX11_init 26 = .ok (.aload_n 0, 1) := by decide +kernel
theorem dX11_init_27 : decode cX11_init 27 = .ok (.new 16, 3) := by decide +kernel
theorem dX11_init_30 : decode cX11_init 30 = .ok (.dup, 1) := by decide +kernel
theorem dX11_init_31 : decode cX11_init 31 = .ok (.invokespecial 18, 3) := by decide +kernel
theorem dX11_init_34 : decode cX11_init 34 = .ok (.putfield 23, 3) := by decide +kernel
theorem dX11_init_37 : decode cX11_init 37 = .ok (.aload_n 0, 1) := by decide +kernel
theorem dX11_init_38 : decode cX11_init 38 = .ok (.new 26, 3) := by decide +kernel
theorem dX11_init_41 : decode cX11_init 41 = .ok (.dup, 1) := by decide +kernel
theorem dX11_init_42 : decode cX11_init 42 = .ok (.invokespecial 28, 3) := by decide +kernel
theorem dX11_init_45 : decode cX11_init 45 = .ok (.putfield 29, 3) := by decide +kernel
theorem dX11_init_48 : decode cX11_init 48 = .ok (.aload_n 0, 1) := by decide +kernel
theorem dX11_init_49 : decode cX11_init 49 = .ok (.iconst 2, 1) := by decide +kernel
theorem dX11_init_50 : decode cX11_init 50 = .ok (.anewarray 26, 3) := by decide +kernel
theorem dX11_init_53 : decode cX11_init 53 = .ok (.dup, 1) := by decide +kernel
theorem dX11_init_54 : decode cX11_init 54 = .ok (.iconst 0, 1) := by decide +kernel
theorem dX11_init_55 : decode cX11_init 55 = .ok (.new 26, 3) := by decide +kernel
theorem dX11_init_58 : decode cX11_init 58 = .ok (.dup, 1) := by decide +kernel
theorem dX11_init_59 : decode cX11_init 59 = .ok (.invokespecial 28, 3) := by decide +kernel
theorem dX11_init_62 : decode cX11_init 62 = .ok (.aastore, 1) := by decide +kernel
theorem dX11_init_63 : decode cX11_init 63 = .ok (.dup, 1) := by decide +kernel
theorem dX11_init_64 : decode cX11_init 64 = .ok (.iconst 1, 1) := by decide +kernel
theorem dX11_init_65 : decode cX11_init 65 = .ok (.new 26, 3) := by decide +kernel
theorem dX11_init_68 : decode cX11_init 68 = .ok (.dup, 1) := by decide +kernel
theorem dX11_init_69 : decode cX11_init 69 = .ok (.invokespecial 28, 3) := by decide +kernel
theorem dX11_init_72 : decode cX11_init 72 = .ok (.aastore, 1) := by decide +kernel
theorem dX11_init_73 : decode cX11_init 73 = .ok (.putfield 33, 3) := by decide +kernel
theorem dX11_init_76 : decode cX11_init 76 = .ok (.aload_n 0, 1) := by decide +kernel
theorem dX11_init_77 : decode cX11_init 77 = .ok (.iconst 2, 1) := by decide +kernel
theorem dX11_init_78 : decode cX11_init 78 = .ok (.newarray .boolean, 2) := by decide +kernel
theorem dX11_init_80 : decode cX11_init 80 = .ok (.putfield 37, 3) := by decide +kernel
theorem dX11_init_83 : decode cX11_init 83 = .ok (.aload_n 0, 1) := by decide +kernel
theorem dX11_init_84 : decode cX11_init 84 = .ok (.new 41, 3) := by decide +kernel
theorem dX11_init_87 : decode cX11_init 87 = .ok (.dup, 1) := by decide +kernel
theorem dX11_init_88 : decode cX11_init 88 = .ok (.invokespecial 43, 3) := by decide +kernel
theorem dX11_init_91 : decode cX11_init 91 = .ok (.putfield 44, 3) := by decide +kernel
theorem dX11_init_94 : decode cX11_init 94 = .ok (.aload_n 0, 1) := by decide +kernel
theorem dX11_init_95 : decode cX11_init 95 = .ok (.new 48, 3) := by decide +kernel
theorem dX11_init_98 : decode cX11_init 98 = .ok (.dup, 1) := by decide +kernel
theorem dX11_init_99 : decode cX11_init 99 = .ok (.invokespecial 50, 3) := by decide +kernel
theorem dX11_init_102 : decode cX11_init 102 = .ok (.putfield 51, 3) := by decide +kernel
theorem dX11_init_105 : decode cX11_init 105 = .ok (.aload_n 0, 1) := by decide +kernel
theorem dX11_init_106 : decode cX11_init 106 = .ok (.bipush 6, 2) := by decide +kernel
theorem dX11_init_108 : decode cX11_init 108 = .ok (.anewarray 55, 3) := by decide +kernel
theorem dX11_init_111 : decode cX11_init 111 = .ok (.dup, 1) := by decide +kernel
theorem dX11_init_112 : decode cX11_init 112 = .ok (.iconst 0, 1) := by decide +kernel
theorem dX11_init_113 : decode cX11_init 113 = .ok (.new 55, 3) := by decide +kernel
theorem dX11_init_116 : decode cX11_init 116 = .ok (.dup, 1) := by decide +kernel
theorem dX11_init_117 : decode cX11_init 117 = .ok (.invokespecial 57, 3) := by decide +kernel
theorem dX11_init_120 : decode cX11_init 120 = .ok (.aastore, 1) := by decide +kernel
theorem dX11_init_121 : decode cX11_init 121 = .ok (.dup, 1) := by decide +kernel
theorem dX11_init_122 : decode cX11_init 122 = .ok (.iconst 1, 1) := by decide +kernel
theorem dX11_init_123 : decode cX11_init 123 = .ok (.new 58, 3) := by decide +kernel
theorem dX11_init_126 : decode cX11_init 126 = .ok (.dup, 1) := by decide +kernel
theorem dX11_init_127 : decode cX11_init 127 = .ok (.invokespecial 60, 3) := by decide +kernel
theorem dX11_init_130 : decode cX11_init 130 = .ok (.aastore, 1) := by decide +kernel
theorem dX11_init_131 : decode cX11_init 131 = .ok (.dup, 1) := by decide +kernel
theorem dX11_init_132 : decode cX11_init 132 = .ok (.iconst 2, 1) := by decide +kernel
theorem dX11_init_133 : decode cX11_init 133 = .ok (.new 61, 3) := by decide +kernel
theorem dX11_init_136 : decode cX11_init 136 = .ok (.dup, 1) := by decide +kernel
theorem dX11_init_137 : decode cX11_init 137 = .ok (.invokespecial 63, 3) := by decide +kernel
theorem dX11_init_140 : decode cX11_init 140 = .ok (.aastore, 1) := by decide +kernel
theorem dX11_init_141 : decode cX11_init 141 = .ok (.dup, 1) := by decide +kernel
theorem dX11_init_142 : decode cX11_init 142 = .ok (.iconst 3, 1) := by decide +kernel
theorem dX11_init_143 : decode cX11_init 143 = .ok (.new 64, 3) := by decide +kernel
theorem dX11_init_146 : decode cX11_init 146 = .ok (.dup, 1) := by decide +kernel
theorem dX11_init_147 : decode cX11_init 147 = .ok (.invokespecial 66, 3) := by decide +kernel
theorem dX11_init_150 : decode cX11_init 150 = .ok (.aastore, 1) := by decide +kernel
theorem dX11_init_151 : decode cX11_init 151 = .ok (.dup, 1) := by decide +kernel
theorem dX11_init_152 : decode cX11_init 152 = .ok (.iconst 4, 1) := by decide +kernel
theorem dX11_init_153 : decode cX11_init 153 = .ok (.new 67, 3) := by decide +kernel
theorem dX11_init_156 : decode cX11_init 156 = .ok (.dup, 1) := by decide +kernel
theorem dX11_init_157 : decode cX11_init 157 = .ok (.invokespecial 69, 3) := by decide +kernel
theorem dX11_init_160 : decode cX11_init 160 = .ok (.aastore, 1) := by decide +kernel
theorem dX11_init_161 : decode cX11_init 161 = .ok (.dup, 1) := by decide +kernel
theorem dX11_init_162 : decode cX11_init 162 = .ok (.iconst 5, 1) := by decide +kernel
theorem dX11_init_163 : decode cX11_init 163 = .ok (.new 70, 3) := by decide +kernel
theorem dX11_init_166 : decode cX11_init 166 = .ok (.dup, 1) := by decide +kernel
theorem dX11_init_167 : decode cX11_init 167 = .ok (.invokespecial 72, 3) := by decide +kernel
theorem dX11_init_170 : decode cX11_init 170 = .ok (.aastore, 1) := by decide +kernel
theorem dX11_init_171 : decode cX11_init 171 = .ok (.putfield 73, 3) := by decide +kernel
theorem dX11_init_174 : decode cX11_init 174 = .ok (.aload_n 0, 1) := by decide +kernel
theorem dX11_init_175 : decode cX11_init 175 = .ok (.bipush 6, 2) := by decide +kernel
theorem dX11_init_177 : decode cX11_init 177 = .ok (.newarray .int, 2) := by decide +kernel
theorem dX11_init_179 : decode cX11_init 179 = .ok (.putfield 77, 3) := by decide +kernel
theorem dX11_init_182 : decode cX11_init 182 = .ok (.aload_n 0, 1) := by decide +kernel
theorem dX11_init_183 : decode cX11_init 183 = .ok (.bipush 6, 2) := by decide +kernel
theorem dX11_init_185 : decode cX11_init 185 = .ok (.newarray .int, 2) := by decide +kernel
theorem dX11_init_187 : decode cX11_init 187 = .ok (.putfield 81, 3) := by decide +kernel
theorem dX11_init_190 : decode cX11_init 190 = .ok (.aload_n 0, 1) := by decide +kernel
theorem dX11_init_191 : decode cX11_init 191 = .ok (.bipush 6, 2) := by decide +kernel
theorem dX11_init_193 : decode cX11_init 193 = .ok (.newarray .int, 2) := by decide +kernel
theorem dX11_init_195 : decode cX11_init 195 = .ok (.putfield 84, 3) := by decide +kernel
theorem dX11_init_198 : decode cX11_init 198 = .ok (.aload_n 0, 1) := by decide +kernel
theorem dX11_init_199 : decode cX11_init 199 = .ok (.bipush 6, 2) := by decide +kernel
theorem dX11_init_201 : decode cX11_init 201 = .ok (.newarray .int, 2) := by decide +kernel
theorem dX11_init_203 : decode cX11_init 203 = .ok (.putfield 87, 3) := by decide +kernel
theorem dX11_init_206 : decode cX11_init 206 = .ok (.aload_n 0, 1) := by decide +kernel
theorem dX11_init_207 : decode cX11_init 207 = .ok (.bipush 6, 2) := by decide +kernel
theorem dX11_init_209 : decode cX11_init 209 = .ok (.newarray .int, 2) := by decide +kernel
theorem dX11_init_211 : decode cX11_init 211 = .ok (.putfield 90, 3) := by decide +kernel
theorem dX11_init_214 : decode cX11_init 214 = .ok (.aload_n 0, 1) := by decide +kernel
theorem dX11_init_215 : decode cX11_init 215 = .ok (.bipush 100, 2) := by decide +kernel
theorem dX11_init_217 : decode cX11_init 217 = .ok (.newarray .int, 2) := by decide +kernel
theorem dX11_init_219 : decode cX11_init 219 = .ok (.putfield 93, 3) := by decide +kernel
theorem dX11_init_222 : decode cX11_init 222 = .ok (.aload_n 0, 1) := by decide +kernel
theorem dX11_init_223 : decode cX11_init 223 = .ok (.sipush 300, 3) := by decide +kernel
theorem dX11_init_226 : decode cX11_init 226 = .ok (.newarray .int, 2) := by decide +kernel
theorem dX11_init_228 : decode cX11_init 228 = .ok (.putfield 96, 3) := by decide +kernel
theorem dX11_init_231 : decode cX11_init 231 = .ok (.return_, 1) := by decide +kernel
theorem dX11_type_0 : decode cX11_type 0 = .ok (.iload_n 1, 1) := by decide +kernel
theorem dX11_type_1 : decode cX11_type 1 = .ok (.ifCond .lt 10, 3) := by decide +kernel
theorem dX11_type_4 : decode cX11_type 4 = .ok (.iload_n 1, 1) := by decide +kernel
theorem dX11_type_5 : decode cX11_type 5 = .ok (.sipush 255, 3) := by decide +kernel
theorem dX11_type_8 : decode cX11_type 8 = .ok (.if_icmp .le 5, 3) := by decide +kernel
theorem dX11_type_11 : decode cX11_type 11 = .ok (.iconst (-1), 1) := by decide +kernel
theorem dX11_type_12 : decode cX11_type 12 = .ok (.ireturn, 1) := by decide +kernel
theorem dX11_type_13 : decode cX11_type 13 = .ok (.aload_n 0, 1) := by decide +kernel
theorem dX11_type_14 : decode cX11_type 14 = .ok (.getfield 12, 3) := by decide +kernel
theorem dX11_type_17 : decode cX11_type 17 = .ok (.getfield 99, 3) := by decide +kernel
theorem dX11_type_20 : decode cX11_type 20 = .ok (.sipush 150, 3) := by decide +kernel
theorem dX11_type_23 : decode cX11_type 23 = .ok (.if_icmp .lt 6, 3) := by decide +kernel
theorem dX11_type_26 : decode cX11_type 26 = .ok (.bipush (-3), 2) := by decide +kernel
theorem dX11_type_28 : decode cX11_type 28 = .ok (.ireturn, 1) := by decide +kernel
theorem dX11_type_29 : decode cX11_type 29 = .ok (.aload_n 0, 1) := by decide +kernel
theorem dX11_type_30 : decode cX11_type 30 = .ok (.getfield 12, 3) := by decide +kernel
theorem dX11_type_33 : decode cX11_type 33 = .ok (.iload_n 1, 1) := by decide +kernel
theorem dX11_type_34 : decode cX11_type 34 = .ok (.invokevirtual 103, 3) := by decide +kernel
theorem dX11_type_37 : decode cX11_type 37 = .ok (.aload_n 0, 1) := by decide +kernel
theorem dX11_type_38 : decode cX11_type 38 = .ok (.getfield 12, 3) := by decide +kernel
theorem dX11_type_41 : decode cX11_type 41 = .ok (.getfield 99, 3) := by decide +kernel
theorem dX11_type_44 : decode cX11_type 44 = .ok (.ireturn, 1) := by decide +kernel
theorem dX11_clear_0 : decode cX11_clear 0 = .ok (.aload_n 0, 1) := by decide +kernel
theorem dX11_clear_1 : decode cX11_clear 1 = .ok (.getfield 12, 3) := by decide +kernel
theorem dX11_clear_4 : decode cX11_clear 4 = .ok (.getfield 99, 3) := by decide +kernel
theorem dX11_clear_7 : decode cX11_clear 7 = .ok (.istore_n 1, 1) := by decide +kernel
theorem dX11_clear_8 : decode cX11_clear 8 = .ok (.aload_n 0, 1) := by decide +kernel
theorem dX11_clear_9 : decode cX11_clear 9 = .ok (.getfield 12, 3) := by decide +kernel
theorem dX11_clear_12 : decode cX11_clear 12 = .ok (.iconst 0, 1) := by decide +kernel
theorem dX11_clear_13 : decode cX11_clear 13 = .ok (.putfield 99, 3) := by decide +kernel
theorem dX11_clear_16 : decode cX11_clear 16 = .ok (.iload_n 1, 1) := by decide +kernel
theorem dX11_clear_17 : decode cX11_clear 17 = .ok (.ireturn, 1) := by decide +kernel
theorem dX11_pit_0 : decode cX11_pit 0 = .ok (.aload_n 0, 1) := by decide +kernel
theorem dX11_pit_1 : decode cX11_pit 1 = .ok (.getfield 12, 3) := by decide +kernel
theorem dX11_pit_4 : decode cX11_pit 4 = .ok (.aload_n 0, 1) := by decide +kernel
theorem dX11_pit_5 : decode cX11_pit 5 = .ok (.getfield 19, 3) := by decide +kernel
theorem dX11_pit_8 : decode cX11_pit 8 = .ok (.invokevirtual 107, 3) := by decide +kernel
theorem dX11_pit_11 : decode cX11_pit 11 = .ok (.istore_n 1, 1) := by decide +kernel
theorem dX11_pit_12 : decode cX11_pit 12 = .ok (.iload_n 1, 1) := by decide +kernel
theorem dX11_pit_13 : decode cX11_pit 13 = .ok (.ifCond .ge 5, 3) := by decide +kernel
theorem dX11_pit_16 : decode cX11_pit 16 = .ok (.iload_n 1, 1) := by decide +kernel
theorem dX11_pit_17 : decode cX11_pit 17 = .ok (.ireturn, 1) := by decide +kernel
theorem dX11_pit_18 : decode cX11_pit 18 = .ok (.aload_n 0, 1) := by decide +kernel
theorem dX11_pit_19 : decode cX11_pit 19 = .ok (.getfield 12, 3) := by decide +kernel
theorem dX11_pit_22 : decode cX11_pit 22 = .ok (.iconst 0, 1) := by decide +kernel
theorem dX11_pit_23 : decode cX11_pit 23 = .ok (.putfield 99, 3) := by decide +kernel
theorem dX11_pit_26 : decode cX11_pit 26 = .ok (.aload_n 0, 1) := by decide +kernel
theorem dX11_pit_27 : decode cX11_pit 27 = .ok (.getfield 23, 3) := by decide +kernel
theorem dX11_pit_30 : decode cX11_pit 30 = .ok (.aload_n 0, 1) := by decide +kernel
theorem dX11_pit_31 : decode cX11_pit 31 = .ok (.getfield 19, 3) := by decide +kernel
theorem dX11_pit_34 : decode cX11_pit 34 = .ok (.invokevirtual 111, 3) := by decide +kernel
theorem dX11_pit_37 : decode cX11_pit 37 = .ok (.aload_n 0, 1) := by decide +kernel
theorem dX11_pit_38 : decode cX11_pit 38 = .ok (.getfield 44, 3) := by decide +kernel
theorem dX11_pit_41 : decode cX11_pit 41 = .ok (.invokevirtual 115, 3) := by decide +kernel
theorem dX11_pit_44 : decode cX11_pit 44 = .ok (.aload_n 0, 1) := by decide +kernel
theorem dX11_pit_45 : decode cX11_pit 45 = .ok (.getfield 29, 3) := by decide +kernel
theorem dX11_pit_48 : decode cX11_pit 48 = .ok (.aload_n 0, 1) := by decide +kernel
theorem dX11_pit_49 : decode cX11_pit 49 = .ok (.getfield 23, 3) := by decide +kernel
theorem dX11_pit_52 : decode cX11_pit 52 = .ok (.invokevirtual 118, 3) := by decide +kernel
theorem dX11_pit_55 : decode cX11_pit 55 = .ok (.aload_n 0, 1) := by decide +kernel
theorem dX11_pit_56 : decode cX11_pit 56 = .ok (.iconst 0, 1) := by decide +kernel
theorem dX11_pit_57 : decode cX11_pit 57 = .ok (.putfield 121, 3) := by decide +kernel
theorem dX11_pit_60 : decode cX11_pit 60 = .ok (.aload_n 0, 1) := by decide +kernel
theorem dX11_pit_61 : decode cX11_pit 61 = .ok (.iconst 0, 1) := by decide +kernel
theorem dX11_pit_62 : decode cX11_pit 62 = .ok (.putfield 124, 3) := by decide +kernel
theorem dX11_pit_65 : decode cX11_pit 65 = .ok (.iconst 0, 1) := by decide +kernel
theorem dX11_pit_66 : decode cX11_pit 66 = .ok (.istore_n 2, 1) := by decide +kernel
theorem dX11_pit_67 : decode cX11_pit 67 = .ok (.iload_n 2, 1) := by decide +kernel
theorem dX11_pit_68 : decode cX11_pit 68 = .ok (.iconst 2, 1) := by decide +kernel
theorem dX11_pit_69 : decode cX11_pit 69 = .ok (.if_icmp .ge 16, 3) := by decide +kernel
theorem dX11_pit_72 : decode cX11_pit 72 = .ok (.aload_n 0, 1) := by decide +kernel
theorem dX11_pit_73 : decode cX11_pit 73 = .ok (.getfield 37, 3) := by decide +kernel
theorem dX11_pit_76 : decode cX11_pit 76 = .ok (.iload_n 2, 1) := by decide +kernel
theorem dX11_pit_77 : decode cX11_pit 77 = .ok (.iconst 0, 1) := by decide +kernel
theorem dX11_pit_78 : decode cX11_pit 78 = .ok (.bastore, 1) := by decide +kernel
theorem dX11_pit_79 : decode cX11_pit 79 = .ok (.iinc 2 1, 3) := by decide +kernel
theorem dX11_pit_82 : decode cX11_pit 82 = .ok (.goto (-15), 3) := by decide +kernel
theorem dX11_pit_85 : decode cX11_pit 85 = .ok (.iload_n 1, 1) := by decide +kernel
theorem dX11_pit_86 : decode cX11_pit 86 = .ok (.ireturn, 1) := by decide +kernel
theorem dX11_man_0 : decode cX11_man 0 = .ok (.aload_n 0, 1) := by decide +kernel
theorem dX11_man_1 : decode cX11_man 1 = .ok (.getfield 23, 3) := by decide +kernel
theorem dX11_man_4 : decode cX11_man 4 = .ok (.iload_n 1, 1) := by decide +kernel
theorem dX11_man_5 : decode cX11_man 5 = .ok (.invokevirtual 127, 3) := by decide +kernel
theorem dX11_man_8 : decode cX11_man 8 = .ok (.ifCond .ne 5, 3) := by decide +kernel
theorem dX11_man_11 : decode cX11_man 11 = .ok (.iconst (-1), 1) := by decide +kernel
theorem dX11_man_12 : decode cX11_man 12 = .ok (.ireturn, 1) := by decide +kernel
theorem dX11_man_13 : decode cX11_man 13 = .ok (.iload_n 2, 1) := by decide +kernel
theorem dX11_man_14 : decode cX11_man 14 = .ok (.tableswitch 56 0 2 #[26, 36, 46], 26) := by decide +kernel
theorem dX11_man_40 : decode cX11_man 40 = .ok (.aload_n 0, 1) := by decide +kernel
theorem dX11_man_41 : decode cX11_man 41 = .ok (.getfield 29, 3) := by decide +kernel
theorem dX11_man_44 : decode cX11_man 44 = .ok (.getfield 131, 3) := by decide +kernel
theorem dX11_man_47 : decode cX11_man 47 = .ok (.iload_n 1, 1) := by decide +kernel
theorem dX11_man_48 : decode cX11_man 48 = .ok (.iaload, 1) := by decide +kernel
theorem dX11_man_49 : decode cX11_man 49 = .ok (.ireturn, 1) := by decide +kernel
theorem dX11_man_50 : decode cX11_man 50 = .ok (.aload_n 0, 1) := by decide +kernel
theorem dX11_man_51 : decode cX11_man 51 = .ok (.getfield 23, 3) := by decide +kernel
theorem dX11_man_54 : decode cX11_man 54 = .ok (.getfield 134, 3) := by decide +kernel
theorem dX11_man_57 : decode cX11_man 57 = .ok (.iload_n 1, 1) := by decide +kernel
theorem dX11_man_58 : decode cX11_man 58 = .ok (.iaload, 1) := by decide +kernel
theorem dX11_man_59 : decode cX11_man 59 = .ok (.ireturn, 1) := by decide +kernel
theorem dX11_man_60 : decode cX11_man 60 = .ok (.aload_n 0, 1) := by decide +kernel
theorem dX11_man_61 : decode cX11_man 61 = .ok (.getfield 29, 3) := by decide +kernel
theorem dX11_man_64 : decode cX11_man 64 = .ok (.getfield 137, 3) := by decide +kernel
theorem dX11_man_67 : decode cX11_man 67 = .ok (.iload_n 1, 1) := by decide +kernel
theorem dX11_man_68 : decode cX11_man 68 = .ok (.iaload, 1) := by decide +kernel
theorem dX11_man_69 : decode cX11_man 69 = .ok (.ireturn, 1) := by decide +kernel
theorem dX11_man_70 : decode cX11_man 70 = .ok (.iconst (-1), 1) := by decide +kernel
theorem dX11_man_71 : decode cX11_man 71 = .ok (.ireturn, 1) := by decide +kernel
theorem dX11_beside_0 : decode cX11_beside 0 = .ok (.aload_n 0, 1) := by decide +kernel
theorem dX11_beside_1 : decode cX11_beside 1 = .ok (.getfield 23, 3) := by decide +kernel
theorem dX11_beside_4 : decode cX11_beside 4 = .ok (.iload_n 1, 1) := by decide +kernel
theorem dX11_beside_5 : decode cX11_beside 5 = .ok (.iload_n 2, 1) := by decide +kernel
theorem dX11_beside_6 : decode cX11_beside 6 = .ok (.invokevirtual 140, 3) := by decide +kernel
theorem dX11_beside_9 : decode cX11_beside 9 = .ok (.ifCond .eq 17, 3) := by decide +kernel
theorem dX11_beside_12 : decode cX11_beside 12 = .ok (.aload_n 0, 1) := by decide +kernel
theorem dX11_beside_13 : decode cX11_beside 13 = .ok (.getfield 23, 3) := by decide +kernel
theorem dX11_beside_16 : decode cX11_beside 16 = .ok (.getfield 144, 3) := by decide +kernel
theorem dX11_beside_19 : decode cX11_beside 19 = .ok (.iload_n 1, 1) := by decide +kernel
theorem dX11_beside_20 : decode cX11_beside 20 = .ok (.aaload, 1) := by decide +kernel
theorem dX11_beside_21 : decode cX11_beside 21 = .ok (.iload_n 2, 1) := by decide +kernel
theorem dX11_beside_22 : decode cX11_beside 22 = .ok (.iaload, 1) := by decide +kernel
theorem dX11_beside_23 : decode cX11_beside 23 = .ok (.goto 5, 3) := by decide +kernel
theorem dX11_beside_26 : decode cX11_beside 26 = .ok (.ldc 148, 2) := by decide +kernel
theorem dX11_beside_28 : decode cX11_beside 28 = .ok (.ireturn, 1) := by decide +kernel
theorem dX11_week_0 : decode cX11_week 0 = .ok (.aload_n 0, 1) := by decide +kernel
theorem dX11_week_1 : decode cX11_week 1 = .ok (.getfield 23, 3) := by decide +kernel
theorem dX11_week_4 : decode cX11_week 4 = .ok (.iload_n 1, 1) := by decide +kernel
theorem dX11_week_5 : decode cX11_week 5 = .ok (.invokevirtual 149, 3) := by decide +kernel
theorem dX11_week_8 : decode cX11_week 8 = .ok (.ifCond .ne 5, 3) := by decide +kernel
theorem dX11_week_11 : decode cX11_week 11 = .ok (.iconst (-1), 1) := by decide +kernel
theorem dX11_week_12 : decode cX11_week 12 = .ok (.ireturn, 1) := by decide +kernel
theorem dX11_week_13 : decode cX11_week 13 = .ok (.aload_n 0, 1) := by decide +kernel
theorem dX11_week_14 : decode cX11_week 14 = .ok (.getfield 29, 3) := by decide +kernel
theorem dX11_week_17 : decode cX11_week 17 = .ok (.getfield 152, 3) := by decide +kernel
theorem dX11_week_20 : decode cX11_week 20 = .ok (.sipush 300, 3) := by decide +kernel
theorem dX11_week_23 : decode cX11_week 23 = .ok (.if_icmp .lt 6, 3) := by decide +kernel
theorem dX11_week_26 : decode cX11_week 26 = .ok (.bipush (-2), 2) := by decide +kernel
theorem dX11_week_28 : decode cX11_week 28 = .ok (.ireturn, 1) := by decide +kernel
theorem dX11_week_29 : decode cX11_week 29 = .ok (.aload_n 0, 1) := by decide +kernel
theorem dX11_week_30 : decode cX11_week 30 = .ok (.getfield 29, 3) := by decide +kernel
theorem dX11_week_33 : decode cX11_week 33 = .ok (.invokevirtual 155, 3) := by decide +kernel
theorem dX11_week_36 : decode cX11_week 36 = .ok (.iconst 0, 1) := by decide +kernel
theorem dX11_week_37 : decode cX11_week 37 = .ok (.istore_n 2, 1) := by decide +kernel
theorem dX11_week_38 : decode cX11_week 38 = .ok (.iconst 0, 1) := by decide +kernel
theorem dX11_week_39 : decode cX11_week 39 = .ok (.istore_n 3, 1) := by decide +kernel
theorem dX11_week_40 : decode cX11_week 40 = .ok (.iload_n 3, 1) := by decide +kernel
theorem dX11_week_41 : decode cX11_week 41 = .ok (.aload_n 0, 1) := by decide +kernel
theorem dX11_week_42 : decode cX11_week 42 = .ok (.getfield 23, 3) := by decide +kernel
theorem dX11_week_45 : decode cX11_week 45 = .ok (.getfield 158, 3) := by decide +kernel
theorem dX11_week_48 : decode cX11_week 48 = .ok (.if_icmp .ge 50, 3) := by decide +kernel
theorem dX11_week_51 : decode cX11_week 51 = .ok (.aload_n 0, 1) := by decide +kernel
theorem dX11_week_52 : decode cX11_week 52 = .ok (.getfield 23, 3) := by decide +kernel
theorem dX11_week_55 : decode cX11_week 55 = .ok (.aload_n 0, 1) := by decide +kernel
theorem dX11_week_56 : decode cX11_week 56 = .ok (.getfield 29, 3) := by decide +kernel
theorem dX11_week_59 : decode cX11_week 59 = .ok (.getfield 131, 3) := by decide +kernel
theorem dX11_week_62 : decode cX11_week 62 = .ok (.iload_n 3, 1) := by decide +kernel
theorem dX11_week_63 : decode cX11_week 63 = .ok (.iaload, 1) := by decide +kernel
theorem dX11_week_64 : decode cX11_week 64 = .ok (.iload_n 3, 1) := by decide +kernel
theorem dX11_week_65 : decode cX11_week 65 = .ok (.iload_n 1, 1) := by decide +kernel
theorem dX11_week_66 : decode cX11_week 66 = .ok (.invokevirtual 161, 3) := by decide +kernel
theorem dX11_week_69 : decode cX11_week 69 = .ok (.istore 4, 2) := by decide +kernel
theorem dX11_week_71 : decode cX11_week 71 = .ok (.iload_n 2, 1) := by decide +kernel
theorem dX11_week_72 : decode cX11_week 72 = .ok (.iload 4, 2) := by decide +kernel
theorem dX11_week_74 : decode cX11_week 74 = .ok (.iadd, 1) := by decide +kernel
theorem dX11_week_75 : decode cX11_week 75 = .ok (.istore_n 2, 1) := by decide +kernel
theorem dX11_week_76 : decode cX11_week 76 = .ok (.iload 4, 2) := by decide +kernel
theorem dX11_week_78 : decode cX11_week 78 = .ok (.ifCond .le 14, 3) := by decide +kernel
theorem dX11_week_81 : decode cX11_week 81 = .ok (.aload_n 0, 1) := by decide +kernel
theorem dX11_week_82 : decode cX11_week 82 = .ok (.getfield 29, 3) := by decide +kernel
theorem dX11_week_85 : decode cX11_week 85 = .ok (.getfield 137, 3) := by decide +kernel
theorem dX11_week_88 : decode cX11_week 88 = .ok (.iload_n 3, 1) := by decide +kernel
theorem dX11_week_89 : decode cX11_week 89 = .ok (.iload 4, 2) := by decide +kernel
theorem dX11_week_91 : decode cX11_week 91 = .ok (.iastore, 1) := by decide +kernel
theorem dX11_week_92 : decode cX11_week 92 = .ok (.iinc 3 1, 3) := by decide +kernel
theorem dX11_week_95 : decode cX11_week 95 = .ok (.goto (-55), 3) := by decide +kernel
theorem dX11_week_98 : decode cX11_week 98 = .ok (.aload_n 0, 1) := by decide +kernel
theorem dX11_week_99 : decode cX11_week 99 = .ok (.getfield 23, 3) := by decide +kernel
theorem dX11_week_102 : decode cX11_week 102 = .ok (.aload_n 0, 1) := by decide +kernel
theorem dX11_week_103 : decode cX11_week 103 = .ok (.getfield 29, 3) := by decide +kernel
theorem dX11_week_106 : decode cX11_week 106 = .ok (.getfield 131, 3) := by decide +kernel
theorem dX11_week_109 : decode cX11_week 109 = .ok (.aload_n 0, 1) := by decide +kernel
theorem dX11_week_110 : decode cX11_week 110 = .ok (.getfield 29, 3) := by decide +kernel
theorem dX11_week_113 : decode cX11_week 113 = .ok (.getfield 131, 3) := by decide +kernel
theorem dX11_week_116 : decode cX11_week 116 = .ok (.iload_n 1, 1) := by decide +kernel
theorem dX11_week_117 : decode cX11_week 117 = .ok (.invokevirtual 165, 3) := by decide +kernel
theorem dX11_week_120 : decode cX11_week 120 = .ok (.aload_n 0, 1) := by decide +kernel
theorem dX11_week_121 : decode cX11_week 121 = .ok (.getfield 29, 3) := by decide +kernel
theorem dX11_week_124 : decode cX11_week 124 = .ok (.ldc 169, 2) := by decide +kernel
theorem dX11_week_126 : decode cX11_week 126 = .ok (.aload_n 0, 1) := by decide +kernel
theorem dX11_week_127 : decode cX11_week 127 = .ok (.getfield 29, 3) := by decide +kernel
theorem dX11_week_130 : decode cX11_week 130 = .ok (.getfield 170, 3) := by decide +kernel
theorem dX11_week_133 : decode cX11_week 133 = .ok (.iload_n 2, 1) := by decide +kernel
theorem dX11_week_134 : decode cX11_week 134 = .ok (.iadd, 1) := by decide +kernel
theorem dX11_week_135 : decode cX11_week 135 = .ok (.invokestatic 173, 3) := by decide +kernel
theorem dX11_week_138 : decode cX11_week 138 = .ok (.putfield 170, 3) := by decide +kernel
theorem dX11_week_141 : decode cX11_week 141 = .ok (.aload_n 0, 1) := by decide +kernel
theorem dX11_week_142 : decode cX11_week 142 = .ok (.getfield 29, 3) := by decide +kernel
theorem dX11_week_145 : decode cX11_week 145 = .ok (.dup, 1) := by decide +kernel
theorem dX11_week_146 : decode cX11_week 146 = .ok (.getfield 152, 3) := by decide +kernel
theorem dX11_week_149 : decode cX11_week 149 = .ok (.iconst 1, 1) := by decide +kernel
theorem dX11_week_150 : decode cX11_week 150 = .ok (.iadd, 1) := by decide +kernel
theorem dX11_week_151 : decode cX11_week 151 = .ok (.putfield 152, 3) := by decide +kernel
theorem dX11_week_154 : decode cX11_week 154 = .ok (.iload_n 2, 1) := by decide +kernel
theorem dX11_week_155 : decode cX11_week 155 = .ok (.ireturn, 1) := by decide +kernel
theorem dX11_quarrel_0 : decode cX11_quarrel 0 = .ok (.aload_n 0, 1) := by decide +kernel
theorem dX11_quarrel_1 : decode cX11_quarrel 1 = .ok (.getfield 23, 3) := by decide +kernel
theorem dX11_quarrel_4 : decode cX11_quarrel 4 = .ok (.iload_n 1, 1) := by decide +kernel
theorem dX11_quarrel_5 : decode cX11_quarrel 5 = .ok (.iload_n 2, 1) := by decide +kernel
theorem dX11_quarrel_6 : decode cX11_quarrel 6 = .ok (.invokevirtual 140, 3) := by decide +kernel
theorem dX11_quarrel_9 : decode cX11_quarrel 9 = .ok (.ifCond .eq 14, 3) := by decide +kernel
theorem dX11_quarrel_12 : decode cX11_quarrel 12 = .ok (.iload_n 3, 1) := by decide +kernel
theorem dX11_quarrel_13 : decode cX11_quarrel 13 = .ok (.iconst 1, 1) := by decide +kernel
theorem dX11_quarrel_14 : decode cX11_quarrel 14 = .ok (.if_icmp .lt 9, 3) := by decide +kernel
theorem dX11_quarrel_17 : decode cX11_quarrel 17 = .ok (.iload_n 3, 1) := by decide +kernel
theorem dX11_quarrel_18 : decode cX11_quarrel 18 = .ok (.bipush 50, 2) := by decide +kernel
theorem dX11_quarrel_20 : decode cX11_quarrel 20 = .ok (.if_icmp .le 5, 3) := by decide +kernel
theorem dX11_quarrel_23 : decode cX11_quarrel 23 = .ok (.iconst (-1), 1) := by decide +kernel
theorem dX11_quarrel_24 : decode cX11_quarrel 24 = .ok (.ireturn, 1) := by decide +kernel
theorem dX11_quarrel_25 : decode cX11_quarrel 25 = .ok (.aload_n 0, 1) := by decide +kernel
theorem dX11_quarrel_26 : decode cX11_quarrel 26 = .ok (.getfield 29, 3) := by decide +kernel
theorem dX11_quarrel_29 : decode cX11_quarrel 29 = .ok (.invokevirtual 155, 3) := by decide +kernel
theorem dX11_quarrel_32 : decode cX11_quarrel 32 = .ok (.aload_n 0, 1) := by decide +kernel
theorem dX11_quarrel_33 : decode cX11_quarrel 33 = .ok (.getfield 29, 3) := by decide +kernel
theorem dX11_quarrel_36 : decode cX11_quarrel 36 = .ok (.getfield 131, 3) := by decide +kernel
theorem dX11_quarrel_39 : decode cX11_quarrel 39 = .ok (.iload_n 1, 1) := by decide +kernel
theorem dX11_quarrel_40 : decode cX11_quarrel 40 = .ok (.sipush 999, 3) := by decide +kernel
theorem dX11_quarrel_43 : decode cX11_quarrel 43 = .ok (.aload_n 0, 1) := by decide +kernel
theorem dX11_quarrel_44 : decode cX11_quarrel 44 = .ok (.getfield 29, 3) := by decide +kernel
theorem dX11_quarrel_47 : decode cX11_quarrel 47 = .ok (.getfield 131, 3) := by decide +kernel
theorem dX11_quarrel_50 : decode cX11_quarrel 50 = .ok (.iload_n 1, 1) := by decide +kernel
theorem dX11_quarrel_51 : decode cX11_quarrel 51 = .ok (.iaload, 1) := by decide +kernel
theorem dX11_quarrel_52 : decode cX11_quarrel 52 = .ok (.iload_n 3, 1) := by decide +kernel
theorem dX11_quarrel_53 : decode cX11_quarrel 53 = .ok (.iadd, 1) := by decide +kernel
theorem dX11_quarrel_54 : decode cX11_quarrel 54 = .ok (.invokestatic 173, 3) := by decide +kernel
theorem dX11_quarrel_57 : decode cX11_quarrel 57 = .ok (.iastore, 1) := by decide +kernel
theorem dX11_quarrel_58 : decode cX11_quarrel 58 = .ok (.aload_n 0, 1) := by decide +kernel
theorem dX11_quarrel_59 : decode cX11_quarrel 59 = .ok (.getfield 29, 3) := by decide +kernel
theorem dX11_quarrel_62 : decode cX11_quarrel 62 = .ok (.getfield 131, 3) := by decide +kernel
theorem dX11_quarrel_65 : decode cX11_quarrel 65 = .ok (.iload_n 2, 1) := by decide +kernel
theorem dX11_quarrel_66 : decode cX11_quarrel 66 = .ok (.sipush 999, 3) := by decide +kernel
theorem dX11_quarrel_69 : decode cX11_quarrel 69 = .ok (.aload_n 0, 1) := by decide +kernel
theorem dX11_quarrel_70 : decode cX11_quarrel 70 = .ok (.getfield 29, 3) := by decide +kernel
theorem dX11_quarrel_73 : decode cX11_quarrel 73 = .ok (.getfield 131, 3) := by decide +kernel
theorem dX11_quarrel_76 : decode cX11_quarrel 76 = .ok (.iload_n 2, 1) := by decide +kernel
theorem dX11_quarrel_77 : decode cX11_quarrel 77 = .ok (.iaload, 1) := by decide +kernel
theorem dX11_quarrel_78 : decode cX11_quarrel 78 = .ok (.iload_n 3, 1) := by decide +kernel
theorem dX11_quarrel_79 : decode cX11_quarrel 79 = .ok (.iadd, 1) := by decide +kernel
theorem dX11_quarrel_80 : decode cX11_quarrel 80 = .ok (.invokestatic 173, 3) := by decide +kernel
theorem dX11_quarrel_83 : decode cX11_quarrel 83 = .ok (.iastore, 1) := by decide +kernel
theorem dX11_quarrel_84 : decode cX11_quarrel 84 = .ok (.aload_n 0, 1) := by decide +kernel
theorem dX11_quarrel_85 : decode cX11_quarrel 85 = .ok (.getfield 29, 3) := by decide +kernel
theorem dX11_quarrel_88 : decode cX11_quarrel 88 = .ok (.getfield 131, 3) := by decide +kernel
theorem dX11_quarrel_91 : decode cX11_quarrel 91 = .ok (.iload_n 1, 1) := by decide +kernel
theorem dX11_quarrel_92 : decode cX11_quarrel 92 = .ok (.iaload, 1) := by decide +kernel
theorem dX11_quarrel_93 : decode cX11_quarrel 93 = .ok (.ireturn, 1) := by decide +kernel
theorem dX11_forgives_0 : decode cX11_forgives 0 = .ok (.aload_n 0, 1) := by decide +kernel
theorem dX11_forgives_1 : decode cX11_forgives 1 = .ok (.getfield 23, 3) := by decide +kernel
theorem dX11_forgives_4 : decode cX11_forgives 4 = .ok (.iload_n 1, 1) := by decide +kernel
theorem dX11_forgives_5 : decode cX11_forgives 5 = .ok (.invokevirtual 127, 3) := by decide +kernel
theorem dX11_forgives_8 : decode cX11_forgives 8 = .ok (.ifCond .ne 5, 3) := by decide +kernel
theorem dX11_forgives_11 : decode cX11_forgives 11 = .ok (.iconst (-1), 1) := by decide +kernel
theorem dX11_forgives_12 : decode cX11_forgives 12 = .ok (.ireturn, 1) := by decide +kernel
theorem dX11_forgives_13 : decode cX11_forgives 13 = .ok (.aload_n 0, 1) := by decide +kernel
theorem dX11_forgives_14 : decode cX11_forgives 14 = .ok (.getfield 29, 3) := by decide +kernel
theorem dX11_forgives_17 : decode cX11_forgives 17 = .ok (.invokevirtual 155, 3) := by decide +kernel
theorem dX11_forgives_20 : decode cX11_forgives 20 = .ok (.aload_n 0, 1) := by decide +kernel
theorem dX11_forgives_21 : decode cX11_forgives 21 = .ok (.getfield 29, 3) := by decide +kernel
theorem dX11_forgives_24 : decode cX11_forgives 24 = .ok (.getfield 131, 3) := by decide +kernel
theorem dX11_forgives_27 : decode cX11_forgives 27 = .ok (.iload_n 1, 1) := by decide +kernel
theorem dX11_forgives_28 : decode cX11_forgives 28 = .ok (.iaload, 1) := by decide +kernel
theorem dX11_forgives_29 : decode cX11_forgives 29 = .ok (.istore_n 2, 1) := by decide +kernel
theorem dX11_forgives_30 : decode cX11_forgives 30 = .ok (.aload_n 0, 1) := by decide +kernel
theorem dX11_forgives_31 : decode cX11_forgives 31 = .ok (.getfield 29, 3) := by decide +kernel
theorem dX11_forgives_34 : decode cX11_forgives 34 = .ok (.getfield 131, 3) := by decide +kernel
theorem dX11_forgives_37 : decode cX11_forgives 37 = .ok (.iload_n 1, 1) := by decide +kernel
theorem dX11_forgives_38 : decode cX11_forgives 38 = .ok (.iconst 0, 1) := by decide +kernel
theorem dX11_forgives_39 : decode cX11_forgives 39 = .ok (.iastore, 1) := by decide +kernel
theorem dX11_forgives_40 : decode cX11_forgives 40 = .ok (.iload_n 2, 1) := by decide +kernel
theorem dX11_forgives_41 : decode cX11_forgives 41 = .ok (.ireturn, 1) := by decide +kernel
theorem dX11_buys_0 : decode cX11_buys 0 = .ok (.aload_n 0, 1) := by decide +kernel
theorem dX11_buys_1 : decode cX11_buys 1 = .ok (.getfield 23, 3) := by decide +kernel
theorem dX11_buys_4 : decode cX11_buys 4 = .ok (.iload_n 1, 1) := by decide +kernel
theorem dX11_buys_5 : decode cX11_buys 5 = .ok (.invokevirtual 127, 3) := by decide +kernel
theorem dX11_buys_8 : decode cX11_buys 8 = .ok (.ifCond .ne 5, 3) := by decide +kernel
theorem dX11_buys_11 : decode cX11_buys 11 = .ok (.iconst (-1), 1) := by decide +kernel
theorem dX11_buys_12 : decode cX11_buys 12 = .ok (.ireturn, 1) := by decide +kernel
theorem dX11_buys_13 : decode cX11_buys 13 = .ok (.aload_n 0, 1) := by decide +kernel
theorem dX11_buys_14 : decode cX11_buys 14 = .ok (.getfield 29, 3) := by decide +kernel
theorem dX11_buys_17 : decode cX11_buys 17 = .ok (.getfield 137, 3) := by decide +kernel
theorem dX11_buys_20 : decode cX11_buys 20 = .ok (.iload_n 1, 1) := by decide +kernel
theorem dX11_buys_21 : decode cX11_buys 21 = .ok (.iaload, 1) := by decide +kernel
theorem dX11_buys_22 : decode cX11_buys 22 = .ok (.istore_n 2, 1) := by decide +kernel
theorem dX11_buys_23 : decode cX11_buys 23 = .ok (.iload_n 2, 1) := by decide +kernel
theorem dX11_buys_24 : decode cX11_buys 24 = .ok (.ifCond .eq 20, 3) := by decide +kernel
theorem dX11_buys_27 : decode cX11_buys 27 = .ok (.aload_n 0, 1) := by decide +kernel
theorem dX11_buys_28 : decode cX11_buys 28 = .ok (.getfield 29, 3) := by decide +kernel
theorem dX11_buys_31 : decode cX11_buys 31 = .ok (.getfield 131, 3) := by decide +kernel
theorem dX11_buys_34 : decode cX11_buys 34 = .ok (.iload_n 1, 1) := by decide +kernel
theorem dX11_buys_35 : decode cX11_buys 35 = .ok (.iaload, 1) := by decide +kernel
theorem dX11_buys_36 : decode cX11_buys 36 = .ok (.iload_n 2, 1) := by decide +kernel
theorem dX11_buys_37 : decode cX11_buys 37 = .ok (.iadd, 1) := by decide +kernel
theorem dX11_buys_38 : decode cX11_buys 38 = .ok (.sipush 999, 3) := by decide +kernel
theorem dX11_buys_41 : decode cX11_buys 41 = .ok (.if_icmp .le 6, 3) := by decide +kernel
theorem dX11_buys_44 : decode cX11_buys 44 = .ok (.bipush (-2), 2) := by decide +kernel
theorem dX11_buys_46 : decode cX11_buys 46 = .ok (.ireturn, 1) := by decide +kernel
theorem dX11_buys_47 : decode cX11_buys 47 = .ok (.aload_n 0, 1) := by decide +kernel
theorem dX11_buys_48 : decode cX11_buys 48 = .ok (.getfield 29, 3) := by decide +kernel
theorem dX11_buys_51 : decode cX11_buys 51 = .ok (.invokevirtual 155, 3) := by decide +kernel
theorem dX11_buys_54 : decode cX11_buys 54 = .ok (.aload_n 0, 1) := by decide +kernel
theorem dX11_buys_55 : decode cX11_buys 55 = .ok (.getfield 29, 3) := by decide +kernel
theorem dX11_buys_58 : decode cX11_buys 58 = .ok (.getfield 131, 3) := by decide +kernel
theorem dX11_buys_61 : decode cX11_buys 61 = .ok (.iload_n 1, 1) := by decide +kernel
theorem dX11_buys_62 : decode cX11_buys 62 = .ok (.dup2, 1) := by decide +kernel
theorem dX11_buys_63 : decode cX11_buys 63 = .ok (.iaload, 1) := by decide +kernel
theorem dX11_buys_64 : decode cX11_buys 64 = .ok (.iload_n 2, 1) := by decide +kernel
theorem dX11_buys_65 : decode cX11_buys 65 = .ok (.iadd, 1) := by decide +kernel
theorem dX11_buys_66 : decode cX11_buys 66 = .ok (.iastore, 1) := by decide +kernel
theorem dX11_buys_67 : decode cX11_buys 67 = .ok (.aload_n 0, 1) := by decide +kernel
theorem dX11_buys_68 : decode cX11_buys 68 = .ok (.getfield 29, 3) := by decide +kernel
theorem dX11_buys_71 : decode cX11_buys 71 = .ok (.getfield 137, 3) := by decide +kernel
theorem dX11_buys_74 : decode cX11_buys 74 = .ok (.iload_n 1, 1) := by decide +kernel
theorem dX11_buys_75 : decode cX11_buys 75 = .ok (.iconst 0, 1) := by decide +kernel
theorem dX11_buys_76 : decode cX11_buys 76 = .ok (.iastore, 1) := by decide +kernel
theorem dX11_buys_77 : decode cX11_buys 77 = .ok (.aload_n 0, 1) := by decide +kernel
theorem dX11_buys_78 : decode cX11_buys 78 = .ok (.getfield 29, 3) := by decide +kernel
theorem dX11_buys_81 : decode cX11_buys 81 = .ok (.dup, 1) := by decide +kernel
theorem dX11_buys_82 : decode cX11_buys 82 = .ok (.getfield 170, 3) := by decide +kernel
theorem dX11_buys_85 : decode cX11_buys 85 = .ok (.iload_n 2, 1) := by decide +kernel
theorem dX11_buys_86 : decode cX11_buys 86 = .ok (.isub, 1) := by decide +kernel
theorem dX11_buys_87 : decode cX11_buys 87 = .ok (.putfield 170, 3) := by decide +kernel
theorem dX11_buys_90 : decode cX11_buys 90 = .ok (.iload_n 2, 1) := by decide +kernel
theorem dX11_buys_91 : decode cX11_buys 91 = .ok (.ireturn, 1) := by decide +kernel
theorem dX11_undo_0 : decode cX11_undo 0 = .ok (.aload_n 0, 1) := by decide +kernel
theorem dX11_undo_1 : decode cX11_undo 1 = .ok (.getfield 29, 3) := by decide +kernel
theorem dX11_undo_4 : decode cX11_undo 4 = .ok (.getfield 179, 3) := by decide +kernel
theorem dX11_undo_7 : decode cX11_undo 7 = .ok (.ifCond .ne 6, 3) := by decide +kernel
theorem dX11_undo_10 : decode cX11_undo 10 = .ok (.bipush (-2), 2) := by decide +kernel
theorem dX11_undo_12 : decode cX11_undo 12 = .ok (.ireturn, 1) := by decide +kernel
theorem dX11_undo_13 : decode cX11_undo 13 = .ok (.aload_n 0, 1) := by decide +kernel
theorem dX11_undo_14 : decode cX11_undo 14 = .ok (.getfield 29, 3) := by decide +kernel
theorem dX11_undo_17 : decode cX11_undo 17 = .ok (.invokevirtual 182, 3) := by decide +kernel
theorem dX11_undo_20 : decode cX11_undo 20 = .ok (.aload_n 0, 1) := by decide +kernel
theorem dX11_undo_21 : decode cX11_undo 21 = .ok (.getfield 29, 3) := by decide +kernel
theorem dX11_undo_24 : decode cX11_undo 24 = .ok (.getfield 179, 3) := by decide +kernel
theorem dX11_undo_27 : decode cX11_undo 27 = .ok (.ireturn, 1) := by decide +kernel
theorem dX11_now_0 : decode cX11_now 0 = .ok (.iload_n 1, 1) := by decide +kernel
theorem dX11_now_1 : decode cX11_now 1 = .ok (.tableswitch 80 0 4 #[35, 43, 51, 63, 75], 35) := by decide +kernel
theorem dX11_now_36 : decode cX11_now 36 = .ok (.aload_n 0, 1) := by decide +kernel
theorem dX11_now_37 : decode cX11_now 37 = .ok (.getfield 29, 3) := by decide +kernel
theorem dX11_now_40 : decode cX11_now 40 = .ok (.getfield 152, 3) := by decide +kernel
theorem dX11_now_43 : decode cX11_now 43 = .ok (.ireturn, 1) := by decide +kernel
theorem dX11_now_44 : decode cX11_now 44 = .ok (.aload_n 0, 1) := by decide +kernel
theorem dX11_now_45 : decode cX11_now 45 = .ok (.getfield 29, 3) := by decide +kernel
theorem dX11_now_48 : decode cX11_now 48 = .ok (.getfield 170, 3) := by decide +kernel
theorem dX11_now_51 : decode cX11_now 51 = .ok (.ireturn, 1) := by decide +kernel
theorem dX11_now_52 : decode cX11_now 52 = .ok (.aload_n 0, 1) := by decide +kernel
theorem dX11_now_53 : decode cX11_now 53 = .ok (.aload_n 0, 1) := by decide +kernel
theorem dX11_now_54 : decode cX11_now 54 = .ok (.getfield 29, 3) := by decide +kernel
theorem dX11_now_57 : decode cX11_now 57 = .ok (.getfield 131, 3) := by decide +kernel
theorem dX11_now_60 : decode cX11_now 60 = .ok (.invokevirtual 185, 3) := by decide +kernel
theorem dX11_now_63 : decode cX11_now 63 = .ok (.ireturn, 1) := by decide +kernel
theorem dX11_now_64 : decode cX11_now 64 = .ok (.aload_n 0, 1) := by decide +kernel
theorem dX11_now_65 : decode cX11_now 65 = .ok (.aload_n 0, 1) := by decide +kernel
theorem dX11_now_66 : decode cX11_now 66 = .ok (.getfield 29, 3) := by decide +kernel
theorem dX11_now_69 : decode cX11_now 69 = .ok (.getfield 137, 3) := by decide +kernel
theorem dX11_now_72 : decode cX11_now 72 = .ok (.invokevirtual 185, 3) := by decide +kernel
theorem dX11_now_75 : decode cX11_now 75 = .ok (.ireturn, 1) := by decide +kernel
theorem dX11_now_76 : decode cX11_now 76 = .ok (.aload_n 0, 1) := by decide +kernel
theorem dX11_now_77 : decode cX11_now 77 = .ok (.invokevirtual 189, 3) := by decide +kernel
theorem dX11_now_80 : decode cX11_now 80 = .ok (.ireturn, 1) := by decide +kernel
theorem dX11_now_81 : decode cX11_now 81 = .ok (.iconst (-1), 1) := by decide +kernel
theorem dX11_now_82 : decode cX11_now 82 = .ok (.ireturn, 1) := by decide +kernel
theorem dX11_sumOf_0 : decode cX11_sumOf 0 = .ok (.iconst 0, 1) := by decide +kernel
theorem dX11_sumOf_1 : decode cX11_sumOf 1 = .ok (.istore_n 2, 1) := by decide +kernel
theorem dX11_sumOf_2 : decode cX11_sumOf 2 = .ok (.iconst 0, 1) := by decide +kernel
theorem dX11_sumOf_3 : decode cX11_sumOf 3 = .ok (.istore_n 3, 1) := by decide +kernel
theorem dX11_sumOf_4 : decode cX11_sumOf 4 = .ok (.iload_n 3, 1) := by decide +kernel
theorem dX11_sumOf_5 : decode cX11_sumOf 5 = .ok (.aload_n 0, 1) := by decide +kernel
theorem dX11_sumOf_6 : decode cX11_sumOf 6 = .ok (.getfield 23, 3) := by decide +kernel
theorem dX11_sumOf_9 : decode cX11_sumOf 9 = .ok (.getfield 158, 3) := by decide +kernel
theorem dX11_sumOf_12 : decode cX11_sumOf 12 = .ok (.if_icmp .ge 15, 3) := by decide +kernel
theorem dX11_sumOf_15 : decode cX11_sumOf 15 = .ok (.iload_n 2, 1) := by decide +kernel
theorem dX11_sumOf_16 : decode cX11_sumOf 16 = .ok (.aload_n 1, 1) := by decide +kernel
theorem dX11_sumOf_17 : decode cX11_sumOf 17 = .ok (.iload_n 3, 1) := by decide +kernel
theorem dX11_sumOf_18 : decode cX11_sumOf 18 = .ok (.iaload, 1) := by decide +kernel
theorem dX11_sumOf_19 : decode cX11_sumOf 19 = .ok (.iadd, 1) := by decide +kernel
theorem dX11_sumOf_20 : decode cX11_sumOf 20 = .ok (.istore_n 2, 1) := by decide +kernel
theorem dX11_sumOf_21 : decode cX11_sumOf 21 = .ok (.iinc 3 1, 3) := by decide +kernel
theorem dX11_sumOf_24 : decode cX11_sumOf 24 = .ok (.goto (-20), 3) := by decide +kernel
theorem dX11_sumOf_27 : decode cX11_sumOf 27 = .ok (.iload_n 2, 1) := by decide +kernel
theorem dX11_sumOf_28 : decode cX11_sumOf 28 = .ok (.ireturn, 1) := by decide +kernel
theorem dX11_payForAll_0 : decode cX11_payForAll 0 = .ok (.iconst 0, 1) := by decide +kernel
theorem dX11_payForAll_1 : decode cX11_payForAll 1 = .ok (.istore_n 1, 1) := by decide +kernel
theorem dX11_payForAll_2 : decode cX11_payForAll 2 = .ok (.iconst 0, 1) := by decide +kernel
theorem dX11_payForAll_3 : decode cX11_payForAll 3 = .ok (.istore_n 2, 1) := by decide +kernel
theorem dX11_payForAll_4 : decode cX11_payForAll 4 = .ok (.iload_n 2, 1) := by decide +kernel
theorem dX11_payForAll_5 : decode cX11_payForAll 5 = .ok (.aload_n 0, 1) := by decide +kernel
theorem dX11_payForAll_6 : decode cX11_payForAll 6 = .ok (.getfield 23, 3) := by decide +kernel
theorem dX11_payForAll_9 : decode cX11_payForAll 9 = .ok (.getfield 158, 3) := by decide +kernel
theorem dX11_payForAll_12 : decode cX11_payForAll 12 = .ok (.if_icmp .ge 27, 3) := by decide +kernel
theorem dX11_payForAll_15 : decode cX11_payForAll 15 = .ok (.iload_n 1, 1) := by decide +kernel
theorem dX11_payForAll_16 : decode cX11_payForAll 16 = .ok (.aload_n 0, 1) := by decide +kernel
theorem dX11_payForAll_17 : decode cX11_payForAll 17 = .ok (.getfield 29, 3) := by decide +kernel
theorem dX11_payForAll_20 : decode cX11_payForAll 20 = .ok (.getfield 131, 3) := by decide +kernel
theorem dX11_payForAll_23 : decode cX11_payForAll 23 = .ok (.iload_n 2, 1) := by decide +kernel
theorem dX11_payForAll_24 : decode cX11_payForAll 24 = .ok (.iaload, 1) := by decide +kernel
theorem dX11_payForAll_25 : decode cX11_payForAll 25 = .ok (.iconst 2, 1) := by decide +kernel
theorem dX11_payForAll_26 : decode cX11_payForAll 26 = .ok (.idiv, 1) := by decide +kernel
theorem dX11_payForAll_27 : decode cX11_payForAll 27 = .ok (.iconst 1, 1) := by decide +kernel
theorem dX11_payForAll_28 : decode cX11_payForAll 28 = .ok (.iadd, 1) := by decide +kernel
theorem dX11_payForAll_29 : decode cX11_payForAll 29 = .ok (.invokestatic 193, 3) := by decide +kernel
theorem dX11_payForAll_32 : decode cX11_payForAll 32 = .ok (.istore_n 1, 1) := by decide +kernel
theorem dX11_payForAll_33 : decode cX11_payForAll 33 = .ok (.iinc 2 1, 3) := by decide +kernel
theorem dX11_payForAll_36 : decode cX11_payForAll 36 = .ok (.goto (-32), 3) := by decide +kernel
theorem dX11_payForAll_39 : decode cX11_payForAll 39 = .ok (.iload_n 1, 1) := by decide +kernel
theorem dX11_payForAll_40 : decode cX11_payForAll 40 = .ok (.ireturn, 1) := by decide +kernel
theorem dX11_yieldOf_0 : decode cX11_yieldOf 0 = .ok (.aload_n 0, 1) := by decide +kernel
theorem dX11_yieldOf_1 : decode cX11_yieldOf 1 = .ok (.getfield 23, 3) := by decide +kernel
theorem dX11_yieldOf_4 : decode cX11_yieldOf 4 = .ok (.iload_n 1, 1) := by decide +kernel
theorem dX11_yieldOf_5 : decode cX11_yieldOf 5 = .ok (.invokevirtual 149, 3) := by decide +kernel
theorem dX11_yieldOf_8 : decode cX11_yieldOf 8 = .ok (.ifCond .eq 21, 3) := by decide +kernel
theorem dX11_yieldOf_11 : decode cX11_yieldOf 11 = .ok (.aload_n 0, 1) := by decide +kernel
theorem dX11_yieldOf_12 : decode cX11_yieldOf 12 = .ok (.getfield 23, 3) := by decide +kernel
theorem dX11_yieldOf_15 : decode cX11_yieldOf 15 = .ok (.aload_n 0, 1) := by decide +kernel
theorem dX11_yieldOf_16 : decode cX11_yieldOf 16 = .ok (.getfield 29, 3) := by decide +kernel
theorem dX11_yieldOf_19 : decode cX11_yieldOf 19 = .ok (.getfield 131, 3) := by decide +kernel
theorem dX11_yieldOf_22 : decode cX11_yieldOf 22 = .ok (.iload_n 1, 1) := by decide +kernel
theorem dX11_yieldOf_23 : decode cX11_yieldOf 23 = .ok (.invokevirtual 196, 3) := by decide +kernel
theorem dX11_yieldOf_26 : decode cX11_yieldOf 26 = .ok (.goto 4, 3) := by decide +kernel
theorem dX11_yieldOf_29 : decode cX11_yieldOf 29 = .ok (.iconst (-1), 1) := by decide +kernel
theorem dX11_yieldOf_30 : decode cX11_yieldOf 30 = .ok (.ireturn, 1) := by decide +kernel
theorem dX11_best_0 : decode cX11_best 0 = .ok (.iload_n 1, 1) := by decide +kernel
theorem dX11_best_1 : decode cX11_best 1 = .ok (.ifCond .lt 8, 3) := by decide +kernel
theorem dX11_best_4 : decode cX11_best 4 = .ok (.iload_n 1, 1) := by decide +kernel
theorem dX11_best_5 : decode cX11_best 5 = .ok (.iconst 1, 1) := by decide +kernel
theorem dX11_best_6 : decode cX11_best 6 = .ok (.if_icmp .le 5, 3) := by decide +kernel
theorem dX11_best_9 : decode cX11_best 9 = .ok (.iconst (-1), 1) := by decide +kernel
theorem dX11_best_10 : decode cX11_best 10 = .ok (.ireturn, 1) := by decide +kernel
theorem dX11_best_11 : decode cX11_best 11 = .ok (.iconst 0, 1) := by decide +kernel
theorem dX11_best_12 : decode cX11_best 12 = .ok (.istore_n 2, 1) := by decide +kernel
theorem dX11_best_13 : decode cX11_best 13 = .ok (.iconst 0, 1) := by decide +kernel
theorem dX11_best_14 : decode cX11_best 14 = .ok (.istore_n 3, 1) := by decide +kernel
theorem dX11_best_15 : decode cX11_best 15 = .ok (.iconst 1, 1) := by decide +kernel
theorem dX11_best_16 : decode cX11_best 16 = .ok (.istore 4, 2) := by decide +kernel
theorem dX11_best_18 : decode cX11_best 18 = .ok (.iload 4, 2) := by decide +kernel
theorem dX11_best_20 : decode cX11_best 20 = .ok (.iconst 1, 1) := by decide +kernel
theorem dX11_best_21 : decode cX11_best 21 = .ok (.aload_n 0, 1) := by decide +kernel
theorem dX11_best_22 : decode cX11_best 22 = .ok (.getfield 23, 3) := by decide +kernel
theorem dX11_best_25 : decode cX11_best 25 = .ok (.getfield 158, 3) := by decide +kernel
theorem dX11_best_28 : decode cX11_best 28 = .ok (.ishl, 1) := by decide +kernel
theorem dX11_best_29 : decode cX11_best 29 = .ok (.if_icmp .ge 55, 3) := by decide +kernel
theorem dX11_best_32 : decode cX11_best 32 = .ok (.aload_n 0, 1) := by decide +kernel
theorem dX11_best_33 : decode cX11_best 33 = .ok (.getfield 23, 3) := by decide +kernel
theorem dX11_best_36 : decode cX11_best 36 = .ok (.iload 4, 2) := by decide +kernel
theorem dX11_best_38 : decode cX11_best 38 = .ok (.invokevirtual 149, 3) := by decide +kernel
theorem dX11_best_41 : decode cX11_best 41 = .ok (.ifCond .eq 22, 3) := by decide +kernel
theorem dX11_best_44 : decode cX11_best 44 = .ok (.aload_n 0, 1) := by decide +kernel
theorem dX11_best_45 : decode cX11_best 45 = .ok (.getfield 23, 3) := by decide +kernel
theorem dX11_best_48 : decode cX11_best 48 = .ok (.aload_n 0, 1) := by decide +kernel
theorem dX11_best_49 : decode cX11_best 49 = .ok (.getfield 29, 3) := by decide +kernel
theorem dX11_best_52 : decode cX11_best 52 = .ok (.getfield 131, 3) := by decide +kernel
theorem dX11_best_55 : decode cX11_best 55 = .ok (.iload 4, 2) := by decide +kernel
theorem dX11_best_57 : decode cX11_best 57 = .ok (.invokevirtual 196, 3) := by decide +kernel
theorem dX11_best_60 : decode cX11_best 60 = .ok (.goto 4, 3) := by decide +kernel
theorem dX11_best_63 : decode cX11_best 63 = .ok (.iconst 0, 1) := by decide +kernel
theorem dX11_best_64 : decode cX11_best 64 = .ok (.istore 5, 2) := by decide +kernel
theorem dX11_best_66 : decode cX11_best 66 = .ok (.iload 5, 2) := by decide +kernel
theorem dX11_best_68 : decode cX11_best 68 = .ok (.iload_n 3, 1) := by decide +kernel
theorem dX11_best_69 : decode cX11_best 69 = .ok (.if_icmp .le 9, 3) := by decide +kernel
theorem dX11_best_72 : decode cX11_best 72 = .ok (.iload 5, 2) := by decide +kernel
theorem dX11_best_74 : decode cX11_best 74 = .ok (.istore_n 3, 1) := by decide +kernel
theorem dX11_best_75 : decode cX11_best 75 = .ok (.iload 4, 2) := by decide +kernel
theorem dX11_best_77 : decode cX11_best 77 = .ok (.istore_n 2, 1) := by decide +kernel
theorem dX11_best_78 : decode cX11_best 78 = .ok (.iinc 4 1, 3) := by decide +kernel
theorem dX11_best_81 : decode cX11_best 81 = .ok (.goto (-63), 3) := by decide +kernel
theorem dX11_best_84 : decode cX11_best 84 = .ok (.iload_n 1, 1) := by decide +kernel
theorem dX11_best_85 : decode cX11_best 85 = .ok (.ifCond .ne 7, 3) := by decide +kernel
theorem dX11_best_88 : decode cX11_best 88 = .ok (.iload_n 2, 1) := by decide +kernel
theorem dX11_best_89 : decode cX11_best 89 = .ok (.goto 4, 3) := by decide +kernel
theorem dX11_best_92 : decode cX11_best 92 = .ok (.iload_n 3, 1) := by decide +kernel
theorem dX11_best_93 : decode cX11_best 93 = .ok (.ireturn, 1) := by decide +kernel
theorem dX11_plan_0 : decode cX11_plan 0 = .ok (.iload_n 1, 1) := by decide +kernel
theorem dX11_plan_1 : decode cX11_plan 1 = .ok (.iconst 1, 1) := by decide +kernel
theorem dX11_plan_2 : decode cX11_plan 2 = .ok (.if_icmp .lt 28, 3) := by decide +kernel
theorem dX11_plan_5 : decode cX11_plan 5 = .ok (.iload_n 1, 1) := by decide +kernel
theorem dX11_plan_6 : decode cX11_plan 6 = .ok (.iconst 3, 1) := by decide +kernel
theorem dX11_plan_7 : decode cX11_plan 7 = .ok (.if_icmp .gt 23, 3) := by decide +kernel
theorem dX11_plan_10 : decode cX11_plan 10 = .ok (.iload_n 2, 1) := by decide +kernel
theorem dX11_plan_11 : decode cX11_plan 11 = .ok (.ifCond .lt 19, 3) := by decide +kernel
theorem dX11_plan_14 : decode cX11_plan 14 = .ok (.iload_n 2, 1) := by decide +kernel
theorem dX11_plan_15 : decode cX11_plan 15 = .ok (.bipush 99, 2) := by decide +kernel
theorem dX11_plan_17 : decode cX11_plan 17 = .ok (.if_icmp .gt 13, 3) := by decide +kernel
theorem dX11_plan_20 : decode cX11_plan 20 = .ok (.iload_n 3, 1) := by decide +kernel
theorem dX11_plan_21 : decode cX11_plan 21 = .ok (.iconst (-1), 1) := by decide +kernel
theorem dX11_plan_22 : decode cX11_plan 22 = .ok (.if_icmp .lt 8, 3) := by decide +kernel
theorem dX11_plan_25 : decode cX11_plan 25 = .ok (.iload_n 3, 1) := by decide +kernel
theorem dX11_plan_26 : decode cX11_plan 26 = .ok (.iconst 3, 1) := by decide +kernel
theorem dX11_plan_27 : decode cX11_plan 27 = .ok (.if_icmp .lt 5, 3) := by decide +kernel
theorem dX11_plan_30 : decode cX11_plan 30 = .ok (.iconst (-1), 1) := by decide +kernel
theorem dX11_plan_31 : decode cX11_plan 31 = .ok (.ireturn, 1) := by decide +kernel
theorem dX11_plan_32 : decode cX11_plan 32 = .ok (.iload_n 3, 1) := by decide +kernel
theorem dX11_plan_33 : decode cX11_plan 33 = .ok (.iload_n 1, 1) := by decide +kernel
theorem dX11_plan_34 : decode cX11_plan 34 = .ok (.if_icmp .lt 6, 3) := by decide +kernel
theorem dX11_plan_37 : decode cX11_plan 37 = .ok (.bipush (-9), 2) := by decide +kernel
theorem dX11_plan_39 : decode cX11_plan 39 = .ok (.ireturn, 1) := by decide +kernel
theorem dX11_plan_40 : decode cX11_plan 40 = .ok (.aload_n 0, 1) := by decide +kernel
theorem dX11_plan_41 : decode cX11_plan 41 = .ok (.getfield 44, 3) := by decide +kernel
theorem dX11_plan_44 : decode cX11_plan 44 = .ok (.aload_n 0, 1) := by decide +kernel
theorem dX11_plan_45 : decode cX11_plan 45 = .ok (.getfield 23, 3) := by decide +kernel
theorem dX11_plan_48 : decode cX11_plan 48 = .ok (.aload_n 0, 1) := by decide +kernel
theorem dX11_plan_49 : decode cX11_plan 49 = .ok (.getfield 29, 3) := by decide +kernel
theorem dX11_plan_52 : decode cX11_plan 52 = .ok (.getfield 131, 3) := by decide +kernel
theorem dX11_plan_55 : decode cX11_plan 55 = .ok (.iload_n 1, 1) := by decide +kernel
theorem dX11_plan_56 : decode cX11_plan 56 = .ok (.iload_n 2, 1) := by decide +kernel
theorem dX11_plan_57 : decode cX11_plan 57 = .ok (.invokevirtual 200, 3) := by decide +kernel
theorem dX11_plan_60 : decode cX11_plan 60 = .ok (.iload_n 3, 1) := by decide +kernel
theorem dX11_plan_61 : decode cX11_plan 61 = .ok (.ifCond .ge 13, 3) := by decide +kernel
theorem dX11_plan_64 : decode cX11_plan 64 = .ok (.aload_n 0, 1) := by decide +kernel
theorem dX11_plan_65 : decode cX11_plan 65 = .ok (.getfield 44, 3) := by decide +kernel
theorem dX11_plan_68 : decode cX11_plan 68 = .ok (.getfield 204, 3) := by decide +kernel
theorem dX11_plan_71 : decode cX11_plan 71 = .ok (.goto 12, 3) := by decide +kernel
theorem dX11_plan_74 : decode cX11_plan 74 = .ok (.aload_n 0, 1) := by decide +kernel
theorem dX11_plan_75 : decode cX11_plan 75 = .ok (.getfield 44, 3) := by decide +kernel
theorem dX11_plan_78 : decode cX11_plan 78 = .ok (.getfield 207, 3) := by decide +kernel
theorem dX11_plan_81 : decode cX11_plan 81 = .ok (.iload_n 3, 1) := by decide +kernel
theorem dX11_plan_82 : decode cX11_plan 82 = .ok (.iaload, 1) := by decide +kernel
theorem dX11_plan_83 : decode cX11_plan 83 = .ok (.ireturn, 1) := by decide +kernel
theorem dX11_lean_0 : decode cX11_lean 0 = .ok (.aload_n 0, 1) := by decide +kernel
theorem dX11_lean_1 : decode cX11_lean 1 = .ok (.getfield 23, 3) := by decide +kernel
theorem dX11_lean_4 : decode cX11_lean 4 = .ok (.iload_n 1, 1) := by decide +kernel
theorem dX11_lean_5 : decode cX11_lean 5 = .ok (.invokevirtual 149, 3) := by decide +kernel
theorem dX11_lean_8 : decode cX11_lean 8 = .ok (.ifCond .eq 15, 3) := by decide +kernel
theorem dX11_lean_11 : decode cX11_lean 11 = .ok (.iload_n 2, 1) := by decide +kernel
theorem dX11_lean_12 : decode cX11_lean 12 = .ok (.iconst 1, 1) := by decide +kernel
theorem dX11_lean_13 : decode cX11_lean 13 = .ok (.if_icmp .lt 10, 3) := by decide +kernel
theorem dX11_lean_16 : decode cX11_lean 16 = .ok (.iload_n 2, 1) := by decide +kernel
theorem dX11_lean_17 : decode cX11_lean 17 = .ok (.sipush 999, 3) := by decide +kernel
theorem dX11_lean_20 : decode cX11_lean 20 = .ok (.if_icmp .le 5, 3) := by decide +kernel
theorem dX11_lean_23 : decode cX11_lean 23 = .ok (.iconst (-1), 1) := by decide +kernel
theorem dX11_lean_24 : decode cX11_lean 24 = .ok (.ireturn, 1) := by decide +kernel
theorem dX11_lean_25 : decode cX11_lean 25 = .ok (.aload_n 0, 1) := by decide +kernel
theorem dX11_lean_26 : decode cX11_lean 26 = .ok (.getfield 29, 3) := by decide +kernel
theorem dX11_lean_29 : decode cX11_lean 29 = .ok (.getfield 131, 3) := by decide +kernel
theorem dX11_lean_32 : decode cX11_lean 32 = .ok (.iconst 0, 1) := by decide +kernel
theorem dX11_lean_33 : decode cX11_lean 33 = .ok (.aload_n 0, 1) := by decide +kernel
theorem dX11_lean_34 : decode cX11_lean 34 = .ok (.getfield 77, 3) := by decide +kernel
theorem dX11_lean_37 : decode cX11_lean 37 = .ok (.iconst 0, 1) := by decide +kernel
theorem dX11_lean_38 : decode cX11_lean 38 = .ok (.bipush 6, 2) := by decide +kernel
theorem dX11_lean_40 : decode cX11_lean 40 = .ok (.invokestatic 210, 3) := by decide +kernel
theorem dX11_lean_43 : decode cX11_lean 43 = .ok (.iconst 1, 1) := by decide +kernel
theorem dX11_lean_44 : decode cX11_lean 44 = .ok (.istore_n 3, 1) := by decide +kernel
theorem dX11_lean_45 : decode cX11_lean 45 = .ok (.iload_n 3, 1) := by decide +kernel
theorem dX11_lean_46 : decode cX11_lean 46 = .ok (.bipush 60, 2) := by decide +kernel
theorem dX11_lean_48 : decode cX11_lean 48 = .ok (.if_icmp .gt 43, 3) := by decide +kernel
theorem dX11_lean_51 : decode cX11_lean 51 = .ok (.aload_n 0, 1) := by decide +kernel
theorem dX11_lean_52 : decode cX11_lean 52 = .ok (.getfield 23, 3) := by decide +kernel
theorem dX11_lean_55 : decode cX11_lean 55 = .ok (.aload_n 0, 1) := by decide +kernel
theorem dX11_lean_56 : decode cX11_lean 56 = .ok (.getfield 77, 3) := by decide +kernel
theorem dX11_lean_59 : decode cX11_lean 59 = .ok (.iload_n 1, 1) := by decide +kernel
theorem dX11_lean_60 : decode cX11_lean 60 = .ok (.invokevirtual 196, 3) := by decide +kernel
theorem dX11_lean_63 : decode cX11_lean 63 = .ok (.iload_n 2, 1) := by decide +kernel
theorem dX11_lean_64 : decode cX11_lean 64 = .ok (.if_icmp .ge 5, 3) := by decide +kernel
theorem dX11_lean_67 : decode cX11_lean 67 = .ok (.iload_n 3, 1) := by decide +kernel
theorem dX11_lean_68 : decode cX11_lean 68 = .ok (.ireturn, 1) := by decide +kernel
theorem dX11_lean_69 : decode cX11_lean 69 = .ok (.aload_n 0, 1) := by decide +kernel
theorem dX11_lean_70 : decode cX11_lean 70 = .ok (.getfield 23, 3) := by decide +kernel
theorem dX11_lean_73 : decode cX11_lean 73 = .ok (.aload_n 0, 1) := by decide +kernel
theorem dX11_lean_74 : decode cX11_lean 74 = .ok (.getfield 77, 3) := by decide +kernel
theorem dX11_lean_77 : decode cX11_lean 77 = .ok (.aload_n 0, 1) := by decide +kernel
theorem dX11_lean_78 : decode cX11_lean 78 = .ok (.getfield 77, 3) := by decide +kernel
theorem dX11_lean_81 : decode cX11_lean 81 = .ok (.iload_n 1, 1) := by decide +kernel
theorem dX11_lean_82 : decode cX11_lean 82 = .ok (.invokevirtual 165, 3) := by decide +kernel
theorem dX11_lean_85 : decode cX11_lean 85 = .ok (.iinc 3 1, 3) := by decide +kernel
theorem dX11_lean_88 : decode cX11_lean 88 = .ok (.goto (-43), 3) := by decide +kernel
theorem dX11_lean_91 : decode cX11_lean 91 = .ok (.bipush (-9), 2) := by decide +kernel
theorem dX11_lean_93 : decode cX11_lean 93 = .ok (.ireturn, 1) := by decide +kernel
theorem dX11_still_0 : decode cX11_still 0 = .ok (.aload_n 0, 1) := by decide +kernel
theorem dX11_still_1 : decode cX11_still 1 = .ok (.getfield 23, 3) := by decide +kernel
theorem dX11_still_4 : decode cX11_still 4 = .ok (.iload_n 1, 1) := by decide +kernel
theorem dX11_still_5 : decode cX11_still 5 = .ok (.invokevirtual 149, 3) := by decide +kernel
theorem dX11_still_8 : decode cX11_still 8 = .ok (.ifCond .eq 24, 3) := by decide +kernel
theorem dX11_still_11 : decode cX11_still 11 = .ok (.iload_n 2, 1) := by decide +kernel
theorem dX11_still_12 : decode cX11_still 12 = .ok (.ifCond .lt 20, 3) := by decide +kernel
theorem dX11_still_15 : decode cX11_still 15 = .ok (.iload_n 2, 1) := by decide +kernel
theorem dX11_still_16 : decode cX11_still 16 = .ok (.bipush 60, 2) := by decide +kernel
theorem dX11_still_18 : decode cX11_still 18 = .ok (.if_icmp .gt 14, 3) := by decide +kernel
theorem dX11_still_21 : decode cX11_still 21 = .ok (.aload_n 0, 1) := by decide +kernel
theorem dX11_still_22 : decode cX11_still 22 = .ok (.getfield 23, 3) := by decide +kernel
theorem dX11_still_25 : decode cX11_still 25 = .ok (.iload_n 3, 1) := by decide +kernel
theorem dX11_still_26 : decode cX11_still 26 = .ok (.invokevirtual 127, 3) := by decide +kernel
theorem dX11_still_29 : decode cX11_still 29 = .ok (.ifCond .ne 5, 3) := by decide +kernel
theorem dX11_still_32 : decode cX11_still 32 = .ok (.iconst (-1), 1) := by decide +kernel
theorem dX11_still_33 : decode cX11_still 33 = .ok (.ireturn, 1) := by decide +kernel
theorem dX11_still_34 : decode cX11_still 34 = .ok (.aload_n 0, 1) := by decide +kernel
theorem dX11_still_35 : decode cX11_still 35 = .ok (.getfield 29, 3) := by decide +kernel
theorem dX11_still_38 : decode cX11_still 38 = .ok (.getfield 131, 3) := by decide +kernel
theorem dX11_still_41 : decode cX11_still 41 = .ok (.iconst 0, 1) := by decide +kernel
theorem dX11_still_42 : decode cX11_still 42 = .ok (.aload_n 0, 1) := by decide +kernel
theorem dX11_still_43 : decode cX11_still 43 = .ok (.getfield 77, 3) := by decide +kernel
theorem dX11_still_46 : decode cX11_still 46 = .ok (.iconst 0, 1) := by decide +kernel
theorem dX11_still_47 : decode cX11_still 47 = .ok (.bipush 6, 2) := by decide +kernel
theorem dX11_still_49 : decode cX11_still 49 = .ok (.invokestatic 210, 3) := by decide +kernel
theorem dX11_still_52 : decode cX11_still 52 = .ok (.iconst 0, 1) := by decide +kernel
theorem dX11_still_53 : decode cX11_still 53 = .ok (.istore 4, 2) := by decide +kernel
theorem dX11_still_55 : decode cX11_still 55 = .ok (.iload 4, 2) := by decide +kernel
theorem dX11_still_57 : decode cX11_still 57 = .ok (.iload_n 2, 1) := by decide +kernel
theorem dX11_still_58 : decode cX11_still 58 = .ok (.if_icmp .ge 25, 3) := by decide +kernel
theorem dX11_still_61 : decode cX11_still 61 = .ok (.aload_n 0, 1) := by decide +kernel
theorem dX11_still_62 : decode cX11_still 62 = .ok (.getfield 23, 3) := by decide +kernel
theorem dX11_still_65 : decode cX11_still 65 = .ok (.aload_n 0, 1) := by decide +kernel
theorem dX11_still_66 : decode cX11_still 66 = .ok (.getfield 77, 3) := by decide +kernel
theorem dX11_still_69 : decode cX11_still 69 = .ok (.aload_n 0, 1) := by decide +kernel
theorem dX11_still_70 : decode cX11_still 70 = .ok (.getfield 77, 3) := by decide +kernel
theorem dX11_still_73 : decode cX11_still 73 = .ok (.iload_n 1, 1) := by decide +kernel
theorem dX11_still_74 : decode cX11_still 74 = .ok (.invokevirtual 165, 3) := by decide +kernel
theorem dX11_still_77 : decode cX11_still 77 = .ok (.iinc 4 1, 3) := by decide +kernel
theorem dX11_still_80 : decode cX11_still 80 = .ok (.goto (-25), 3) := by decide +kernel
theorem dX11_still_83 : decode cX11_still 83 = .ok (.aload_n 0, 1) := by decide +kernel
theorem dX11_still_84 : decode cX11_still 84 = .ok (.getfield 77, 3) := by decide +kernel
theorem dX11_still_87 : decode cX11_still 87 = .ok (.iload_n 3, 1) := by decide +kernel
theorem dX11_still_88 : decode cX11_still 88 = .ok (.iaload, 1) := by decide +kernel
theorem dX11_still_89 : decode cX11_still 89 = .ok (.ireturn, 1) := by decide +kernel
theorem dX11_temper_0 : decode cX11_temper 0 = .ok (.aload_n 0, 1) := by decide +kernel
theorem dX11_temper_1 : decode cX11_temper 1 = .ok (.getfield 23, 3) := by decide +kernel
theorem dX11_temper_4 : decode cX11_temper 4 = .ok (.iload_n 1, 1) := by decide +kernel
theorem dX11_temper_5 : decode cX11_temper 5 = .ok (.invokevirtual 149, 3) := by decide +kernel
theorem dX11_temper_8 : decode cX11_temper 8 = .ok (.ifCond .ne 6, 3) := by decide +kernel
theorem dX11_temper_11 : decode cX11_temper 11 = .ok (.ldc 148, 2) := by decide +kernel
theorem dX11_temper_13 : decode cX11_temper 13 = .ok (.ireturn, 1) := by decide +kernel
theorem dX11_temper_14 : decode cX11_temper 14 = .ok (.iconst 0, 1) := by decide +kernel
theorem dX11_temper_15 : decode cX11_temper 15 = .ok (.istore_n 2, 1) := by decide +kernel
theorem dX11_temper_16 : decode cX11_temper 16 = .ok (.iconst 0, 1) := by decide +kernel
theorem dX11_temper_17 : decode cX11_temper 17 = .ok (.istore_n 3, 1) := by decide +kernel
theorem dX11_temper_18 : decode cX11_temper 18 = .ok (.iload_n 3, 1) := by decide +kernel
theorem dX11_temper_19 : decode cX11_temper 19 = .ok (.aload_n 0, 1) := by decide +kernel
theorem dX11_temper_20 : decode cX11_temper 20 = .ok (.getfield 23, 3) := by decide +kernel
theorem dX11_temper_23 : decode cX11_temper 23 = .ok (.getfield 158, 3) := by decide +kernel
theorem dX11_temper_26 : decode cX11_temper 26 = .ok (.if_icmp .ge 40, 3) := by decide +kernel
theorem dX11_temper_29 : decode cX11_temper 29 = .ok (.iload_n 2, 1) := by decide +kernel
theorem dX11_temper_30 : decode cX11_temper 30 = .ok (.iload_n 1, 1) := by decide +kernel
theorem dX11_temper_31 : decode cX11_temper 31 = .ok (.iload_n 3, 1) := by decide +kernel
theorem dX11_temper_32 : decode cX11_temper 32 = .ok (.ishr, 1) := by decide +kernel
theorem dX11_temper_33 : decode cX11_temper 33 = .ok (.iconst 1, 1) := by decide +kernel
theorem dX11_temper_34 : decode cX11_temper 34 = .ok (.iand, 1) := by decide +kernel
theorem dX11_temper_35 : decode cX11_temper 35 = .ok (.iconst 1, 1) := by decide +kernel
theorem dX11_temper_36 : decode cX11_temper 36 = .ok (.if_icmp .ne 21, 3) := by decide +kernel
theorem dX11_temper_39 : decode cX11_temper 39 = .ok (.aload_n 0, 1) := by decide +kernel
theorem dX11_temper_40 : decode cX11_temper 40 = .ok (.getfield 23, 3) := by decide +kernel
theorem dX11_temper_43 : decode cX11_temper 43 = .ok (.iload_n 3, 1) := by decide +kernel
theorem dX11_temper_44 : decode cX11_temper 44 = .ok (.iload_n 1, 1) := by decide +kernel
theorem dX11_temper_45 : decode cX11_temper 45 = .ok (.iconst 1, 1) := by decide +kernel
theorem dX11_temper_46 : decode cX11_temper 46 = .ok (.iload_n 3, 1) := by decide +kernel
theorem dX11_temper_47 : decode cX11_temper 47 = .ok (.ishl, 1) := by decide +kernel
theorem dX11_temper_48 : decode cX11_temper 48 = .ok (.iconst 1, 1) := by decide +kernel
theorem dX11_temper_49 : decode cX11_temper 49 = .ok (.isub, 1) := by decide +kernel
theorem dX11_temper_50 : decode cX11_temper 50 = .ok (.iand, 1) := by decide +kernel
theorem dX11_temper_51 : decode cX11_temper 51 = .ok (.invokevirtual 216, 3) := by decide +kernel
theorem dX11_temper_54 : decode cX11_temper 54 = .ok (.goto 4, 3) := by decide +kernel
theorem dX11_temper_57 : decode cX11_temper 57 = .ok (.iconst 0, 1) := by decide +kernel
theorem dX11_temper_58 : decode cX11_temper 58 = .ok (.iadd, 1) := by decide +kernel
theorem dX11_temper_59 : decode cX11_temper 59 = .ok (.istore_n 2, 1) := by decide +kernel
theorem dX11_temper_60 : decode cX11_temper 60 = .ok (.iinc 3 1, 3) := by decide +kernel
theorem dX11_temper_63 : decode cX11_temper 63 = .ok (.goto (-45), 3) := by decide +kernel
theorem dX11_temper_66 : decode cX11_temper 66 = .ok (.iload_n 2, 1) := by decide +kernel
theorem dX11_temper_67 : decode cX11_temper 67 = .ok (.ireturn, 1) := by decide +kernel
theorem dX11_mates_0 : decode cX11_mates 0 = .ok (.iload_n 1, 1) := by decide +kernel
theorem dX11_mates_1 : decode cX11_mates 1 = .ok (.iconst (-1), 1) := by decide +kernel
theorem dX11_mates_2 : decode cX11_mates 2 = .ok (.if_icmp .eq 17, 3) := by decide +kernel
theorem dX11_mates_5 : decode cX11_mates 5 = .ok (.aload_n 0, 1) := by decide +kernel
theorem dX11_mates_6 : decode cX11_mates 6 = .ok (.getfield 23, 3) := by decide +kernel
theorem dX11_mates_9 : decode cX11_mates 9 = .ok (.iload_n 1, 1) := by decide +kernel
theorem dX11_mates_10 : decode cX11_mates 10 = .ok (.invokevirtual 127, 3) := by decide +kernel
theorem dX11_mates_13 : decode cX11_mates 13 = .ok (.ifCond .ne 6, 3) := by decide +kernel
theorem dX11_mates_16 : decode cX11_mates 16 = .ok (.ldc 148, 2) := by decide +kernel
theorem dX11_mates_18 : decode cX11_mates 18 = .ok (.ireturn, 1) := by decide +kernel
theorem dX11_mates_19 : decode cX11_mates 19 = .ok (.aload_n 0, 1) := by decide +kernel
theorem dX11_mates_20 : decode cX11_mates 20 = .ok (.getfield 51, 3) := by decide +kernel
theorem dX11_mates_23 : decode cX11_mates 23 = .ok (.aload_n 0, 1) := by decide +kernel
theorem dX11_mates_24 : decode cX11_mates 24 = .ok (.getfield 23, 3) := by decide +kernel
theorem dX11_mates_27 : decode cX11_mates 27 = .ok (.invokevirtual 219, 3) := by decide +kernel
theorem dX11_mates_30 : decode cX11_mates 30 = .ok (.iload_n 1, 1) := by decide +kernel
theorem dX11_mates_31 : decode cX11_mates 31 = .ok (.ifCond .ge 13, 3) := by decide +kernel
theorem dX11_mates_34 : decode cX11_mates 34 = .ok (.aload_n 0, 1) := by decide +kernel
theorem dX11_mates_35 : decode cX11_mates 35 = .ok (.getfield 51, 3) := by decide +kernel
theorem dX11_mates_38 : decode cX11_mates 38 = .ok (.getfield 221, 3) := by decide +kernel
theorem dX11_mates_41 : decode cX11_mates 41 = .ok (.goto 12, 3) := by decide +kernel
theorem dX11_mates_44 : decode cX11_mates 44 = .ok (.aload_n 0, 1) := by decide +kernel
theorem dX11_mates_45 : decode cX11_mates 45 = .ok (.getfield 51, 3) := by decide +kernel
theorem dX11_mates_48 : decode cX11_mates 48 = .ok (.getfield 222, 3) := by decide +kernel
theorem dX11_mates_51 : decode cX11_mates 51 = .ok (.iload_n 1, 1) := by decide +kernel
theorem dX11_mates_52 : decode cX11_mates 52 = .ok (.iaload, 1) := by decide +kernel
theorem dX11_mates_53 : decode cX11_mates 53 = .ok (.ireturn, 1) := by decide +kernel
theorem dX11_lights_0 : decode cX11_lights 0 = .ok (.aload_n 0, 1) := by decide +kernel
theorem dX11_lights_1 : decode cX11_lights 1 = .ok (.getfield 23, 3) := by decide +kernel
theorem dX11_lights_4 : decode cX11_lights 4 = .ok (.iload_n 1, 1) := by decide +kernel
theorem dX11_lights_5 : decode cX11_lights 5 = .ok (.invokevirtual 149, 3) := by decide +kernel
theorem dX11_lights_8 : decode cX11_lights 8 = .ok (.ifCond .eq 18, 3) := by decide +kernel
theorem dX11_lights_11 : decode cX11_lights 11 = .ok (.iload_n 1, 1) := by decide +kernel
theorem dX11_lights_12 : decode cX11_lights 12 = .ok (.ifCond .eq 14, 3) := by decide +kernel
theorem dX11_lights_15 : decode cX11_lights 15 = .ok (.iload_n 2, 1) := by decide +kernel
theorem dX11_lights_16 : decode cX11_lights 16 = .ok (.ifCond .lt 10, 3) := by decide +kernel
theorem dX11_lights_19 : decode cX11_lights 19 = .ok (.iload_n 2, 1) := by decide +kernel
theorem dX11_lights_20 : decode cX11_lights 20 = .ok (.sipush 499, 3) := by decide +kernel
theorem dX11_lights_23 : decode cX11_lights 23 = .ok (.if_icmp .le 5, 3) := by decide +kernel
theorem dX11_lights_26 : decode cX11_lights 26 = .ok (.iconst (-1), 1) := by decide +kernel
theorem dX11_lights_27 : decode cX11_lights 27 = .ok (.ireturn, 1) := by decide +kernel
theorem dX11_lights_28 : decode cX11_lights 28 = .ok (.aload_n 0, 1) := by decide +kernel
theorem dX11_lights_29 : decode cX11_lights 29 = .ok (.getfield 121, 3) := by decide +kernel
theorem dX11_lights_32 : decode cX11_lights 32 = .ok (.bipush 6, 2) := by decide +kernel
theorem dX11_lights_34 : decode cX11_lights 34 = .ok (.if_icmp .lt 6, 3) := by decide +kernel
theorem dX11_lights_37 : decode cX11_lights 37 = .ok (.bipush (-3), 2) := by decide +kernel
theorem dX11_lights_39 : decode cX11_lights 39 = .ok (.ireturn, 1) := by decide +kernel
theorem dX11_lights_40 : decode cX11_lights 40 = .ok (.aload_n 0, 1) := by decide +kernel
theorem dX11_lights_41 : decode cX11_lights 41 = .ok (.getfield 81, 3) := by decide +kernel
theorem dX11_lights_44 : decode cX11_lights 44 = .ok (.aload_n 0, 1) := by decide +kernel
theorem dX11_lights_45 : decode cX11_lights 45 = .ok (.getfield 121, 3) := by decide +kernel
theorem dX11_lights_48 : decode cX11_lights 48 = .ok (.iload_n 1, 1) := by decide +kernel
theorem dX11_lights_49 : decode cX11_lights 49 = .ok (.iastore, 1) := by decide +kernel
theorem dX11_lights_50 : decode cX11_lights 50 = .ok (.aload_n 0, 1) := by decide +kernel
theorem dX11_lights_51 : decode cX11_lights 51 = .ok (.getfield 84, 3) := by decide +kernel
theorem dX11_lights_54 : decode cX11_lights 54 = .ok (.aload_n 0, 1) := by decide +kernel
theorem dX11_lights_55 : decode cX11_lights 55 = .ok (.getfield 121, 3) := by decide +kernel
theorem dX11_lights_58 : decode cX11_lights 58 = .ok (.iload_n 2, 1) := by decide +kernel
theorem dX11_lights_59 : decode cX11_lights 59 = .ok (.iastore, 1) := by decide +kernel
theorem dX11_lights_60 : decode cX11_lights 60 = .ok (.aload_n 0, 1) := by decide +kernel
theorem dX11_lights_61 : decode cX11_lights 61 = .ok (.dup, 1) := by decide +kernel
theorem dX11_lights_62 : decode cX11_lights 62 = .ok (.getfield 121, 3) := by decide +kernel
theorem dX11_lights_65 : decode cX11_lights 65 = .ok (.iconst 1, 1) := by decide +kernel
theorem dX11_lights_66 : decode cX11_lights 66 = .ok (.iadd, 1) := by decide +kernel
theorem dX11_lights_67 : decode cX11_lights 67 = .ok (.putfield 121, 3) := by decide +kernel
theorem dX11_lights_70 : decode cX11_lights 70 = .ok (.aload_n 0, 1) := by decide +kernel
theorem dX11_lights_71 : decode cX11_lights 71 = .ok (.getfield 121, 3) := by decide +kernel
theorem dX11_lights_74 : decode cX11_lights 74 = .ok (.ireturn, 1) := by decide +kernel
theorem dX11_forget_0 : decode cX11_forget 0 = .ok (.aload_n 0, 1) := by decide +kernel
theorem dX11_forget_1 : decode cX11_forget 1 = .ok (.getfield 121, 3) := by decide +kernel
theorem dX11_forget_4 : decode cX11_forget 4 = .ok (.aload_n 0, 1) := by decide +kernel
theorem dX11_forget_5 : decode cX11_forget 5 = .ok (.getfield 124, 3) := by decide +kernel
theorem dX11_forget_8 : decode cX11_forget 8 = .ok (.iadd, 1) := by decide +kernel
theorem dX11_forget_9 : decode cX11_forget 9 = .ok (.istore_n 1, 1) := by decide +kernel
theorem dX11_forget_10 : decode cX11_forget 10 = .ok (.aload_n 0, 1) := by decide +kernel
theorem dX11_forget_11 : decode cX11_forget 11 = .ok (.iconst 0, 1) := by decide +kernel
theorem dX11_forget_12 : decode cX11_forget 12 = .ok (.putfield 121, 3) := by decide +kernel
theorem dX11_forget_15 : decode cX11_forget 15 = .ok (.aload_n 0, 1) := by decide +kernel
theorem dX11_forget_16 : decode cX11_forget 16 = .ok (.iconst 0, 1) := by decide +kernel
theorem dX11_forget_17 : decode cX11_forget 17 = .ok (.putfield 124, 3) := by decide +kernel
theorem dX11_forget_20 : decode cX11_forget 20 = .ok (.iload_n 1, 1) := by decide +kernel
theorem dX11_forget_21 : decode cX11_forget 21 = .ok (.ireturn, 1) := by decide +kernel
theorem dX11_whose_0 : decode cX11_whose 0 = .ok (.iconst 0, 1) := by decide +kernel
theorem dX11_whose_1 : decode cX11_whose 1 = .ok (.istore_n 1, 1) := by decide +kernel
theorem dX11_whose_2 : decode cX11_whose 2 = .ok (.iconst 0, 1) := by decide +kernel
theorem dX11_whose_3 : decode cX11_whose 3 = .ok (.istore_n 2, 1) := by decide +kernel
theorem dX11_whose_4 : decode cX11_whose 4 = .ok (.iload_n 2, 1) := by decide +kernel
theorem dX11_whose_5 : decode cX11_whose 5 = .ok (.aload_n 0, 1) := by decide +kernel
theorem dX11_whose_6 : decode cX11_whose 6 = .ok (.getfield 23, 3) := by decide +kernel
theorem dX11_whose_9 : decode cX11_whose 9 = .ok (.getfield 158, 3) := by decide +kernel
theorem dX11_whose_12 : decode cX11_whose 12 = .ok (.if_icmp .ge 27, 3) := by decide +kernel
theorem dX11_whose_15 : decode cX11_whose 15 = .ok (.iload_n 1, 1) := by decide +kernel
theorem dX11_whose_16 : decode cX11_whose 16 = .ok (.aload_n 0, 1) := by decide +kernel
theorem dX11_whose_17 : decode cX11_whose 17 = .ok (.iload_n 2, 1) := by decide +kernel
theorem dX11_whose_18 : decode cX11_whose 18 = .ok (.invokevirtual 225, 3) := by decide +kernel
theorem dX11_whose_21 : decode cX11_whose 21 = .ok (.ifCond .eq 9, 3) := by decide +kernel
theorem dX11_whose_24 : decode cX11_whose 24 = .ok (.iconst 1, 1) := by decide +kernel
theorem dX11_whose_25 : decode cX11_whose 25 = .ok (.iload_n 2, 1) := by decide +kernel
theorem dX11_whose_26 : decode cX11_whose 26 = .ok (.ishl, 1) := by decide +kernel
theorem dX11_whose_27 : decode cX11_whose 27 = .ok (.goto 4, 3) := by decide +kernel
theorem dX11_whose_30 : decode cX11_whose 30 = .ok (.iconst 0, 1) := by decide +kernel
theorem dX11_whose_31 : decode cX11_whose 31 = .ok (.ior, 1) := by decide +kernel
theorem dX11_whose_32 : decode cX11_whose 32 = .ok (.istore_n 1, 1) := by decide +kernel
theorem dX11_whose_33 : decode cX11_whose 33 = .ok (.iinc 2 1, 3) := by decide +kernel
theorem dX11_whose_36 : decode cX11_whose 36 = .ok (.goto (-32), 3) := by decide +kernel
theorem dX11_whose_39 : decode cX11_whose 39 = .ok (.iload_n 1, 1) := by decide +kernel
theorem dX11_whose_40 : decode cX11_whose 40 = .ok (.ireturn, 1) := by decide +kernel
theorem dX11_isLitBy_0 : decode cX11_isLitBy 0 = .ok (.iconst 0, 1) := by decide +kernel
theorem dX11_isLitBy_1 : decode cX11_isLitBy 1 = .ok (.istore_n 2, 1) := by decide +kernel
theorem dX11_isLitBy_2 : decode cX11_isLitBy 2 = .ok (.iload_n 2, 1) := by decide +kernel
theorem dX11_isLitBy_3 : decode cX11_isLitBy 3 = .ok (.aload_n 0, 1) := by decide +kernel
theorem dX11_isLitBy_4 : decode cX11_isLitBy 4 = .ok (.getfield 121, 3) := by decide +kernel
theorem dX11_isLitBy_7 : decode cX11_isLitBy 7 = .ok (.if_icmp .ge 67, 3) := by decide +kernel
theorem dX11_isLitBy_10 : decode cX11_isLitBy 10 = .ok (.aload_n 0, 1) := by decide +kernel
theorem dX11_isLitBy_11 : decode cX11_isLitBy 11 = .ok (.getfield 81, 3) := by decide +kernel
theorem dX11_isLitBy_14 : decode cX11_isLitBy 14 = .ok (.iload_n 2, 1) := by decide +kernel
theorem dX11_isLitBy_15 : decode cX11_isLitBy 15 = .ok (.iaload, 1) := by decide +kernel
theorem dX11_isLitBy_16 : decode cX11_isLitBy 16 = .ok (.iload_n 1, 1) := by decide +kernel
theorem dX11_isLitBy_17 : decode cX11_isLitBy 17 = .ok (.ishr, 1) := by decide +kernel
theorem dX11_isLitBy_18 : decode cX11_isLitBy 18 = .ok (.iconst 1, 1) := by decide +kernel
theorem dX11_isLitBy_19 : decode cX11_isLitBy 19 = .ok (.iand, 1) := by decide +kernel
theorem dX11_isLitBy_20 : decode cX11_isLitBy 20 = .ok (.iconst 1, 1) := by decide +kernel
theorem dX11_isLitBy_21 : decode cX11_isLitBy 21 = .ok (.if_icmp .ne 7, 3) := by decide +kernel
theorem dX11_isLitBy_24 : decode cX11_isLitBy 24 = .ok (.iconst 1, 1) := by decide +kernel
theorem dX11_isLitBy_25 : decode cX11_isLitBy 25 = .ok (.goto 4, 3) := by decide +kernel
theorem dX11_isLitBy_28 : decode cX11_isLitBy 28 = .ok (.iconst 0, 1) := by decide +kernel
theorem dX11_isLitBy_29 : decode cX11_isLitBy 29 = .ok (.istore_n 3, 1) := by decide +kernel
theorem dX11_isLitBy_30 : decode cX11_isLitBy 30 = .ok (.iload_n 3, 1) := by decide +kernel
theorem dX11_isLitBy_31 : decode cX11_isLitBy 31 = .ok (.ifCond .eq 35, 3) := by decide +kernel
theorem dX11_isLitBy_34 : decode cX11_isLitBy 34 = .ok (.aload_n 0, 1) := by decide +kernel
theorem dX11_isLitBy_35 : decode cX11_isLitBy 35 = .ok (.getfield 23, 3) := by decide +kernel
theorem dX11_isLitBy_38 : decode cX11_isLitBy 38 = .ok (.aload_n 0, 1) := by decide +kernel
theorem dX11_isLitBy_39 : decode cX11_isLitBy 39 = .ok (.getfield 29, 3) := by decide +kernel
theorem dX11_isLitBy_42 : decode cX11_isLitBy 42 = .ok (.getfield 131, 3) := by decide +kernel
theorem dX11_isLitBy_45 : decode cX11_isLitBy 45 = .ok (.iload_n 1, 1) := by decide +kernel
theorem dX11_isLitBy_46 : decode cX11_isLitBy 46 = .ok (.iaload, 1) := by decide +kernel
theorem dX11_isLitBy_47 : decode cX11_isLitBy 47 = .ok (.iload_n 1, 1) := by decide +kernel
theorem dX11_isLitBy_48 : decode cX11_isLitBy 48 = .ok (.aload_n 0, 1) := by decide +kernel
theorem dX11_isLitBy_49 : decode cX11_isLitBy 49 = .ok (.getfield 81, 3) := by decide +kernel
theorem dX11_isLitBy_52 : decode cX11_isLitBy 52 = .ok (.iload_n 2, 1) := by decide +kernel
theorem dX11_isLitBy_53 : decode cX11_isLitBy 53 = .ok (.iaload, 1) := by decide +kernel
theorem dX11_isLitBy_54 : decode cX11_isLitBy 54 = .ok (.invokevirtual 228, 3) := by decide +kernel
theorem dX11_isLitBy_57 : decode cX11_isLitBy 57 = .ok (.aload_n 0, 1) := by decide +kernel
theorem dX11_isLitBy_58 : decode cX11_isLitBy 58 = .ok (.getfield 84, 3) := by decide +kernel
theorem dX11_isLitBy_61 : decode cX11_isLitBy 61 = .ok (.iload_n 2, 1) := by decide +kernel
theorem dX11_isLitBy_62 : decode cX11_isLitBy 62 = .ok (.iaload, 1) := by decide +kernel
theorem dX11_isLitBy_63 : decode cX11_isLitBy 63 = .ok (.if_icmp .eq 5, 3) := by decide +kernel
theorem dX11_isLitBy_66 : decode cX11_isLitBy 66 = .ok (.iconst 0, 1) := by decide +kernel
theorem dX11_isLitBy_67 : decode cX11_isLitBy 67 = .ok (.ireturn, 1) := by decide +kernel
theorem dX11_isLitBy_68 : decode cX11_isLitBy 68 = .ok (.iinc 2 1, 3) := by decide +kernel
theorem dX11_isLitBy_71 : decode cX11_isLitBy 71 = .ok (.goto (-69), 3) := by decide +kernel
theorem dX11_isLitBy_74 : decode cX11_isLitBy 74 = .ok (.iconst 1, 1) := by decide +kernel
theorem dX11_isLitBy_75 : decode cX11_isLitBy 75 = .ok (.ireturn, 1) := by decide +kernel
theorem dX11_sold_0 : decode cX11_sold 0 = .ok (.iload_n 1, 1) := by decide +kernel
theorem dX11_sold_1 : decode cX11_sold 1 = .ok (.ifCond .lt 19, 3) := by decide +kernel
theorem dX11_sold_4 : decode cX11_sold 4 = .ok (.iload_n 1, 1) := by decide +kernel
theorem dX11_sold_5 : decode cX11_sold 5 = .ok (.sipush 999, 3) := by decide +kernel
theorem dX11_sold_8 : decode cX11_sold 8 = .ok (.if_icmp .gt 12, 3) := by decide +kernel
theorem dX11_sold_11 : decode cX11_sold 11 = .ok (.iload_n 2, 1) := by decide +kernel
theorem dX11_sold_12 : decode cX11_sold 12 = .ok (.ifCond .lt 8, 3) := by decide +kernel
theorem dX11_sold_15 : decode cX11_sold 15 = .ok (.iload_n 2, 1) := by decide +kernel
theorem dX11_sold_16 : decode cX11_sold 16 = .ok (.iconst 1, 1) := by decide +kernel
theorem dX11_sold_17 : decode cX11_sold 17 = .ok (.if_icmp .le 5, 3) := by decide +kernel
theorem dX11_sold_20 : decode cX11_sold 20 = .ok (.iconst (-1), 1) := by decide +kernel
theorem dX11_sold_21 : decode cX11_sold 21 = .ok (.ireturn, 1) := by decide +kernel
theorem dX11_sold_22 : decode cX11_sold 22 = .ok (.iconst 0, 1) := by decide +kernel
theorem dX11_sold_23 : decode cX11_sold 23 = .ok (.istore_n 3, 1) := by decide +kernel
theorem dX11_sold_24 : decode cX11_sold 24 = .ok (.iconst 0, 1) := by decide +kernel
theorem dX11_sold_25 : decode cX11_sold 25 = .ok (.istore 4, 2) := by decide +kernel
theorem dX11_sold_27 : decode cX11_sold 27 = .ok (.iconst 1, 1) := by decide +kernel
theorem dX11_sold_28 : decode cX11_sold 28 = .ok (.istore 5, 2) := by decide +kernel
theorem dX11_sold_30 : decode cX11_sold 30 = .ok (.iload 5, 2) := by decide +kernel
theorem dX11_sold_32 : decode cX11_sold 32 = .ok (.iconst 1, 1) := by decide +kernel
theorem dX11_sold_33 : decode cX11_sold 33 = .ok (.aload_n 0, 1) := by decide +kernel
theorem dX11_sold_34 : decode cX11_sold 34 = .ok (.getfield 23, 3) := by decide +kernel
theorem dX11_sold_37 : decode cX11_sold 37 = .ok (.getfield 158, 3) := by decide +kernel
theorem dX11_sold_40 : decode cX11_sold 40 = .ok (.ishl, 1) := by decide +kernel
theorem dX11_sold_41 : decode cX11_sold 41 = .ok (.if_icmp .ge 36, 3) := by decide +kernel
theorem dX11_sold_44 : decode cX11_sold 44 = .ok (.aload_n 0, 1) := by decide +kernel
theorem dX11_sold_45 : decode cX11_sold 45 = .ok (.iload 5, 2) := by decide +kernel
theorem dX11_sold_47 : decode cX11_sold 47 = .ok (.invokevirtual 231, 3) := by decide +kernel
theorem dX11_sold_50 : decode cX11_sold 50 = .ok (.istore 6, 2) := by decide +kernel
theorem dX11_sold_52 : decode cX11_sold 52 = .ok (.iload 6, 2) := by decide +kernel
theorem dX11_sold_54 : decode cX11_sold 54 = .ok (.iload_n 1, 1) := by decide +kernel
theorem dX11_sold_55 : decode cX11_sold 55 = .ok (.if_icmp .gt 16, 3) := by decide +kernel
theorem dX11_sold_58 : decode cX11_sold 58 = .ok (.iload 6, 2) := by decide +kernel
theorem dX11_sold_60 : decode cX11_sold 60 = .ok (.iload_n 3, 1) := by decide +kernel
theorem dX11_sold_61 : decode cX11_sold 61 = .ok (.if_icmp .le 10, 3) := by decide +kernel
theorem dX11_sold_64 : decode cX11_sold 64 = .ok (.iload 6, 2) := by decide +kernel
theorem dX11_sold_66 : decode cX11_sold 66 = .ok (.istore_n 3, 1) := by decide +kernel
theorem dX11_sold_67 : decode cX11_sold 67 = .ok (.iload 5, 2) := by decide +kernel
theorem dX11_sold_69 : decode cX11_sold 69 = .ok (.istore 4, 2) := by decide +kernel
theorem dX11_sold_71 : decode cX11_sold 71 = .ok (.iinc 5 1, 3) := by decide +kernel
theorem dX11_sold_74 : decode cX11_sold 74 = .ok (.goto (-44), 3) := by decide +kernel
theorem dX11_sold_77 : decode cX11_sold 77 = .ok (.iload_n 2, 1) := by decide +kernel
theorem dX11_sold_78 : decode cX11_sold 78 = .ok (.ifCond .ne 7, 3) := by decide +kernel
theorem dX11_sold_81 : decode cX11_sold 81 = .ok (.iload_n 3, 1) := by decide +kernel
theorem dX11_sold_82 : decode cX11_sold 82 = .ok (.goto 5, 3) := by decide +kernel
theorem dX11_sold_85 : decode cX11_sold 85 = .ok (.iload 4, 2) := by decide +kernel
theorem dX11_sold_87 : decode cX11_sold 87 = .ok (.ireturn, 1) := by decide +kernel
theorem dX11_heapOf_0 : decode cX11_heapOf 0 = .ok (.iconst 0, 1) := by decide +kernel
theorem dX11_heapOf_1 : decode cX11_heapOf 1 = .ok (.istore_n 2, 1) := by decide +kernel
theorem dX11_heapOf_2 : decode cX11_heapOf 2 = .ok (.iconst 0, 1) := by decide +kernel
theorem dX11_heapOf_3 : decode cX11_heapOf 3 = .ok (.istore_n 3, 1) := by decide +kernel
theorem dX11_heapOf_4 : decode cX11_heapOf 4 = .ok (.iload_n 3, 1) := by decide +kernel
theorem dX11_heapOf_5 : decode cX11_heapOf 5 = .ok (.aload_n 0, 1) := by decide +kernel
theorem dX11_heapOf_6 : decode cX11_heapOf 6 = .ok (.getfield 23, 3) := by decide +kernel
theorem dX11_heapOf_9 : decode cX11_heapOf 9 = .ok (.getfield 158, 3) := by decide +kernel
theorem dX11_heapOf_12 : decode cX11_heapOf 12 = .ok (.if_icmp .ge 34, 3) := by decide +kernel
theorem dX11_heapOf_15 : decode cX11_heapOf 15 = .ok (.iload_n 2, 1) := by decide +kernel
theorem dX11_heapOf_16 : decode cX11_heapOf 16 = .ok (.iload_n 1, 1) := by decide +kernel
theorem dX11_heapOf_17 : decode cX11_heapOf 17 = .ok (.iload_n 3, 1) := by decide +kernel
theorem dX11_heapOf_18 : decode cX11_heapOf 18 = .ok (.ishr, 1) := by decide +kernel
theorem dX11_heapOf_19 : decode cX11_heapOf 19 = .ok (.iconst 1, 1) := by decide +kernel
theorem dX11_heapOf_20 : decode cX11_heapOf 20 = .ok (.iand, 1) := by decide +kernel
theorem dX11_heapOf_21 : decode cX11_heapOf 21 = .ok (.iconst 1, 1) := by decide +kernel
theorem dX11_heapOf_22 : decode cX11_heapOf 22 = .ok (.if_icmp .ne 15, 3) := by decide +kernel
theorem dX11_heapOf_25 : decode cX11_heapOf 25 = .ok (.aload_n 0, 1) := by decide +kernel
theorem dX11_heapOf_26 : decode cX11_heapOf 26 = .ok (.getfield 29, 3) := by decide +kernel
theorem dX11_heapOf_29 : decode cX11_heapOf 29 = .ok (.getfield 137, 3) := by decide +kernel
theorem dX11_heapOf_32 : decode cX11_heapOf 32 = .ok (.iload_n 3, 1) := by decide +kernel
theorem dX11_heapOf_33 : decode cX11_heapOf 33 = .ok (.iaload, 1) := by decide +kernel
theorem dX11_heapOf_34 : decode cX11_heapOf 34 = .ok (.goto 4, 3) := by decide +kernel
theorem dX11_heapOf_37 : decode cX11_heapOf 37 = .ok (.iconst 0, 1) := by decide +kernel
theorem dX11_heapOf_38 : decode cX11_heapOf 38 = .ok (.iadd, 1) := by decide +kernel
theorem dX11_heapOf_39 : decode cX11_heapOf 39 = .ok (.istore_n 2, 1) := by decide +kernel
theorem dX11_heapOf_40 : decode cX11_heapOf 40 = .ok (.iinc 3 1, 3) := by decide +kernel
theorem dX11_heapOf_43 : decode cX11_heapOf 43 = .ok (.goto (-39), 3) := by decide +kernel
theorem dX11_heapOf_46 : decode cX11_heapOf 46 = .ok (.iload_n 2, 1) := by decide +kernel
theorem dX11_heapOf_47 : decode cX11_heapOf 47 = .ok (.ireturn, 1) := by decide +kernel
theorem dX11_tells_0 : decode cX11_tells 0 = .ok (.iload_n 1, 1) := by decide +kernel
theorem dX11_tells_1 : decode cX11_tells 1 = .ok (.ifCond .lt 20, 3) := by decide +kernel
theorem dX11_tells_4 : decode cX11_tells 4 = .ok (.iload_n 1, 1) := by decide +kernel
theorem dX11_tells_5 : decode cX11_tells 5 = .ok (.bipush 99, 2) := by decide +kernel
theorem dX11_tells_7 : decode cX11_tells 7 = .ok (.if_icmp .gt 14, 3) := by decide +kernel
theorem dX11_tells_10 : decode cX11_tells 10 = .ok (.iload_n 2, 1) := by decide +kernel
theorem dX11_tells_11 : decode cX11_tells 11 = .ok (.ifCond .lt 10, 3) := by decide +kernel
theorem dX11_tells_14 : decode cX11_tells 14 = .ok (.iload_n 2, 1) := by decide +kernel
theorem dX11_tells_15 : decode cX11_tells 15 = .ok (.sipush 299, 3) := by decide +kernel
theorem dX11_tells_18 : decode cX11_tells 18 = .ok (.if_icmp .le 5, 3) := by decide +kernel
theorem dX11_tells_21 : decode cX11_tells 21 = .ok (.iconst (-1), 1) := by decide +kernel
theorem dX11_tells_22 : decode cX11_tells 22 = .ok (.ireturn, 1) := by decide +kernel
theorem dX11_tells_23 : decode cX11_tells 23 = .ok (.aload_n 0, 1) := by decide +kernel
theorem dX11_tells_24 : decode cX11_tells 24 = .ok (.getfield 124, 3) := by decide +kernel
theorem dX11_tells_27 : decode cX11_tells 27 = .ok (.bipush 6, 2) := by decide +kernel
theorem dX11_tells_29 : decode cX11_tells 29 = .ok (.if_icmp .lt 6, 3) := by decide +kernel
theorem dX11_tells_32 : decode cX11_tells 32 = .ok (.bipush (-3), 2) := by decide +kernel
theorem dX11_tells_34 : decode cX11_tells 34 = .ok (.ireturn, 1) := by decide +kernel
theorem dX11_tells_35 : decode cX11_tells 35 = .ok (.aload_n 0, 1) := by decide +kernel
theorem dX11_tells_36 : decode cX11_tells 36 = .ok (.getfield 87, 3) := by decide +kernel
theorem dX11_tells_39 : decode cX11_tells 39 = .ok (.aload_n 0, 1) := by decide +kernel
theorem dX11_tells_40 : decode cX11_tells 40 = .ok (.getfield 124, 3) := by decide +kernel
theorem dX11_tells_43 : decode cX11_tells 43 = .ok (.iload_n 1, 1) := by decide +kernel
theorem dX11_tells_44 : decode cX11_tells 44 = .ok (.iastore, 1) := by decide +kernel
theorem dX11_tells_45 : decode cX11_tells 45 = .ok (.aload_n 0, 1) := by decide +kernel
theorem dX11_tells_46 : decode cX11_tells 46 = .ok (.getfield 90, 3) := by decide +kernel
theorem dX11_tells_49 : decode cX11_tells 49 = .ok (.aload_n 0, 1) := by decide +kernel
theorem dX11_tells_50 : decode cX11_tells 50 = .ok (.getfield 124, 3) := by decide +kernel
theorem dX11_tells_53 : decode cX11_tells 53 = .ok (.iload_n 2, 1) := by decide +kernel
theorem dX11_tells_54 : decode cX11_tells 54 = .ok (.iastore, 1) := by decide +kernel
theorem dX11_tells_55 : decode cX11_tells 55 = .ok (.aload_n 0, 1) := by decide +kernel
theorem dX11_tells_56 : decode cX11_tells 56 = .ok (.dup, 1) := by decide +kernel
theorem dX11_tells_57 : decode cX11_tells 57 = .ok (.getfield 124, 3) := by decide +kernel
theorem dX11_tells_60 : decode cX11_tells 60 = .ok (.iconst 1, 1) := by decide +kernel
theorem dX11_tells_61 : decode cX11_tells 61 = .ok (.iadd, 1) := by decide +kernel
theorem dX11_tells_62 : decode cX11_tells 62 = .ok (.putfield 124, 3) := by decide +kernel
theorem dX11_tells_65 : decode cX11_tells 65 = .ok (.aload_n 0, 1) := by decide +kernel
theorem dX11_tells_66 : decode cX11_tells 66 = .ok (.getfield 124, 3) := by decide +kernel
theorem dX11_tells_69 : decode cX11_tells 69 = .ok (.ireturn, 1) := by decide +kernel
theorem dX11_fit_0 : decode cX11_fit 0 = .ok (.iload_n 1, 1) := by decide +kernel
theorem dX11_fit_1 : decode cX11_fit 1 = .ok (.ifCond .lt 8, 3) := by decide +kernel
theorem dX11_fit_4 : decode cX11_fit 4 = .ok (.iload_n 1, 1) := by decide +kernel
theorem dX11_fit_5 : decode cX11_fit 5 = .ok (.iconst 2, 1) := by decide +kernel
theorem dX11_fit_6 : decode cX11_fit 6 = .ok (.if_icmp .le 5, 3) := by decide +kernel
theorem dX11_fit_9 : decode cX11_fit 9 = .ok (.iconst (-1), 1) := by decide +kernel
theorem dX11_fit_10 : decode cX11_fit 10 = .ok (.ireturn, 1) := by decide +kernel
theorem dX11_fit_11 : decode cX11_fit 11 = .ok (.aload_n 0, 1) := by decide +kernel
theorem dX11_fit_12 : decode cX11_fit 12 = .ok (.invokevirtual 235, 3) := by decide +kernel
theorem dX11_fit_15 : decode cX11_fit 15 = .ok (.istore_n 2, 1) := by decide +kernel
theorem dX11_fit_16 : decode cX11_fit 16 = .ok (.iload_n 1, 1) := by decide +kernel
theorem dX11_fit_17 : decode cX11_fit 17 = .ok (.ifCond .ne 5, 3) := by decide +kernel
theorem dX11_fit_20 : decode cX11_fit 20 = .ok (.iload_n 2, 1) := by decide +kernel
theorem dX11_fit_21 : decode cX11_fit 21 = .ok (.ireturn, 1) := by decide +kernel
theorem dX11_fit_22 : decode cX11_fit 22 = .ok (.iload_n 2, 1) := by decide +kernel
theorem dX11_fit_23 : decode cX11_fit 23 = .ok (.ifCond .ne 6, 3) := by decide +kernel
theorem dX11_fit_26 : decode cX11_fit 26 = .ok (.bipush (-9), 2) := by decide +kernel
theorem dX11_fit_28 : decode cX11_fit 28 = .ok (.ireturn, 1) := by decide +kernel
theorem dX11_fit_29 : decode cX11_fit 29 = .ok (.iload_n 1, 1) := by decide +kernel
theorem dX11_fit_30 : decode cX11_fit 30 = .ok (.iconst 1, 1) := by decide +kernel
theorem dX11_fit_31 : decode cX11_fit 31 = .ok (.if_icmp .ne 12, 3) := by decide +kernel
theorem dX11_fit_34 : decode cX11_fit 34 = .ok (.aload_n 0, 1) := by decide +kernel
theorem dX11_fit_35 : decode cX11_fit 35 = .ok (.getfield 93, 3) := by decide +kernel
theorem dX11_fit_38 : decode cX11_fit 38 = .ok (.iconst 0, 1) := by decide +kernel
theorem dX11_fit_39 : decode cX11_fit 39 = .ok (.iaload, 1) := by decide +kernel
theorem dX11_fit_40 : decode cX11_fit 40 = .ok (.goto 8, 3) := by decide +kernel
theorem dX11_fit_43 : decode cX11_fit 43 = .ok (.aload_n 0, 1) := by decide +kernel
theorem dX11_fit_44 : decode cX11_fit 44 = .ok (.iload_n 2, 1) := by decide +kernel
theorem dX11_fit_45 : decode cX11_fit 45 = .ok (.invokevirtual 238, 3) := by decide +kernel
theorem dX11_fit_48 : decode cX11_fit 48 = .ok (.ireturn, 1) := by decide +kernel
theorem dX11_lawOf_0 : decode cX11_lawOf 0 = .ok (.iload_n 1, 1) := by decide +kernel
theorem dX11_lawOf_1 : decode cX11_lawOf 1 = .ok (.iload_n 0, 1) := by decide +kernel
theorem dX11_lawOf_2 : decode cX11_lawOf 2 = .ok (.bipush 10, 2) := by decide +kernel
theorem dX11_lawOf_4 : decode cX11_lawOf 4 = .ok (.idiv, 1) := by decide +kernel
theorem dX11_lawOf_5 : decode cX11_lawOf 5 = .ok (.iload_n 1, 1) := by decide +kernel
theorem dX11_lawOf_6 : decode cX11_lawOf 6 = .ok (.imul, 1) := by decide +kernel
theorem dX11_lawOf_7 : decode cX11_lawOf 7 = .ok (.bipush 10, 2) := by decide +kernel
theorem dX11_lawOf_9 : decode cX11_lawOf 9 = .ok (.idiv, 1) := by decide +kernel
theorem dX11_lawOf_10 : decode cX11_lawOf 10 = .ok (.iadd, 1) := by decide +kernel
theorem dX11_lawOf_11 : decode cX11_lawOf 11 = .ok (.iload_n 0, 1) := by decide +kernel
theorem dX11_lawOf_12 : decode cX11_lawOf 12 = .ok (.bipush 10, 2) := by decide +kernel
theorem dX11_lawOf_14 : decode cX11_lawOf 14 = .ok (.irem, 1) := by decide +kernel
theorem dX11_lawOf_15 : decode cX11_lawOf 15 = .ok (.iadd, 1) := by decide +kernel
theorem dX11_lawOf_16 : decode cX11_lawOf 16 = .ok (.ireturn, 1) := by decide +kernel
theorem dX11_gathersFitting_0 : decode cX11_gathersFitting 0 = .ok (.iconst 0, 1) := by decide +kernel
theorem dX11_gathersFitting_1 : decode cX11_gathersFitting 1 = .ok (.istore_n 1, 1) := by decide +kernel
theorem dX11_gathersFitting_2 : decode cX11_gathersFitting 2 = .ok (.iconst 0, 1) := by decide +kernel
theorem dX11_gathersFitting_3 : decode cX11_gathersFitting 3 = .ok (.istore_n 2, 1) := by decide +kernel
theorem dX11_gathersFitting_4 : decode cX11_gathersFitting 4 = .ok (.iload_n 2, 1) := by decide +kernel
theorem dX11_gathersFitting_5 : decode cX11_gathersFitting 5 = .ok (.bipush 100, 2) := by decide +kernel
theorem dX11_gathersFitting_7 : decode cX11_gathersFitting 7 = .ok (.if_icmp .ge 74, 3) := by decide +kernel
theorem dX11_gathersFitting_10 : decode cX11_gathersFitting 10 = .ok (.iconst 1, 1) := by decide +kernel
theorem dX11_gathersFitting_11 : decode cX11_gathersFitting 11 = .ok (.istore_n 3, 1) := by decide +kernel
theorem dX11_gathersFitting_12 : decode cX11_gathersFitting 12 = .ok (.iconst 0, 1) := by decide +kernel
theorem dX11_gathersFitting_13 : decode cX11_gathersFitting 13 = .ok (.istore 4, 2) := by decide +kernel
theorem dX11_gathersFitting_15 : decode cX11_gathersFitting 15 = .ok (.iload 4, 2) := by decide +kernel
theorem dX11_gathersFitting_17 : decode cX11_gathersFitting 17 = .ok (.aload_n 0, 1) := by decide +kernel
theorem dX11_gathersFitting_18 : decode cX11_gathersFitting 18 = .ok (.getfield 124, 3) := by decide +kernel
theorem dX11_gathersFitting_21 : decode cX11_gathersFitting 21 = .ok (.if_icmp .ge 40, 3) := by decide +kernel
theorem dX11_gathersFitting_24 : decode cX11_gathersFitting 24 = .ok (.iload_n 3, 1) := by decide +kernel
theorem dX11_gathersFitting_25 : decode cX11_gathersFitting 25 = .ok (.ifCond .eq 28, 3) := by decide +kernel
theorem dX11_gathersFitting_28 : decode cX11_gathersFitting 28 = .ok (.iload_n 2, 1) := by decide +kernel
theorem dX11_gathersFitting_29 : decode cX11_gathersFitting 29 = .ok (.aload_n 0, 1) := by decide +kernel
theorem dX11_gathersFitting_30 : decode cX11_gathersFitting 30 = .ok (.getfield 87, 3) := by decide +kernel
theorem dX11_gathersFitting_33 : decode cX11_gathersFitting 33 = .ok (.iload 4, 2) := by decide +kernel
theorem dX11_gathersFitting_35 : decode cX11_gathersFitting 35 = .ok (.iaload, 1) := by decide +kernel
theorem dX11_gathersFitting_36 : decode cX11_gathersFitting 36 = .ok (.invokestatic 241, 3) := by decide +kernel
theorem dX11_gathersFitting_39 : decode cX11_gathersFitting 39 = .ok (.aload_n 0, 1) := by decide +kernel
theorem dX11_gathersFitting_40 : decode cX11_gathersFitting 40 = .ok (.getfield 90, 3) := by decide +kernel
theorem dX11_gathersFitting_43 : decode cX11_gathersFitting 43 = .ok (.iload 4, 2) := by decide +kernel
theorem dX11_gathersFitting_45 : decode cX11_gathersFitting 45 = .ok (.iaload, 1) := by decide +kernel
theorem dX11_gathersFitting_46 : decode cX11_gathersFitting 46 = .ok (.if_icmp .ne 7, 3) := by decide +kernel
theorem dX11_gathersFitting_49 : decode cX11_gathersFitting 49 = .ok (.iconst 1, 1) := by decide +kernel
theorem dX11_gathersFitting_50 : decode cX11_gathersFitting 50 = .ok (.goto 4, 3) := by decide +kernel
theorem dX11_gathersFitting_53 : decode cX11_gathersFitting 53 = .ok (.iconst 0, 1) := by decide +kernel
theorem dX11_gathersFitting_54 : decode cX11_gathersFitting 54 = .ok (.istore_n 3, 1) := by decide +kernel
theorem dX11_gathersFitting_55 : decode cX11_gathersFitting 55 = .ok (.iinc 4 1, 3) := by decide +kernel
theorem dX11_gathersFitting_58 : decode cX11_gathersFitting 58 = .ok (.goto (-43), 3) := by decide +kernel
theorem dX11_gathersFitting_61 : decode cX11_gathersFitting 61 = .ok (.iload_n 3, 1) := by decide +kernel
theorem dX11_gathersFitting_62 : decode cX11_gathersFitting 62 = .ok (.ifCond .eq 13, 3) := by decide +kernel
theorem dX11_gathersFitting_65 : decode cX11_gathersFitting 65 = .ok (.aload_n 0, 1) := by decide +kernel
theorem dX11_gathersFitting_66 : decode cX11_gathersFitting 66 = .ok (.getfield 93, 3) := by decide +kernel
theorem dX11_gathersFitting_69 : decode cX11_gathersFitting 69 = .ok (.iload_n 1, 1) := by decide +kernel
theorem dX11_gathersFitting_70 : decode cX11_gathersFitting 70 = .ok (.iload_n 2, 1) := by decide +kernel
theorem dX11_gathersFitting_71 : decode cX11_gathersFitting 71 = .ok (.iastore, 1) := by decide +kernel
theorem dX11_gathersFitting_72 : decode cX11_gathersFitting 72 = .ok (.iinc 1 1, 3) := by decide +kernel
theorem dX11_gathersFitting_75 : decode cX11_gathersFitting 75 = .ok (.iinc 2 1, 3) := by decide +kernel
theorem dX11_gathersFitting_78 : decode cX11_gathersFitting 78 = .ok (.goto (-74), 3) := by decide +kernel
theorem dX11_gathersFitting_81 : decode cX11_gathersFitting 81 = .ok (.iload_n 1, 1) := by decide +kernel
theorem dX11_gathersFitting_82 : decode cX11_gathersFitting 82 = .ok (.ireturn, 1) := by decide +kernel
theorem dX11_mostTelling_0 : decode cX11_mostTelling 0 = .ok (.aload_n 0, 1) := by decide +kernel
theorem dX11_mostTelling_1 : decode cX11_mostTelling 1 = .ok (.getfield 96, 3) := by decide +kernel
theorem dX11_mostTelling_4 : decode cX11_mostTelling 4 = .ok (.iconst 0, 1) := by decide +kernel
theorem dX11_mostTelling_5 : decode cX11_mostTelling 5 = .ok (.invokestatic 244, 3) := by decide +kernel
theorem dX11_mostTelling_8 : decode cX11_mostTelling 8 = .ok (.iconst 0, 1) := by decide +kernel
theorem dX11_mostTelling_9 : decode cX11_mostTelling 9 = .ok (.istore_n 2, 1) := by decide +kernel
theorem dX11_mostTelling_10 : decode cX11_mostTelling 10 = .ok (.iconst 0, 1) := by decide +kernel
theorem dX11_mostTelling_11 : decode cX11_mostTelling 11 = .ok (.istore_n 3, 1) := by decide +kernel
theorem dX11_mostTelling_12 : decode cX11_mostTelling 12 = .ok (.iconst 0, 1) := by decide +kernel
theorem dX11_mostTelling_13 : decode cX11_mostTelling 13 = .ok (.istore 4, 2) := by decide +kernel
theorem dX11_mostTelling_15 : decode cX11_mostTelling 15 = .ok (.iload 4, 2) := by decide +kernel
theorem dX11_mostTelling_17 : decode cX11_mostTelling 17 = .ok (.bipush 99, 2) := by decide +kernel
theorem dX11_mostTelling_19 : decode cX11_mostTelling 19 = .ok (.if_icmp .gt 81, 3) := by decide +kernel
theorem dX11_mostTelling_22 : decode cX11_mostTelling 22 = .ok (.iconst 0, 1) := by decide +kernel
theorem dX11_mostTelling_23 : decode cX11_mostTelling 23 = .ok (.istore 5, 2) := by decide +kernel
theorem dX11_mostTelling_25 : decode cX11_mostTelling 25 = .ok (.iconst 0, 1) := by decide +kernel
theorem dX11_mostTelling_26 : decode cX11_mostTelling 26 = .ok (.istore 6, 2) := by decide +kernel
theorem dX11_mostTelling_28 : decode cX11_mostTelling 28 = .ok (.iload 6, 2) := by decide +kernel
theorem dX11_mostTelling_30 : decode cX11_mostTelling 30 = .ok (.iload_n 1, 1) := by decide +kernel
theorem dX11_mostTelling_31 : decode cX11_mostTelling 31 = .ok (.if_icmp .ge 51, 3) := by decide +kernel
theorem dX11_mostTelling_34 : decode cX11_mostTelling 34 = .ok (.aload_n 0, 1) := by decide +kernel
theorem dX11_mostTelling_35 : decode cX11_mostTelling 35 = .ok (.getfield 93, 3) := by decide +kernel
theorem dX11_mostTelling_38 : decode cX11_mostTelling 38 = .ok (.iload 6, 2) := by decide +kernel
theorem dX11_mostTelling_40 : decode cX11_mostTelling 40 = .ok (.iaload, 1) := by decide +kernel
theorem dX11_mostTelling_41 : decode cX11_mostTelling 41 = .ok (.iload 4, 2) := by decide +kernel
theorem dX11_mostTelling_43 : decode cX11_mostTelling 43 = .ok (.invokestatic 241, 3) := by decide +kernel
theorem dX11_mostTelling_46 : decode cX11_mostTelling 46 = .ok (.istore 7, 2) := by decide +kernel
theorem dX11_mostTelling_48 : decode cX11_mostTelling 48 = .ok (.aload_n 0, 1) := by decide +kernel
theorem dX11_mostTelling_49 : decode cX11_mostTelling 49 = .ok (.getfield 96, 3) := by decide +kernel
theorem dX11_mostTelling_52 : decode cX11_mostTelling 52 = .ok (.iload 7, 2) := by decide +kernel
theorem dX11_mostTelling_54 : decode cX11_mostTelling 54 = .ok (.iaload, 1) := by decide +kernel
theorem dX11_mostTelling_55 : decode cX11_mostTelling 55 = .ok (.iload 4, 2) := by decide +kernel
theorem dX11_mostTelling_57 : decode cX11_mostTelling 57 = .ok (.iconst 1, 1) := by decide +kernel
theorem dX11_mostTelling_58 : decode cX11_mostTelling 58 = .ok (.iadd, 1) := by decide +kernel
theorem dX11_mostTelling_59 : decode cX11_mostTelling 59 = .ok (.if_icmp .eq 17, 3) := by decide +kernel
theorem dX11_mostTelling_62 : decode cX11_mostTelling 62 = .ok (.aload_n 0, 1) := by decide +kernel
theorem dX11_mostTelling_63 : decode cX11_mostTelling 63 = .ok (.getfield 96, 3) := by decide +kernel
theorem dX11_mostTelling_66 : decode cX11_mostTelling 66 = .ok (.iload 7, 2) := by decide +kernel
theorem dX11_mostTelling_68 : decode cX11_mostTelling 68 = .ok (.iload 4, 2) := by decide +kernel
theorem dX11_mostTelling_70 : decode cX11_mostTelling 70 = .ok (.iconst 1, 1) := by decide +kernel
theorem dX11_mostTelling_71 : decode cX11_mostTelling 71 = .ok (.iadd, 1) := by decide +kernel
theorem dX11_mostTelling_72 : decode cX11_mostTelling 72 = .ok (.iastore, 1) := by decide +kernel
theorem dX11_mostTelling_73 : decode cX11_mostTelling 73 = .ok (.iinc 5 1, 3) := by decide +kernel
theorem dX11_mostTelling_76 : decode cX11_mostTelling 76 = .ok (.iinc 6 1, 3) := by decide +kernel
theorem dX11_mostTelling_79 : decode cX11_mostTelling 79 = .ok (.goto (-51), 3) := by decide +kernel
theorem dX11_mostTelling_82 : decode cX11_mostTelling 82 = .ok (.iload 5, 2) := by decide +kernel
theorem dX11_mostTelling_84 : decode cX11_mostTelling 84 = .ok (.iload_n 2, 1) := by decide +kernel
theorem dX11_mostTelling_85 : decode cX11_mostTelling 85 = .ok (.if_icmp .le 9, 3) := by decide +kernel
theorem dX11_mostTelling_88 : decode cX11_mostTelling 88 = .ok (.iload 5, 2) := by decide +kernel
theorem dX11_mostTelling_90 : decode cX11_mostTelling 90 = .ok (.istore_n 2, 1) := by decide +kernel
theorem dX11_mostTelling_91 : decode cX11_mostTelling 91 = .ok (.iload 4, 2) := by decide +kernel
theorem dX11_mostTelling_93 : decode cX11_mostTelling 93 = .ok (.istore_n 3, 1) := by decide +kernel
theorem dX11_mostTelling_94 : decode cX11_mostTelling 94 = .ok (.iinc 4 1, 3) := by decide +kernel
theorem dX11_mostTelling_97 : decode cX11_mostTelling 97 = .ok (.goto (-82), 3) := by decide +kernel
theorem dX11_mostTelling_100 : decode cX11_mostTelling 100 = .ok (.iload_n 3, 1) := by decide +kernel
theorem dX11_mostTelling_101 : decode cX11_mostTelling 101 = .ok (.ireturn, 1) := by decide +kernel
theorem dX11_below_0 : decode cX11_below 0 = .ok (.iload_n 1, 1) := by decide +kernel
theorem dX11_below_1 : decode cX11_below 1 = .ok (.ifCond .lt 27, 3) := by decide +kernel
theorem dX11_below_4 : decode cX11_below 4 = .ok (.iload_n 1, 1) := by decide +kernel
theorem dX11_below_5 : decode cX11_below 5 = .ok (.bipush 10, 2) := by decide +kernel
theorem dX11_below_7 : decode cX11_below 7 = .ok (.if_icmp .gt 21, 3) := by decide +kernel
theorem dX11_below_10 : decode cX11_below 10 = .ok (.iload_n 2, 1) := by decide +kernel
theorem dX11_below_11 : decode cX11_below 11 = .ok (.ifCond .lt 17, 3) := by decide +kernel
theorem dX11_below_14 : decode cX11_below 14 = .ok (.iload_n 2, 1) := by decide +kernel
theorem dX11_below_15 : decode cX11_below 15 = .ok (.iconst 4, 1) := by decide +kernel
theorem dX11_below_16 : decode cX11_below 16 = .ok (.if_icmp .gt 12, 3) := by decide +kernel
theorem dX11_below_19 : decode cX11_below 19 = .ok (.iload_n 3, 1) := by decide +kernel
theorem dX11_below_20 : decode cX11_below 20 = .ok (.ifCond .lt 8, 3) := by decide +kernel
theorem dX11_below_23 : decode cX11_below 23 = .ok (.iload_n 3, 1) := by decide +kernel
theorem dX11_below_24 : decode cX11_below 24 = .ok (.iconst 1, 1) := by decide +kernel
theorem dX11_below_25 : decode cX11_below 25 = .ok (.if_icmp .le 5, 3) := by decide +kernel
theorem dX11_below_28 : decode cX11_below 28 = .ok (.iconst (-1), 1) := by decide +kernel
theorem dX11_below_29 : decode cX11_below 29 = .ok (.ireturn, 1) := by decide +kernel
theorem dX11_below_30 : decode cX11_below 30 = .ok (.aload_n 0, 1) := by decide +kernel
theorem dX11_below_31 : decode cX11_below 31 = .ok (.aload_n 0, 1) := by decide +kernel
theorem dX11_below_32 : decode cX11_below 32 = .ok (.getfield 29, 3) := by decide +kernel
theorem dX11_below_35 : decode cX11_below 35 = .ok (.getfield 131, 3) := by decide +kernel
theorem dX11_below_38 : decode cX11_below 38 = .ok (.invokevirtual 185, 3) := by decide +kernel
theorem dX11_below_41 : decode cX11_below 41 = .ok (.istore 4, 2) := by decide +kernel
theorem dX11_below_43 : decode cX11_below 43 = .ok (.iconst 1, 1) := by decide +kernel
theorem dX11_below_44 : decode cX11_below 44 = .ok (.istore 5, 2) := by decide +kernel
theorem dX11_below_46 : decode cX11_below 46 = .ok (.iconst 0, 1) := by decide +kernel
theorem dX11_below_47 : decode cX11_below 47 = .ok (.istore 6, 2) := by decide +kernel
theorem dX11_below_49 : decode cX11_below 49 = .ok (.iload 6, 2) := by decide +kernel
theorem dX11_below_51 : decode cX11_below 51 = .ok (.iload_n 2, 1) := by decide +kernel
theorem dX11_below_52 : decode cX11_below 52 = .ok (.if_icmp .ge 25, 3) := by decide +kernel
theorem dX11_below_55 : decode cX11_below 55 = .ok (.iload 4, 2) := by decide +kernel
theorem dX11_below_57 : decode cX11_below 57 = .ok (.bipush 10, 2) := by decide +kernel
theorem dX11_below_59 : decode cX11_below 59 = .ok (.iload_n 1, 1) := by decide +kernel
theorem dX11_below_60 : decode cX11_below 60 = .ok (.isub, 1) := by decide +kernel
theorem dX11_below_61 : decode cX11_below 61 = .ok (.imul, 1) := by decide +kernel
theorem dX11_below_62 : decode cX11_below 62 = .ok (.istore 4, 2) := by decide +kernel
theorem dX11_below_64 : decode cX11_below 64 = .ok (.iload 5, 2) := by decide +kernel
theorem dX11_below_66 : decode cX11_below 66 = .ok (.bipush 10, 2) := by decide +kernel
theorem dX11_below_68 : decode cX11_below 68 = .ok (.imul, 1) := by decide +kernel
theorem dX11_below_69 : decode cX11_below 69 = .ok (.istore 5, 2) := by decide +kernel
theorem dX11_below_71 : decode cX11_below 71 = .ok (.iinc 6 1, 3) := by decide +kernel
theorem dX11_below_74 : decode cX11_below 74 = .ok (.goto (-25), 3) := by decide +kernel
theorem dX11_below_77 : decode cX11_below 77 = .ok (.iconst 1, 1) := by decide +kernel
theorem dX11_below_78 : decode cX11_below 78 = .ok (.iload 4, 2) := by decide +kernel
theorem dX11_below_80 : decode cX11_below 80 = .ok (.iload 5, 2) := by decide +kernel
theorem dX11_below_82 : decode cX11_below 82 = .ok (.invokestatic 250, 3) := by decide +kernel
theorem dX11_below_85 : decode cX11_below 85 = .ok (.invokestatic 193, 3) := by decide +kernel
theorem dX11_below_88 : decode cX11_below 88 = .ok (.istore 6, 2) := by decide +kernel
theorem dX11_below_90 : decode cX11_below 90 = .ok (.iload_n 3, 1) := by decide +kernel
theorem dX11_below_91 : decode cX11_below 91 = .ok (.ifCond .ne 11, 3) := by decide +kernel
theorem dX11_below_94 : decode cX11_below 94 = .ok (.iload 4, 2) := by decide +kernel
theorem dX11_below_96 : decode cX11_below 96 = .ok (.iload 6, 2) := by decide +kernel
theorem dX11_below_98 : decode cX11_below 98 = .ok (.idiv, 1) := by decide +kernel
theorem dX11_below_99 : decode cX11_below 99 = .ok (.goto 8, 3) := by decide +kernel
theorem dX11_below_102 : decode cX11_below 102 = .ok (.iload 5, 2) := by decide +kernel
theorem dX11_below_104 : decode cX11_below 104 = .ok (.iload 6, 2) := by decide +kernel
theorem dX11_below_106 : decode cX11_below 106 = .ok (.idiv, 1) := by decide +kernel
theorem dX11_below_107 : decode cX11_below 107 = .ok (.ireturn, 1) := by decide +kernel
theorem dX11_commonOf_0 : decode cX11_commonOf 0 = .ok (.iload_n 0, 1) := by decide +kernel
theorem dX11_commonOf_1 : decode cX11_commonOf 1 = .ok (.istore_n 2, 1) := by decide +kernel
theorem dX11_commonOf_2 : decode cX11_commonOf 2 = .ok (.iload_n 1, 1) := by decide +kernel
theorem dX11_commonOf_3 : decode cX11_commonOf 3 = .ok (.istore_n 3, 1) := by decide +kernel
theorem dX11_commonOf_4 : decode cX11_commonOf 4 = .ok (.iconst 0, 1) := by decide +kernel
theorem dX11_commonOf_5 : decode cX11_commonOf 5 = .ok (.istore 4, 2) := by decide +kernel
theorem dX11_commonOf_7 : decode cX11_commonOf 7 = .ok (.iload 4, 2) := by decide +kernel
theorem dX11_commonOf_9 : decode cX11_commonOf 9 = .ok (.bipush 64, 2) := by decide +kernel
theorem dX11_commonOf_11 : decode cX11_commonOf 11 = .ok (.if_icmp .ge 23, 3) := by decide +kernel
theorem dX11_commonOf_14 : decode cX11_commonOf 14 = .ok (.iload_n 3, 1) := by decide +kernel
theorem dX11_commonOf_15 : decode cX11_commonOf 15 = .ok (.ifCond .eq 19, 3) := by decide +kernel
theorem dX11_commonOf_18 : decode cX11_commonOf 18 = .ok (.iload_n 2, 1) := by decide +kernel
theorem dX11_commonOf_19 : decode cX11_commonOf 19 = .ok (.iload_n 3, 1) := by decide +kernel
theorem dX11_commonOf_20 : decode cX11_commonOf 20 = .ok (.irem, 1) := by decide +kernel
theorem dX11_commonOf_21 : decode cX11_commonOf 21 = .ok (.istore 5, 2) := by decide +kernel
theorem dX11_commonOf_23 : decode cX11_commonOf 23 = .ok (.iload_n 3, 1) := by decide +kernel
theorem dX11_commonOf_24 : decode cX11_commonOf 24 = .ok (.istore_n 2, 1) := by decide +kernel
theorem dX11_commonOf_25 : decode cX11_commonOf 25 = .ok (.iload 5, 2) := by decide +kernel
theorem dX11_commonOf_27 : decode cX11_commonOf 27 = .ok (.istore_n 3, 1) := by decide +kernel
theorem dX11_commonOf_28 : decode cX11_commonOf 28 = .ok (.iinc 4 1, 3) := by decide +kernel
theorem dX11_commonOf_31 : decode cX11_commonOf 31 = .ok (.goto (-24), 3) := by decide +kernel
theorem dX11_commonOf_34 : decode cX11_commonOf 34 = .ok (.iload_n 2, 1) := by decide +kernel
theorem dX11_commonOf_35 : decode cX11_commonOf 35 = .ok (.ireturn, 1) := by decide +kernel
theorem dX11_mark_0 : decode cX11_mark 0 = .ok (.iload_n 1, 1) := by decide +kernel
theorem dX11_mark_1 : decode cX11_mark 1 = .ok (.ifCond .lt 23, 3) := by decide +kernel
theorem dX11_mark_4 : decode cX11_mark 4 = .ok (.iload_n 1, 1) := by decide +kernel
theorem dX11_mark_5 : decode cX11_mark 5 = .ok (.aload_n 0, 1) := by decide +kernel
theorem dX11_mark_6 : decode cX11_mark 6 = .ok (.getfield 73, 3) := by decide +kernel
theorem dX11_mark_9 : decode cX11_mark 9 = .ok (.arraylength, 1) := by decide +kernel
theorem dX11_mark_10 : decode cX11_mark 10 = .ok (.if_icmp .ge 14, 3) := by decide +kernel
theorem dX11_mark_13 : decode cX11_mark 13 = .ok (.aload_n 0, 1) := by decide +kernel
theorem dX11_mark_14 : decode cX11_mark 14 = .ok (.getfield 23, 3) := by decide +kernel
theorem dX11_mark_17 : decode cX11_mark 17 = .ok (.iload_n 2, 1) := by decide +kernel
theorem dX11_mark_18 : decode cX11_mark 18 = .ok (.invokevirtual 127, 3) := by decide +kernel
theorem dX11_mark_21 : decode cX11_mark 21 = .ok (.ifCond .ne 6, 3) := by decide +kernel
theorem dX11_mark_24 : decode cX11_mark 24 = .ok (.ldc 148, 2) := by decide +kernel
theorem dX11_mark_26 : decode cX11_mark 26 = .ok (.ireturn, 1) := by decide +kernel
theorem dX11_mark_27 : decode cX11_mark 27 = .ok (.aload_n 0, 1) := by decide +kernel
theorem dX11_mark_28 : decode cX11_mark 28 = .ok (.getfield 73, 3) := by decide +kernel
theorem dX11_mark_31 : decode cX11_mark 31 = .ok (.iload_n 1, 1) := by decide +kernel
theorem dX11_mark_32 : decode cX11_mark 32 = .ok (.aaload, 1) := by decide +kernel
theorem dX11_mark_33 : decode cX11_mark 33 = .ok (.aload_n 0, 1) := by decide +kernel
theorem dX11_mark_34 : decode cX11_mark 34 = .ok (.getfield 23, 3) := by decide +kernel
theorem dX11_mark_37 : decode cX11_mark 37 = .ok (.aload_n 0, 1) := by decide +kernel
theorem dX11_mark_38 : decode cX11_mark 38 = .ok (.getfield 29, 3) := by decide +kernel
theorem dX11_mark_41 : decode cX11_mark 41 = .ok (.iload_n 2, 1) := by decide +kernel
theorem dX11_mark_42 : decode cX11_mark 42 = .ok (.invokevirtual 253, 3) := by decide +kernel
theorem dX11_mark_45 : decode cX11_mark 45 = .ok (.ireturn, 1) := by decide +kernel
theorem dX11_keep_0 : decode cX11_keep 0 = .ok (.iload_n 1, 1) := by decide +kernel
theorem dX11_keep_1 : decode cX11_keep 1 = .ok (.ifCond .lt 8, 3) := by decide +kernel
theorem dX11_keep_4 : decode cX11_keep 4 = .ok (.iload_n 1, 1) := by decide +kernel
theorem dX11_keep_5 : decode cX11_keep 5 = .ok (.iconst 2, 1) := by decide +kernel
theorem dX11_keep_6 : decode cX11_keep 6 = .ok (.if_icmp .lt 5, 3) := by decide +kernel
theorem dX11_keep_9 : decode cX11_keep 9 = .ok (.iconst (-1), 1) := by decide +kernel
theorem dX11_keep_10 : decode cX11_keep 10 = .ok (.ireturn, 1) := by decide +kernel
theorem dX11_keep_11 : decode cX11_keep 11 = .ok (.aload_n 0, 1) := by decide +kernel
theorem dX11_keep_12 : decode cX11_keep 12 = .ok (.getfield 33, 3) := by decide +kernel
theorem dX11_keep_15 : decode cX11_keep 15 = .ok (.iload_n 1, 1) := by decide +kernel
theorem dX11_keep_16 : decode cX11_keep 16 = .ok (.aaload, 1) := by decide +kernel
theorem dX11_keep_17 : decode cX11_keep 17 = .ok (.aload_n 0, 1) := by decide +kernel
theorem dX11_keep_18 : decode cX11_keep 18 = .ok (.getfield 29, 3) := by decide +kernel
theorem dX11_keep_21 : decode cX11_keep 21 = .ok (.invokevirtual 257, 3) := by decide +kernel
theorem dX11_keep_24 : decode cX11_keep 24 = .ok (.aload_n 0, 1) := by decide +kernel
theorem dX11_keep_25 : decode cX11_keep 25 = .ok (.getfield 37, 3) := by decide +kernel
theorem dX11_keep_28 : decode cX11_keep 28 = .ok (.iload_n 1, 1) := by decide +kernel
theorem dX11_keep_29 : decode cX11_keep 29 = .ok (.iconst 1, 1) := by decide +kernel
theorem dX11_keep_30 : decode cX11_keep 30 = .ok (.bastore, 1) := by decide +kernel
theorem dX11_keep_31 : decode cX11_keep 31 = .ok (.aload_n 0, 1) := by decide +kernel
theorem dX11_keep_32 : decode cX11_keep 32 = .ok (.getfield 29, 3) := by decide +kernel
theorem dX11_keep_35 : decode cX11_keep 35 = .ok (.getfield 152, 3) := by decide +kernel
theorem dX11_keep_38 : decode cX11_keep 38 = .ok (.ireturn, 1) := by decide +kernel
theorem dX11_back_0 : decode cX11_back 0 = .ok (.iload_n 1, 1) := by decide +kernel
theorem dX11_back_1 : decode cX11_back 1 = .ok (.ifCond .lt 8, 3) := by decide +kernel
theorem dX11_back_4 : decode cX11_back 4 = .ok (.iload_n 1, 1) := by decide +kernel
theorem dX11_back_5 : decode cX11_back 5 = .ok (.iconst 2, 1) := by decide +kernel
theorem dX11_back_6 : decode cX11_back 6 = .ok (.if_icmp .lt 5, 3) := by decide +kernel
theorem dX11_back_9 : decode cX11_back 9 = .ok (.iconst (-1), 1) := by decide +kernel
theorem dX11_back_10 : decode cX11_back 10 = .ok (.ireturn, 1) := by decide +kernel
theorem dX11_back_11 : decode cX11_back 11 = .ok (.aload_n 0, 1) := by decide +kernel
theorem dX11_back_12 : decode cX11_back 12 = .ok (.getfield 37, 3) := by decide +kernel
theorem dX11_back_15 : decode cX11_back 15 = .ok (.iload_n 1, 1) := by decide +kernel
theorem dX11_back_16 : decode cX11_back 16 = .ok (.baload, 1) := by decide +kernel
theorem dX11_back_17 : decode cX11_back 17 = .ok (.ifCond .ne 6, 3) := by decide +kernel
theorem dX11_back_20 : decode cX11_back 20 = .ok (.bipush (-2), 2) := by decide +kernel
theorem dX11_back_22 : decode cX11_back 22 = .ok (.ireturn, 1) := by decide +kernel
theorem dX11_back_23 : decode cX11_back 23 = .ok (.aload_n 0, 1) := by decide +kernel
theorem dX11_back_24 : decode cX11_back 24 = .ok (.getfield 29, 3) := by decide +kernel
theorem dX11_back_27 : decode cX11_back 27 = .ok (.aload_n 0, 1) := by decide +kernel
theorem dX11_back_28 : decode cX11_back 28 = .ok (.getfield 33, 3) := by decide +kernel
theorem dX11_back_31 : decode cX11_back 31 = .ok (.iload_n 1, 1) := by decide +kernel
theorem dX11_back_32 : decode cX11_back 32 = .ok (.aaload, 1) := by decide +kernel
theorem dX11_back_33 : decode cX11_back 33 = .ok (.invokevirtual 257, 3) := by decide +kernel
theorem dX11_back_36 : decode cX11_back 36 = .ok (.aload_n 0, 1) := by decide +kernel
theorem dX11_back_37 : decode cX11_back 37 = .ok (.getfield 29, 3) := by decide +kernel
theorem dX11_back_40 : decode cX11_back 40 = .ok (.getfield 152, 3) := by decide +kernel
theorem dX11_back_43 : decode cX11_back 43 = .ok (.ireturn, 1) := by decide +kernel
theorem dX11_count_0 : decode cX11_count 0 = .ok (.iload_n 1, 1) := by decide +kernel
theorem dX11_count_1 : decode cX11_count 1 = .ok (.tableswitch 93 0 6 #[43, 51, 59, 67, 72, 77, 85], 43) := by decide +kernel
theorem dX11_count_44 : decode cX11_count 44 = .ok (.aload_n 0, 1) := by decide +kernel
theorem dX11_count_45 : decode cX11_count 45 = .ok (.getfield 23, 3) := by decide +kernel
theorem dX11_count_48 : decode cX11_count 48 = .ok (.getfield 158, 3) := by decide +kernel
theorem dX11_count_51 : decode cX11_count 51 = .ok (.ireturn, 1) := by decide +kernel
theorem dX11_count_52 : decode cX11_count 52 = .ok (.aload_n 0, 1) := by decide +kernel
theorem dX11_count_53 : decode cX11_count 53 = .ok (.getfield 23, 3) := by decide +kernel
theorem dX11_count_56 : decode cX11_count 56 = .ok (.getfield 260, 3) := by decide +kernel
theorem dX11_count_59 : decode cX11_count 59 = .ok (.ireturn, 1) := by decide +kernel
theorem dX11_count_60 : decode cX11_count 60 = .ok (.aload_n 0, 1) := by decide +kernel
theorem dX11_count_61 : decode cX11_count 61 = .ok (.getfield 23, 3) := by decide +kernel
theorem dX11_count_64 : decode cX11_count 64 = .ok (.getfield 263, 3) := by decide +kernel
theorem dX11_count_67 : decode cX11_count 67 = .ok (.ireturn, 1) := by decide +kernel
theorem dX11_count_68 : decode cX11_count 68 = .ok (.aload_n 0, 1) := by decide +kernel
theorem dX11_count_69 : decode cX11_count 69 = .ok (.getfield 121, 3) := by decide +kernel
theorem dX11_count_72 : decode cX11_count 72 = .ok (.ireturn, 1) := by decide +kernel
theorem dX11_count_73 : decode cX11_count 73 = .ok (.aload_n 0, 1) := by decide +kernel
theorem dX11_count_74 : decode cX11_count 74 = .ok (.getfield 124, 3) := by decide +kernel
theorem dX11_count_77 : decode cX11_count 77 = .ok (.ireturn, 1) := by decide +kernel
theorem dX11_count_78 : decode cX11_count 78 = .ok (.aload_n 0, 1) := by decide +kernel
theorem dX11_count_79 : decode cX11_count 79 = .ok (.getfield 29, 3) := by decide +kernel
theorem dX11_count_82 : decode cX11_count 82 = .ok (.getfield 179, 3) := by decide +kernel
theorem dX11_count_85 : decode cX11_count 85 = .ok (.ireturn, 1) := by decide +kernel
theorem dX11_count_86 : decode cX11_count 86 = .ok (.aload_n 0, 1) := by decide +kernel
theorem dX11_count_87 : decode cX11_count 87 = .ok (.getfield 12, 3) := by decide +kernel
theorem dX11_count_90 : decode cX11_count 90 = .ok (.getfield 99, 3) := by decide +kernel
theorem dX11_count_93 : decode cX11_count 93 = .ok (.ireturn, 1) := by decide +kernel
theorem dX11_count_94 : decode cX11_count 94 = .ok (.iconst (-1), 1) := by decide +kernel
theorem dX11_count_95 : decode cX11_count 95 = .ok (.ireturn, 1) := by decide +kernel
theorem dX11_trace_0 : decode cX11_trace 0 = .ok (.lconst 0, 1) := by decide +kernel
theorem dX11_trace_1 : decode cX11_trace 1 = .ok (.lstore_n 1, 1) := by decide +kernel
theorem dX11_trace_2 : decode cX11_trace 2 = .ok (.iconst 0, 1) := by decide +kernel
theorem dX11_trace_3 : decode cX11_trace 3 = .ok (.istore_n 3, 1) := by decide +kernel
theorem dX11_trace_4 : decode cX11_trace 4 = .ok (.iload_n 3, 1) := by decide +kernel
theorem dX11_trace_5 : decode cX11_trace 5 = .ok (.aload_n 0, 1) := by decide +kernel
theorem dX11_trace_6 : decode cX11_trace 6 = .ok (.getfield 73, 3) := by decide +kernel
theorem dX11_trace_9 : decode cX11_trace 9 = .ok (.arraylength, 1) := by decide +kernel
theorem dX11_trace_10 : decode cX11_trace 10 = .ok (.if_icmp .ge 21, 3) := by decide +kernel
theorem dX11_trace_13 : decode cX11_trace 13 = .ok (.lload_n 1, 1) := by decide +kernel
theorem dX11_trace_14 : decode cX11_trace 14 = .ok (.aload_n 0, 1) := by decide +kernel
theorem dX11_trace_15 : decode cX11_trace 15 = .ok (.getfield 73, 3) := by decide +kernel
theorem dX11_trace_18 : decode cX11_trace 18 = .ok (.iload_n 3, 1) := by decide +kernel
theorem dX11_trace_19 : decode cX11_trace 19 = .ok (.aaload, 1) := by decide +kernel
theorem dX11_trace_20 : decode cX11_trace 20 = .ok (.getfield 266, 3) := by decide +kernel
theorem dX11_trace_23 : decode cX11_trace 23 = .ok (.ladd, 1) := by decide +kernel
theorem dX11_trace_24 : decode cX11_trace 24 = .ok (.lstore_n 1, 1) := by decide +kernel
theorem dX11_trace_25 : decode cX11_trace 25 = .ok (.iinc 3 1, 3) := by decide +kernel
theorem dX11_trace_28 : decode cX11_trace 28 = .ok (.goto (-24), 3) := by decide +kernel
theorem dX11_trace_31 : decode cX11_trace 31 = .ok (.lload_n 1, 1) := by decide +kernel
theorem dX11_trace_32 : decode cX11_trace 32 = .ok (.lreturn, 1) := by decide +kernel
theorem dJ6_bitCount_0f7a4_0 : decode cJ6_bitCount_0f7a4 0 = .ok (.iload_n 0, 1) := by decide +kernel
theorem dJ6_bitCount_0f7a4_1 : decode cJ6_bitCount_0f7a4 1 = .ok (.iload_n 0, 1) := by decide +kernel
theorem dJ6_bitCount_0f7a4_2 : decode cJ6_bitCount_0f7a4 2 = .ok (.iconst 1, 1) := by decide +kernel
theorem dJ6_bitCount_0f7a4_3 : decode cJ6_bitCount_0f7a4 3 = .ok (.iushr, 1) := by decide +kernel
theorem dJ6_bitCount_0f7a4_4 : decode cJ6_bitCount_0f7a4 4 = .ok (.ldc_w 265, 3) := by decide +kernel
theorem dJ6_bitCount_0f7a4_7 : decode cJ6_bitCount_0f7a4 7 = .ok (.iand, 1) := by decide +kernel
theorem dJ6_bitCount_0f7a4_8 : decode cJ6_bitCount_0f7a4 8 = .ok (.isub, 1) := by decide +kernel
theorem dJ6_bitCount_0f7a4_9 : decode cJ6_bitCount_0f7a4 9 = .ok (.istore_n 0, 1) := by decide +kernel
theorem dJ6_bitCount_0f7a4_10 : decode cJ6_bitCount_0f7a4 10 = .ok (.iload_n 0, 1) := by decide +kernel
theorem dJ6_bitCount_0f7a4_11 : decode cJ6_bitCount_0f7a4 11 = .ok (.ldc_w 266, 3) := by decide +kernel
theorem dJ6_bitCount_0f7a4_14 : decode cJ6_bitCount_0f7a4 14 = .ok (.iand, 1) := by decide +kernel
theorem dJ6_bitCount_0f7a4_15 : decode cJ6_bitCount_0f7a4 15 = .ok (.iload_n 0, 1) := by decide +kernel
theorem dJ6_bitCount_0f7a4_16 : decode cJ6_bitCount_0f7a4 16 = .ok (.iconst 2, 1) := by decide +kernel
theorem dJ6_bitCount_0f7a4_17 : decode cJ6_bitCount_0f7a4 17 = .ok (.iushr, 1) := by decide +kernel
theorem dJ6_bitCount_0f7a4_18 : decode cJ6_bitCount_0f7a4 18 = .ok (.ldc_w 266, 3) := by decide +kernel
theorem dJ6_bitCount_0f7a4_21 : decode cJ6_bitCount_0f7a4 21 = .ok (.iand, 1) := by decide +kernel
theorem dJ6_bitCount_0f7a4_22 : decode cJ6_bitCount_0f7a4 22 = .ok (.iadd, 1) := by decide +kernel
theorem dJ6_bitCount_0f7a4_23 : decode cJ6_bitCount_0f7a4 23 = .ok (.istore_n 0, 1) := by decide +kernel
theorem dJ6_bitCount_0f7a4_24 : decode cJ6_bitCount_0f7a4 24 = .ok (.iload_n 0, 1) := by decide +kernel
theorem dJ6_bitCount_0f7a4_25 : decode cJ6_bitCount_0f7a4 25 = .ok (.iload_n 0, 1) := by decide +kernel
theorem dJ6_bitCount_0f7a4_26 : decode cJ6_bitCount_0f7a4 26 = .ok (.iconst 4, 1) := by decide +kernel
theorem dJ6_bitCount_0f7a4_27 : decode cJ6_bitCount_0f7a4 27 = .ok (.iushr, 1) := by decide +kernel
theorem dJ6_bitCount_0f7a4_28 : decode cJ6_bitCount_0f7a4 28 = .ok (.iadd, 1) := by decide +kernel
theorem dJ6_bitCount_0f7a4_29 : decode cJ6_bitCount_0f7a4 29 = .ok (.ldc_w 267, 3) := by decide +kernel
theorem dJ6_bitCount_0f7a4_32 : decode cJ6_bitCount_0f7a4 32 = .ok (.iand, 1) := by decide +kernel
theorem dJ6_bitCount_0f7a4_33 : decode cJ6_bitCount_0f7a4 33 = .ok (.istore_n 0, 1) := by decide +kernel
theorem dJ6_bitCount_0f7a4_34 : decode cJ6_bitCount_0f7a4 34 = .ok (.iload_n 0, 1) := by decide +kernel
theorem dJ6_bitCount_0f7a4_35 : decode cJ6_bitCount_0f7a4 35 = .ok (.iload_n 0, 1) := by decide +kernel
theorem dJ6_bitCount_0f7a4_36 : decode cJ6_bitCount_0f7a4 36 = .ok (.bipush 8, 2) := by decide +kernel
theorem dJ6_bitCount_0f7a4_38 : decode cJ6_bitCount_0f7a4 38 = .ok (.iushr, 1) := by decide +kernel
theorem dJ6_bitCount_0f7a4_39 : decode cJ6_bitCount_0f7a4 39 = .ok (.iadd, 1) := by decide +kernel
theorem dJ6_bitCount_0f7a4_40 : decode cJ6_bitCount_0f7a4 40 = .ok (.istore_n 0, 1) := by decide +kernel
theorem dJ6_bitCount_0f7a4_41 : decode cJ6_bitCount_0f7a4 41 = .ok (.iload_n 0, 1) := by decide +kernel
theorem dJ6_bitCount_0f7a4_42 : decode cJ6_bitCount_0f7a4 42 = .ok (.iload_n 0, 1) := by decide +kernel
theorem dJ6_bitCount_0f7a4_43 : decode cJ6_bitCount_0f7a4 43 = .ok (.bipush 16, 2) := by decide +kernel
theorem dJ6_bitCount_0f7a4_45 : decode cJ6_bitCount_0f7a4 45 = .ok (.iushr, 1) := by decide +kernel
theorem dJ6_bitCount_0f7a4_46 : decode cJ6_bitCount_0f7a4 46 = .ok (.iadd, 1) := by decide +kernel
theorem dJ6_bitCount_0f7a4_47 : decode cJ6_bitCount_0f7a4 47 = .ok (.istore_n 0, 1) := by decide +kernel
theorem dJ6_bitCount_0f7a4_48 : decode cJ6_bitCount_0f7a4 48 = .ok (.iload_n 0, 1) := by decide +kernel
theorem dJ6_bitCount_0f7a4_49 : decode cJ6_bitCount_0f7a4 49 = .ok (.bipush 63, 2) := by decide +kernel
theorem dJ6_bitCount_0f7a4_51 : decode cJ6_bitCount_0f7a4 51 = .ok (.iand, 1) := by decide +kernel
theorem dJ6_bitCount_0f7a4_52 : decode cJ6_bitCount_0f7a4 52 = .ok (.ireturn, 1) := by decide +kernel
theorem dJ9_max_7cf53_0 : decode cJ9_max_7cf53 0 = .ok (.iload_n 0, 1) := by decide +kernel
theorem dJ9_max_7cf53_1 : decode cJ9_max_7cf53 1 = .ok (.iload_n 1, 1) := by decide +kernel
theorem dJ9_max_7cf53_2 : decode cJ9_max_7cf53 2 = .ok (.if_icmp .lt 7, 3) := by decide +kernel
theorem dJ9_max_7cf53_5 : decode cJ9_max_7cf53 5 = .ok (.iload_n 0, 1) := by decide +kernel
theorem dJ9_max_7cf53_6 : decode cJ9_max_7cf53 6 = .ok (.goto 4, 3) := by decide +kernel
theorem dJ9_max_7cf53_9 : decode cJ9_max_7cf53 9 = .ok (.iload_n 1, 1) := by decide +kernel
theorem dJ9_max_7cf53_10 : decode cJ9_max_7cf53 10 = .ok (.ireturn, 1) := by decide +kernel
theorem dJ9_min_7cf53_0 : decode cJ9_min_7cf53 0 = .ok (.iload_n 0, 1) := by decide +kernel
theorem dJ9_min_7cf53_1 : decode cJ9_min_7cf53 1 = .ok (.iload_n 1, 1) := by decide +kernel
theorem dJ9_min_7cf53_2 : decode cJ9_min_7cf53 2 = .ok (.if_icmp .gt 7, 3) := by decide +kernel
theorem dJ9_min_7cf53_5 : decode cJ9_min_7cf53 5 = .ok (.iload_n 0, 1) := by decide +kernel
theorem dJ9_min_7cf53_6 : decode cJ9_min_7cf53 6 = .ok (.goto 4, 3) := by decide +kernel
theorem dJ9_min_7cf53_9 : decode cJ9_min_7cf53 9 = .ok (.iload_n 1, 1) := by decide +kernel
theorem dJ9_min_7cf53_10 : decode cJ9_min_7cf53 10 = .ok (.ireturn, 1) := by decide +kernel
theorem dJ7_fill_53178_0 : decode cJ7_fill_53178 0 = .ok (.iconst 0, 1) := by decide +kernel
theorem dJ7_fill_53178_1 : decode cJ7_fill_53178 1 = .ok (.istore_n 2, 1) := by decide +kernel
theorem dJ7_fill_53178_2 : decode cJ7_fill_53178 2 = .ok (.aload_n 0, 1) := by decide +kernel
theorem dJ7_fill_53178_3 : decode cJ7_fill_53178 3 = .ok (.arraylength, 1) := by decide +kernel
theorem dJ7_fill_53178_4 : decode cJ7_fill_53178 4 = .ok (.istore_n 3, 1) := by decide +kernel
theorem dJ7_fill_53178_5 : decode cJ7_fill_53178 5 = .ok (.iload_n 2, 1) := by decide +kernel
theorem dJ7_fill_53178_6 : decode cJ7_fill_53178 6 = .ok (.iload_n 3, 1) := by decide +kernel
theorem dJ7_fill_53178_7 : decode cJ7_fill_53178 7 = .ok (.if_icmp .ge 13, 3) := by decide +kernel
theorem dJ7_fill_53178_10 : decode cJ7_fill_53178 10 = .ok (.aload_n 0, 1) := by decide +kernel
theorem dJ7_fill_53178_11 : decode cJ7_fill_53178 11 = .ok (.iload_n 2, 1) := by decide +kernel
theorem dJ7_fill_53178_12 : decode cJ7_fill_53178 12 = .ok (.iload_n 1, 1) := by decide +kernel
theorem dJ7_fill_53178_13 : decode cJ7_fill_53178 13 = .ok (.iastore, 1) := by decide +kernel
theorem dJ7_fill_53178_14 : decode cJ7_fill_53178 14 = .ok (.iinc 2 1, 3) := by decide +kernel
theorem dJ7_fill_53178_17 : decode cJ7_fill_53178 17 = .ok (.goto (-12), 3) := by decide +kernel
theorem dJ7_fill_53178_20 : decode cJ7_fill_53178 20 = .ok (.return_, 1) := by decide +kernel
