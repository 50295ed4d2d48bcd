theorem dX12_init_0 : decode cX12_init 0 = .ok (.aload_n 0, 1) := by decide +kernel
theorem dX12_init_1 : decode cX12_init 1 = .ok (.invokespecial 1, 3) := by decide +kernel
theorem dX12_init_4 : decode cX12_init 4 = .ok (.aload_n 0, 1) := by decide +kernel
theorem dX12_init_5 : decode cX12_init 5 = .ok (.sipush 150, 3) := by decide +kernel
theorem dX12_init_8 : decode cX12_init 8 = .ok (.newarray .byte, 2) := by decide +kernel
theorem dX12_init_10 : decode cX12_init 10 = .ok (.putfield 7, 3) := by decide +kernel
theorem dX12_init_13 : decode cX12_init 13 = .ok (.aload_n 0, 1) := by decide +kernel
theorem dX12_init_14 : decode cX12_init 14 = .ok (.iconst 2, 1) := by decide +kernel
theorem dX12_init_15 : decode cX12_init 15 = .ok (.newarray .int, 2) := by decide +kernel
theorem dX12_init_17 : decode cX12_init 17 = .ok (.putfield 13, 3) := by decide +kernel
theorem dX12_init_20 : decode cX12_init 20 = .ok (.aload_n 0, 1) := by decide +kernel
theorem dX12_init_21 : decode cX12_init 21 = .ok (.bipush 12, 2) := by decide +kernel
theorem dX12_init_23 : decode cX12_init 23 = .ok (.newarray .int, 2) := by decide +kernel
theorem dX12_init_25 : decode cX12_init 25 = .ok (.putfield 17, 3) := by decide +kernel
theorem dX12_init_28 : decode cX12_init 28 = .ok (.aload_n 0, 1) := by decide +kernel
theorem dX12_init_29 : decode cX12_init 29 = .ok (.bipush 6, 2) := by decide +kernel
theorem dX12_init_31 : decode cX12_init 31 = .ok (.newarray .int, 2) := by decide +kernel
theorem dX12_init_33 : decode cX12_init 33 = .ok (.putfield 20, 3) := by decide +kernel
theorem dX12_init_36 : decode cX12_init 36 = .ok (.aload_n 0, 1) := by decide +kernel
theorem dX12_init_37 : decode cX12_init 37 = .ok (.bipush 72, 2) := by decide +kernel
theorem dX12_init_39 : decode cX12_init 39 = .ok (.newarray .int, 2) := by decide +kernel
theorem dX12_init_41 : decode cX12_init 41 = .ok (.putfield 23, 3) := by decide +kernel
theorem dX12_init_44 : decode cX12_init 44 = .ok (.aload_n 0, 1) := by decide +kernel
theorem dX12_init_45 : decode cX12_init 45 = .ok (.iconst 2, 1) := by decide +kernel
theorem dX12_init_46 : decode cX12_init 46 = .ok (.newarray .int, 2) := by decide +kernel
theorem dX12_init_48 : decode cX12_init 48 = .ok (.putfield 26, 3) := by decide +kernel
theorem dX12_init_51 : decode cX12_init 51 = .ok (.aload_n 0, 1) := by decide +kernel
theorem dX12_init_52 : decode cX12_init 52 = .ok (.iconst 2, 1) := by decide +kernel
theorem dX12_init_53 : decode cX12_init 53 = .ok (.newarray .int, 2) := by decide +kernel
theorem dX12_init_55 : decode cX12_init 55 = .ok (.putfield 29, 3) := by decide +kernel
theorem dX12_init_58 : decode cX12_init 58 = .ok (.aload_n 0, 1) := by decide +kernel
theorem dX12_init_59 : decode cX12_init 59 = .ok (.sipush 465, 3) := by decide +kernel
theorem dX12_init_62 : decode cX12_init 62 = .ok (.newarray .int, 2) := by decide +kernel
theorem dX12_init_64 : decode cX12_init 64 = .ok (.putfield 32, 3) := by decide +kernel
theorem dX12_init_67 : decode cX12_init 67 = .ok (.aload_n 0, 1) := by decide +kernel
theorem dX12_init_68 : decode cX12_init 68 = .ok (.iconst 2, 1) := by decide +kernel
theorem dX12_init_69 : decode cX12_init 69 = .ok (.newarray .boolean, 2) := by decide +kernel
theorem dX12_init_71 : decode cX12_init 71 = .ok (.putfield 35, 3) := by decide +kernel
theorem dX12_init_74 : decode cX12_init 74 = .ok (.aload_n 0, 1) := by decide +kernel
theorem dX12_init_75 : decode cX12_init 75 = .ok (.bipush 24, 2) := by decide +kernel
theorem dX12_init_77 : decode cX12_init 77 = .ok (.newarray .int, 2) := by decide +kernel
theorem dX12_init_79 : decode cX12_init 79 = .ok (.putfield 39, 3) := by decide +kernel
theorem dX12_init_82 : decode cX12_init 82 = .ok (.aload_n 0, 1) := by decide +kernel
theorem dX12_init_83 : decode cX12_init 83 = .ok (.bipush 36, 2) := by decide +kernel
theorem dX12_init_85 : decode cX12_init 85 = .ok (.newarray .int, 2) := by decide +kernel
theorem dX12_init_87 : decode cX12_init 87 = .ok (.putfield 42, 3) := by decide +kernel
theorem dX12_init_90 : decode cX12_init 90 = .ok (.aload_n 0, 1) := by decide +kernel
theorem dX12_init_91 : decode cX12_init 91 = .ok (.iconst 3, 1) := by decide +kernel
theorem dX12_init_92 : decode cX12_init 92 = .ok (.newarray .int, 2) := by decide +kernel
theorem dX12_init_94 : decode cX12_init 94 = .ok (.putfield 45, 3) := by decide +kernel
theorem dX12_init_97 : decode cX12_init 97 = .ok (.aload_n 0, 1) := by decide +kernel
theorem dX12_init_98 : decode cX12_init 98 = .ok (.bipush 6, 2) := by decide +kernel
theorem dX12_init_100 : decode cX12_init 100 = .ok (.newarray .int, 2) := by decide +kernel
theorem dX12_init_102 : decode cX12_init 102 = .ok (.putfield 48, 3) := by decide +kernel
theorem dX12_init_105 : decode cX12_init 105 = .ok (.aload_n 0, 1) := by decide +kernel
theorem dX12_init_106 : decode cX12_init 106 = .ok (.bipush 6, 2) := by decide +kernel
theorem dX12_init_108 : decode cX12_init 108 = .ok (.newarray .int, 2) := by decide +kernel
theorem dX12_init_110 : decode cX12_init 110 = .ok (.putfield 51, 3) := by decide +kernel
theorem dX12_init_113 : decode cX12_init 113 = .ok (.aload_n 0, 1) := by decide +kernel
theorem dX12_init_114 : decode cX12_init 114 = .ok (.bipush 6, 2) := by decide +kernel
theorem dX12_init_116 : decode cX12_init 116 = .ok (.newarray .int, 2) := by decide +kernel
theorem dX12_init_118 : decode cX12_init 118 = .ok (.putfield 54, 3) := by decide +kernel
theorem dX12_init_121 : decode cX12_init 121 = .ok (.aload_n 0, 1) := by decide +kernel
theorem dX12_init_122 : decode cX12_init 122 = .ok (.bipush 6, 2) := by decide +kernel
theorem dX12_init_124 : decode cX12_init 124 = .ok (.newarray .int, 2) := by decide +kernel
theorem dX12_init_126 : decode cX12_init 126 = .ok (.putfield 57, 3) := by decide +kernel
theorem dX12_init_129 : decode cX12_init 129 = .ok (.aload_n 0, 1) := by decide +kernel
theorem dX12_init_130 : decode cX12_init 130 = .ok (.bipush 6, 2) := by decide +kernel
theorem dX12_init_132 : decode cX12_init 132 = .ok (.newarray .int, 2) := by decide +kernel
theorem dX12_init_134 : decode cX12_init 134 = .ok (.putfield 60, 3) := by decide +kernel
theorem dX12_init_137 : decode cX12_init 137 = .ok (.aload_n 0, 1) := by decide +kernel
theorem dX12_init_138 : decode cX12_init 138 = .ok (.invokevirtual 63, 3) := by decide +kernel
theorem dX12_init_141 : decode cX12_init 141 = .ok (.aload_n 0, 1) := by decide +kernel
theorem dX12_init_142 : decode cX12_init 142 = .ok (.invokevirtual 66, 3) := by decide +kernel
theorem dX12_init_145 : decode cX12_init 145 = .ok (.return_, 1) := by decide +kernel
theorem dX12_in_0 : decode cX12_in 0 = .ok (.iload_n 0, 1) := by decide +kernel
theorem dX12_in_1 : decode cX12_in 1 = .ok (.iload_n 1, 1) := by decide +kernel
theorem dX12_in_2 : decode cX12_in 2 = .ok (.if_icmp .lt 12, 3) := by decide +kernel
theorem dX12_in_5 : decode cX12_in 5 = .ok (.iload_n 0, 1) := by decide +kernel
theorem dX12_in_6 : decode cX12_in 6 = .ok (.iload_n 2, 1) := by decide +kernel
theorem dX12_in_7 : decode cX12_in 7 = .ok (.if_icmp .gt 7, 3) := by decide +kernel
theorem dX12_in_10 : decode cX12_in 10 = .ok (.iconst 1, 1) := by decide +kernel
theorem dX12_in_11 : decode cX12_in 11 = .ok (.goto 4, 3) := by decide +kernel
theorem dX12_in_14 : decode cX12_in 14 = .ok (.iconst 0, 1) := by decide +kernel
theorem dX12_in_15 : decode cX12_in 15 = .ok (.ireturn, 1) := by decide +kernel
theorem dX12_type_0 : decode cX12_type 0 = .ok (.iload_n 1, 1) := by decide +kernel
theorem dX12_type_1 : decode cX12_type 1 = .ok (.iconst 0, 1) := by decide +kernel
theorem dX12_type_2 : decode cX12_type 2 = .ok (.sipush 255, 3) := by decide +kernel
theorem dX12_type_5 : decode cX12_type 5 = .ok (.invokestatic 69, 3) := by decide +kernel
theorem dX12_type_8 : decode cX12_type 8 = .ok (.ifCond .ne 5, 3) := by decide +kernel
theorem dX12_type_11 : decode cX12_type 11 = .ok (.iconst (-1), 1) := by decide +kernel
theorem dX12_type_12 : decode cX12_type 12 = .ok (.ireturn, 1) := by decide +kernel
theorem dX12_type_13 : decode cX12_type 13 = .ok (.aload_n 0, 1) := by decide +kernel
theorem dX12_type_14 : decode cX12_type 14 = .ok (.getfield 73, 3) := by decide +kernel
theorem dX12_type_17 : decode cX12_type 17 = .ok (.sipush 150, 3) := by decide +kernel
theorem dX12_type_20 : decode cX12_type 20 = .ok (.if_icmp .ne 6, 3) := by decide +kernel
theorem dX12_type_23 : decode cX12_type 23 = .ok (.bipush (-3), 2) := by decide +kernel
theorem dX12_type_25 : decode cX12_type 25 = .ok (.ireturn, 1) := by decide +kernel
theorem dX12_type_26 : decode cX12_type 26 = .ok (.aload_n 0, 1) := by decide +kernel
theorem dX12_type_27 : decode cX12_type 27 = .ok (.getfield 7, 3) := by decide +kernel
theorem dX12_type_30 : decode cX12_type 30 = .ok (.aload_n 0, 1) := by decide +kernel
theorem dX12_type_31 : decode cX12_type 31 = .ok (.getfield 73, 3) := by decide +kernel
theorem dX12_type_34 : decode cX12_type 34 = .ok (.iload_n 1, 1) := by decide +kernel
theorem dX12_type_35 : decode cX12_type 35 = .ok (.i2b, 1) := by decide +kernel
theorem dX12_type_36 : decode cX12_type 36 = .ok (.bastore, 1) := by decide +kernel
theorem dX12_type_37 : decode cX12_type 37 = .ok (.aload_n 0, 1) := by decide +kernel
theorem dX12_type_38 : decode cX12_type 38 = .ok (.dup, 1) := by decide +kernel
theorem dX12_type_39 : decode cX12_type 39 = .ok (.getfield 73, 3) := by decide +kernel
theorem dX12_type_42 : decode cX12_type 42 = .ok (.iconst 1, 1) := by decide +kernel
theorem dX12_type_43 : decode cX12_type 43 = .ok (.iadd, 1) := by decide +kernel
theorem dX12_type_44 : decode cX12_type 44 = .ok (.putfield 73, 3) := by decide +kernel
theorem dX12_type_47 : decode cX12_type 47 = .ok (.aload_n 0, 1) := by decide +kernel
theorem dX12_type_48 : decode cX12_type 48 = .ok (.getfield 73, 3) := by decide +kernel
theorem dX12_type_51 : decode cX12_type 51 = .ok (.ireturn, 1) := by decide +kernel
theorem dX12_clear_0 : decode cX12_clear 0 = .ok (.aload_n 0, 1) := by decide +kernel
theorem dX12_clear_1 : decode cX12_clear 1 = .ok (.getfield 73, 3) := by decide +kernel
theorem dX12_clear_4 : decode cX12_clear 4 = .ok (.istore_n 1, 1) := by decide +kernel
theorem dX12_clear_5 : decode cX12_clear 5 = .ok (.aload_n 0, 1) := by decide +kernel
theorem dX12_clear_6 : decode cX12_clear 6 = .ok (.iconst 0, 1) := by decide +kernel
theorem dX12_clear_7 : decode cX12_clear 7 = .ok (.putfield 73, 3) := by decide +kernel
theorem dX12_clear_10 : decode cX12_clear 10 = .ok (.iload_n 1, 1) := by decide +kernel
theorem dX12_clear_11 : decode cX12_clear 11 = .ok (.ireturn, 1) := by decide +kernel
theorem dX12_here_0 : decode cX12_here 0 = .ok (.aload_n 0, 1) := by decide +kernel
theorem dX12_here_1 : decode cX12_here 1 = .ok (.getfield 77, 3) := by decide +kernel
theorem dX12_here_4 : decode cX12_here 4 = .ok (.aload_n 0, 1) := by decide +kernel
theorem dX12_here_5 : decode cX12_here 5 = .ok (.getfield 73, 3) := by decide +kernel
theorem dX12_here_8 : decode cX12_here 8 = .ok (.if_icmp .ge 19, 3) := by decide +kernel
theorem dX12_here_11 : decode cX12_here 11 = .ok (.aload_n 0, 1) := by decide +kernel
theorem dX12_here_12 : decode cX12_here 12 = .ok (.getfield 7, 3) := by decide +kernel
theorem dX12_here_15 : decode cX12_here 15 = .ok (.aload_n 0, 1) := by decide +kernel
theorem dX12_here_16 : decode cX12_here 16 = .ok (.getfield 77, 3) := by decide +kernel
theorem dX12_here_19 : decode cX12_here 19 = .ok (.baload, 1) := by decide +kernel
theorem dX12_here_20 : decode cX12_here 20 = .ok (.sipush 255, 3) := by decide +kernel
theorem dX12_here_23 : decode cX12_here 23 = .ok (.iand, 1) := by decide +kernel
theorem dX12_here_24 : decode cX12_here 24 = .ok (.goto 4, 3) := by decide +kernel
theorem dX12_here_27 : decode cX12_here 27 = .ok (.iconst (-1), 1) := by decide +kernel
theorem dX12_here_28 : decode cX12_here 28 = .ok (.ireturn, 1) := by decide +kernel
theorem dX12_step_0 : decode cX12_step 0 = .ok (.aload_n 0, 1) := by decide +kernel
theorem dX12_step_1 : decode cX12_step 1 = .ok (.invokevirtual 80, 3) := by decide +kernel
theorem dX12_step_4 : decode cX12_step 4 = .ok (.bipush 32, 2) := by decide +kernel
theorem dX12_step_6 : decode cX12_step 6 = .ok (.if_icmp .ne 16, 3) := by decide +kernel
theorem dX12_step_9 : decode cX12_step 9 = .ok (.aload_n 0, 1) := by decide +kernel
theorem dX12_step_10 : decode cX12_step 10 = .ok (.dup, 1) := by decide +kernel
theorem dX12_step_11 : decode cX12_step 11 = .ok (.getfield 77, 3) := by decide +kernel
theorem dX12_step_14 : decode cX12_step 14 = .ok (.iconst 1, 1) := by decide +kernel
theorem dX12_step_15 : decode cX12_step 15 = .ok (.iadd, 1) := by decide +kernel
theorem dX12_step_16 : decode cX12_step 16 = .ok (.putfield 77, 3) := by decide +kernel
theorem dX12_step_19 : decode cX12_step 19 = .ok (.goto (-19), 3) := by decide +kernel
theorem dX12_step_22 : decode cX12_step 22 = .ok (.aload_n 0, 1) := by decide +kernel
theorem dX12_step_23 : decode cX12_step 23 = .ok (.aload_n 0, 1) := by decide +kernel
theorem dX12_step_24 : decode cX12_step 24 = .ok (.getfield 77, 3) := by decide +kernel
theorem dX12_step_27 : decode cX12_step 27 = .ok (.putfield 84, 3) := by decide +kernel
theorem dX12_step_30 : decode cX12_step 30 = .ok (.aload_n 0, 1) := by decide +kernel
theorem dX12_step_31 : decode cX12_step 31 = .ok (.iconst 0, 1) := by decide +kernel
theorem dX12_step_32 : decode cX12_step 32 = .ok (.putfield 87, 3) := by decide +kernel
theorem dX12_step_35 : decode cX12_step 35 = .ok (.aload_n 0, 1) := by decide +kernel
theorem dX12_step_36 : decode cX12_step 36 = .ok (.invokevirtual 80, 3) := by decide +kernel
theorem dX12_step_39 : decode cX12_step 39 = .ok (.istore_n 1, 1) := by decide +kernel
theorem dX12_step_40 : decode cX12_step 40 = .ok (.iload_n 1, 1) := by decide +kernel
theorem dX12_step_41 : decode cX12_step 41 = .ok (.ifCond .ge 11, 3) := by decide +kernel
theorem dX12_step_44 : decode cX12_step 44 = .ok (.aload_n 0, 1) := by decide +kernel
theorem dX12_step_45 : decode cX12_step 45 = .ok (.iconst 3, 1) := by decide +kernel
theorem dX12_step_46 : decode cX12_step 46 = .ok (.putfield 90, 3) := by decide +kernel
theorem dX12_step_49 : decode cX12_step 49 = .ok (.goto 204, 3) := by decide +kernel
theorem dX12_step_52 : decode cX12_step 52 = .ok (.iload_n 1, 1) := by decide +kernel
theorem dX12_step_53 : decode cX12_step 53 = .ok (.bipush 97, 2) := by decide +kernel
theorem dX12_step_55 : decode cX12_step 55 = .ok (.bipush 122, 2) := by decide +kernel
theorem dX12_step_57 : decode cX12_step 57 = .ok (.invokestatic 69, 3) := by decide +kernel
theorem dX12_step_60 : decode cX12_step 60 = .ok (.ifCond .eq 55, 3) := by decide +kernel
theorem dX12_step_63 : decode cX12_step 63 = .ok (.aload_n 0, 1) := by decide +kernel
theorem dX12_step_64 : decode cX12_step 64 = .ok (.invokevirtual 80, 3) := by decide +kernel
theorem dX12_step_67 : decode cX12_step 67 = .ok (.bipush 97, 2) := by decide +kernel
theorem dX12_step_69 : decode cX12_step 69 = .ok (.bipush 122, 2) := by decide +kernel
theorem dX12_step_71 : decode cX12_step 71 = .ok (.invokestatic 69, 3) := by decide +kernel
theorem dX12_step_74 : decode cX12_step 74 = .ok (.ifCond .eq 16, 3) := by decide +kernel
theorem dX12_step_77 : decode cX12_step 77 = .ok (.aload_n 0, 1) := by decide +kernel
theorem dX12_step_78 : decode cX12_step 78 = .ok (.dup, 1) := by decide +kernel
theorem dX12_step_79 : decode cX12_step 79 = .ok (.getfield 77, 3) := by decide +kernel
theorem dX12_step_82 : decode cX12_step 82 = .ok (.iconst 1, 1) := by decide +kernel
theorem dX12_step_83 : decode cX12_step 83 = .ok (.iadd, 1) := by decide +kernel
theorem dX12_step_84 : decode cX12_step 84 = .ok (.putfield 77, 3) := by decide +kernel
theorem dX12_step_87 : decode cX12_step 87 = .ok (.goto (-24), 3) := by decide +kernel
theorem dX12_step_90 : decode cX12_step 90 = .ok (.aload_n 0, 1) := by decide +kernel
theorem dX12_step_91 : decode cX12_step 91 = .ok (.aload_n 0, 1) := by decide +kernel
theorem dX12_step_92 : decode cX12_step 92 = .ok (.getfield 77, 3) := by decide +kernel
theorem dX12_step_95 : decode cX12_step 95 = .ok (.aload_n 0, 1) := by decide +kernel
theorem dX12_step_96 : decode cX12_step 96 = .ok (.getfield 84, 3) := by decide +kernel
theorem dX12_step_99 : decode cX12_step 99 = .ok (.isub, 1) := by decide +kernel
theorem dX12_step_100 : decode cX12_step 100 = .ok (.iconst 1, 1) := by decide +kernel
theorem dX12_step_101 : decode cX12_step 101 = .ok (.if_icmp .ne 7, 3) := by decide +kernel
theorem dX12_step_104 : decode cX12_step 104 = .ok (.iload_n 1, 1) := by decide +kernel
theorem dX12_step_105 : decode cX12_step 105 = .ok (.goto 4, 3) := by decide +kernel
theorem dX12_step_108 : decode cX12_step 108 = .ok (.iconst 4, 1) := by decide +kernel
theorem dX12_step_109 : decode cX12_step 109 = .ok (.putfield 90, 3) := by decide +kernel
theorem dX12_step_112 : decode cX12_step 112 = .ok (.goto 141, 3) := by decide +kernel
theorem dX12_step_115 : decode cX12_step 115 = .ok (.iload_n 1, 1) := by decide +kernel
theorem dX12_step_116 : decode cX12_step 116 = .ok (.bipush 48, 2) := by decide +kernel
theorem dX12_step_118 : decode cX12_step 118 = .ok (.bipush 57, 2) := by decide +kernel
theorem dX12_step_120 : decode cX12_step 120 = .ok (.invokestatic 69, 3) := by decide +kernel
theorem dX12_step_123 : decode cX12_step 123 = .ok (.ifCond .eq 105, 3) := by decide +kernel
theorem dX12_step_126 : decode cX12_step 126 = .ok (.aload_n 0, 1) := by decide +kernel
theorem dX12_step_127 : decode cX12_step 127 = .ok (.invokevirtual 80, 3) := by decide +kernel
theorem dX12_step_130 : decode cX12_step 130 = .ok (.bipush 48, 2) := by decide +kernel
theorem dX12_step_132 : decode cX12_step 132 = .ok (.bipush 57, 2) := by decide +kernel
theorem dX12_step_134 : decode cX12_step 134 = .ok (.invokestatic 69, 3) := by decide +kernel
theorem dX12_step_137 : decode cX12_step 137 = .ok (.ifCond .eq 51, 3) := by decide +kernel
theorem dX12_step_140 : decode cX12_step 140 = .ok (.aload_n 0, 1) := by decide +kernel
theorem dX12_step_141 : decode cX12_step 141 = .ok (.aload_n 0, 1) := by decide +kernel
theorem dX12_step_142 : decode cX12_step 142 = .ok (.getfield 87, 3) := by decide +kernel
theorem dX12_step_145 : decode cX12_step 145 = .ok (.bipush 99, 2) := by decide +kernel
theorem dX12_step_147 : decode cX12_step 147 = .ok (.if_icmp .le 10, 3) := by decide +kernel
theorem dX12_step_150 : decode cX12_step 150 = .ok (.aload_n 0, 1) := by decide +kernel
theorem dX12_step_151 : decode cX12_step 151 = .ok (.getfield 87, 3) := by decide +kernel
theorem dX12_step_154 : decode cX12_step 154 = .ok (.goto 18, 3) := by decide +kernel
theorem dX12_step_157 : decode cX12_step 157 = .ok (.bipush 10, 2) := by decide +kernel
theorem dX12_step_159 : decode cX12_step 159 = .ok (.aload_n 0, 1) := by decide +kernel
theorem dX12_step_160 : decode cX12_step 160 = .ok (.getfield 87, 3) := by decide +kernel
theorem dX12_step_163 : decode cX12_step 163 = .ok (.imul, 1) := by decide +kernel
theorem dX12_step_164 : decode cX12_step 164 = .ok (.aload_n 0, 1) := by decide +kernel
theorem dX12_step_165 : decode cX12_step 165 = .ok (.invokevirtual 80, 3) := by decide +kernel
theorem dX12_step_168 : decode cX12_step 168 = .ok (.iadd, 1) := by decide +kernel
theorem dX12_step_169 : decode cX12_step 169 = .ok (.bipush 48, 2) := by decide +kernel
theorem dX12_step_171 : decode cX12_step 171 = .ok (.isub, 1) := by decide +kernel
theorem dX12_step_172 : decode cX12_step 172 = .ok (.putfield 87, 3) := by decide +kernel
theorem dX12_step_175 : decode cX12_step 175 = .ok (.aload_n 0, 1) := by decide +kernel
theorem dX12_step_176 : decode cX12_step 176 = .ok (.dup, 1) := by decide +kernel
theorem dX12_step_177 : decode cX12_step 177 = .ok (.getfield 77, 3) := by decide +kernel
theorem dX12_step_180 : decode cX12_step 180 = .ok (.iconst 1, 1) := by decide +kernel
theorem dX12_step_181 : decode cX12_step 181 = .ok (.iadd, 1) := by decide +kernel
theorem dX12_step_182 : decode cX12_step 182 = .ok (.putfield 77, 3) := by decide +kernel
theorem dX12_step_185 : decode cX12_step 185 = .ok (.goto (-59), 3) := by decide +kernel
theorem dX12_step_188 : decode cX12_step 188 = .ok (.aload_n 0, 1) := by decide +kernel
theorem dX12_step_189 : decode cX12_step 189 = .ok (.aload_n 0, 1) := by decide +kernel
theorem dX12_step_190 : decode cX12_step 190 = .ok (.getfield 87, 3) := by decide +kernel
theorem dX12_step_193 : decode cX12_step 193 = .ok (.bipush 99, 2) := by decide +kernel
theorem dX12_step_195 : decode cX12_step 195 = .ok (.if_icmp .gt 22, 3) := by decide +kernel
theorem dX12_step_198 : decode cX12_step 198 = .ok (.iload_n 1, 1) := by decide +kernel
theorem dX12_step_199 : decode cX12_step 199 = .ok (.bipush 48, 2) := by decide +kernel
theorem dX12_step_201 : decode cX12_step 201 = .ok (.if_icmp .ne 20, 3) := by decide +kernel
theorem dX12_step_204 : decode cX12_step 204 = .ok (.aload_n 0, 1) := by decide +kernel
theorem dX12_step_205 : decode cX12_step 205 = .ok (.getfield 77, 3) := by decide +kernel
theorem dX12_step_208 : decode cX12_step 208 = .ok (.aload_n 0, 1) := by decide +kernel
theorem dX12_step_209 : decode cX12_step 209 = .ok (.getfield 84, 3) := by decide +kernel
theorem dX12_step_212 : decode cX12_step 212 = .ok (.isub, 1) := by decide +kernel
theorem dX12_step_213 : decode cX12_step 213 = .ok (.iconst 1, 1) := by decide +kernel
theorem dX12_step_214 : decode cX12_step 214 = .ok (.if_icmp .le 7, 3) := by decide +kernel
theorem dX12_step_217 : decode cX12_step 217 = .ok (.iconst 4, 1) := by decide +kernel
theorem dX12_step_218 : decode cX12_step 218 = .ok (.goto 4, 3) := by decide +kernel
theorem dX12_step_221 : decode cX12_step 221 = .ok (.iconst 1, 1) := by decide +kernel
theorem dX12_step_222 : decode cX12_step 222 = .ok (.putfield 90, 3) := by decide +kernel
theorem dX12_step_225 : decode cX12_step 225 = .ok (.goto 28, 3) := by decide +kernel
theorem dX12_step_228 : decode cX12_step 228 = .ok (.aload_n 0, 1) := by decide +kernel
theorem dX12_step_229 : decode cX12_step 229 = .ok (.dup, 1) := by decide +kernel
theorem dX12_step_230 : decode cX12_step 230 = .ok (.getfield 77, 3) := by decide +kernel
theorem dX12_step_233 : decode cX12_step 233 = .ok (.iconst 1, 1) := by decide +kernel
theorem dX12_step_234 : decode cX12_step 234 = .ok (.iadd, 1) := by decide +kernel
theorem dX12_step_235 : decode cX12_step 235 = .ok (.putfield 77, 3) := by decide +kernel
theorem dX12_step_238 : decode cX12_step 238 = .ok (.aload_n 0, 1) := by decide +kernel
theorem dX12_step_239 : decode cX12_step 239 = .ok (.iload_n 1, 1) := by decide +kernel
theorem dX12_step_240 : decode cX12_step 240 = .ok (.bipush 59, 2) := by decide +kernel
theorem dX12_step_242 : decode cX12_step 242 = .ok (.if_icmp .ne 7, 3) := by decide +kernel
theorem dX12_step_245 : decode cX12_step 245 = .ok (.iconst 2, 1) := by decide +kernel
theorem dX12_step_246 : decode cX12_step 246 = .ok (.goto 4, 3) := by decide +kernel
theorem dX12_step_249 : decode cX12_step 249 = .ok (.iconst 4, 1) := by decide +kernel
theorem dX12_step_250 : decode cX12_step 250 = .ok (.putfield 90, 3) := by decide +kernel
theorem dX12_step_253 : decode cX12_step 253 = .ok (.return_, 1) := by decide +kernel
theorem dX12_due_0 : decode cX12_due 0 = .ok (.aload_n 0, 1) := by decide +kernel
theorem dX12_due_1 : decode cX12_due 1 = .ok (.getfield 87, 3) := by decide +kernel
theorem dX12_due_4 : decode cX12_due 4 = .ok (.istore_n 2, 1) := by decide +kernel
theorem dX12_due_5 : decode cX12_due 5 = .ok (.aload_n 0, 1) := by decide +kernel
theorem dX12_due_6 : decode cX12_due 6 = .ok (.getfield 93, 3) := by decide +kernel
theorem dX12_due_9 : decode cX12_due 9 = .ok (.bipush (-9), 2) := by decide +kernel
theorem dX12_due_11 : decode cX12_due 11 = .ok (.if_icmp .ne 22, 3) := by decide +kernel
theorem dX12_due_14 : decode cX12_due 14 = .ok (.iload_n 1, 1) := by decide +kernel
theorem dX12_due_15 : decode cX12_due 15 = .ok (.ifCond .eq 10, 3) := by decide +kernel
theorem dX12_due_18 : decode cX12_due 18 = .ok (.aload_n 0, 1) := by decide +kernel
theorem dX12_due_19 : decode cX12_due 19 = .ok (.invokevirtual 96, 3) := by decide +kernel
theorem dX12_due_22 : decode cX12_due 22 = .ok (.goto 11, 3) := by decide +kernel
theorem dX12_due_25 : decode cX12_due 25 = .ok (.aload_n 0, 1) := by decide +kernel
theorem dX12_due_26 : decode cX12_due 26 = .ok (.aload_n 0, 1) := by decide +kernel
theorem dX12_due_27 : decode cX12_due 27 = .ok (.getfield 84, 3) := by decide +kernel
theorem dX12_due_30 : decode cX12_due 30 = .ok (.putfield 93, 3) := by decide +kernel
theorem dX12_due_33 : decode cX12_due 33 = .ok (.iload_n 2, 1) := by decide +kernel
theorem dX12_due_34 : decode cX12_due 34 = .ok (.ireturn, 1) := by decide +kernel
theorem dX12_number_0 : decode cX12_number 0 = .ok (.aload_n 0, 1) := by decide +kernel
theorem dX12_number_1 : decode cX12_number 1 = .ok (.aload_n 0, 1) := by decide +kernel
theorem dX12_number_2 : decode cX12_number 2 = .ok (.getfield 90, 3) := by decide +kernel
theorem dX12_number_5 : decode cX12_number 5 = .ok (.iconst 1, 1) := by decide +kernel
theorem dX12_number_6 : decode cX12_number 6 = .ok (.if_icmp .ne 19, 3) := by decide +kernel
theorem dX12_number_9 : decode cX12_number 9 = .ok (.aload_n 0, 1) := by decide +kernel
theorem dX12_number_10 : decode cX12_number 10 = .ok (.getfield 87, 3) := by decide +kernel
theorem dX12_number_13 : decode cX12_number 13 = .ok (.iload_n 1, 1) := by decide +kernel
theorem dX12_number_14 : decode cX12_number 14 = .ok (.iload_n 2, 1) := by decide +kernel
theorem dX12_number_15 : decode cX12_number 15 = .ok (.invokestatic 69, 3) := by decide +kernel
theorem dX12_number_18 : decode cX12_number 18 = .ok (.ifCond .eq 7, 3) := by decide +kernel
theorem dX12_number_21 : decode cX12_number 21 = .ok (.iconst 1, 1) := by decide +kernel
theorem dX12_number_22 : decode cX12_number 22 = .ok (.goto 4, 3) := by decide +kernel
theorem dX12_number_25 : decode cX12_number 25 = .ok (.iconst 0, 1) := by decide +kernel
theorem dX12_number_26 : decode cX12_number 26 = .ok (.invokevirtual 99, 3) := by decide +kernel
theorem dX12_number_29 : decode cX12_number 29 = .ok (.ireturn, 1) := by decide +kernel
theorem dX12_mayBe_0 : decode cX12_mayBe 0 = .ok (.iload_n 1, 1) := by decide +kernel
theorem dX12_mayBe_1 : decode cX12_mayBe 1 = .ok (.lookupswitch 96 #[(99, 70), (101, 68), (109, 51), (114, 68), (115, 83)], 51) := by decide +kernel
theorem dX12_mayBe_52 : decode cX12_mayBe 52 = .ok (.aload_n 0, 1) := by decide +kernel
theorem dX12_mayBe_53 : decode cX12_mayBe 53 = .ok (.getfield 13, 3) := by decide +kernel
theorem dX12_mayBe_56 : decode cX12_mayBe 56 = .ok (.iconst 1, 1) := by decide +kernel
theorem dX12_mayBe_57 : decode cX12_mayBe 57 = .ok (.iaload, 1) := by decide +kernel
theorem dX12_mayBe_58 : decode cX12_mayBe 58 = .ok (.bipush 6, 2) := by decide +kernel
theorem dX12_mayBe_60 : decode cX12_mayBe 60 = .ok (.if_icmp .ge 7, 3) := by decide +kernel
theorem dX12_mayBe_63 : decode cX12_mayBe 63 = .ok (.iconst 1, 1) := by decide +kernel
theorem dX12_mayBe_64 : decode cX12_mayBe 64 = .ok (.goto 4, 3) := by decide +kernel
theorem dX12_mayBe_67 : decode cX12_mayBe 67 = .ok (.iconst 0, 1) := by decide +kernel
theorem dX12_mayBe_68 : decode cX12_mayBe 68 = .ok (.ireturn, 1) := by decide +kernel
theorem dX12_mayBe_69 : decode cX12_mayBe 69 = .ok (.iconst 1, 1) := by decide +kernel
theorem dX12_mayBe_70 : decode cX12_mayBe 70 = .ok (.ireturn, 1) := by decide +kernel
theorem dX12_mayBe_71 : decode cX12_mayBe 71 = .ok (.aload_n 0, 1) := by decide +kernel
theorem dX12_mayBe_72 : decode cX12_mayBe 72 = .ok (.getfield 103, 3) := by decide +kernel
theorem dX12_mayBe_75 : decode cX12_mayBe 75 = .ok (.ifCond .ne 7, 3) := by decide +kernel
theorem dX12_mayBe_78 : decode cX12_mayBe 78 = .ok (.iconst 1, 1) := by decide +kernel
theorem dX12_mayBe_79 : decode cX12_mayBe 79 = .ok (.goto 4, 3) := by decide +kernel
theorem dX12_mayBe_82 : decode cX12_mayBe 82 = .ok (.iconst 0, 1) := by decide +kernel
theorem dX12_mayBe_83 : decode cX12_mayBe 83 = .ok (.ireturn, 1) := by decide +kernel
theorem dX12_mayBe_84 : decode cX12_mayBe 84 = .ok (.aload_n 0, 1) := by decide +kernel
theorem dX12_mayBe_85 : decode cX12_mayBe 85 = .ok (.getfield 107, 3) := by decide +kernel
theorem dX12_mayBe_88 : decode cX12_mayBe 88 = .ok (.ifCond .ne 7, 3) := by decide +kernel
theorem dX12_mayBe_91 : decode cX12_mayBe 91 = .ok (.iconst 1, 1) := by decide +kernel
theorem dX12_mayBe_92 : decode cX12_mayBe 92 = .ok (.goto 4, 3) := by decide +kernel
theorem dX12_mayBe_95 : decode cX12_mayBe 95 = .ok (.iconst 0, 1) := by decide +kernel
theorem dX12_mayBe_96 : decode cX12_mayBe 96 = .ok (.ireturn, 1) := by decide +kernel
theorem dX12_mayBe_97 : decode cX12_mayBe 97 = .ok (.iconst 0, 1) := by decide +kernel
theorem dX12_mayBe_98 : decode cX12_mayBe 98 = .ok (.ireturn, 1) := by decide +kernel
theorem dX12_readNear_0 : decode cX12_readNear 0 = .ok (.aload_n 0, 1) := by decide +kernel
theorem dX12_readNear_1 : decode cX12_readNear 1 = .ok (.iconst 0, 1) := by decide +kernel
theorem dX12_readNear_2 : decode cX12_readNear 2 = .ok (.aload_n 0, 1) := by decide +kernel
theorem dX12_readNear_3 : decode cX12_readNear 3 = .ok (.getfield 13, 3) := by decide +kernel
theorem dX12_readNear_6 : decode cX12_readNear 6 = .ok (.iconst 1, 1) := by decide +kernel
theorem dX12_readNear_7 : decode cX12_readNear 7 = .ok (.iaload, 1) := by decide +kernel
theorem dX12_readNear_8 : decode cX12_readNear 8 = .ok (.iconst 1, 1) := by decide +kernel
theorem dX12_readNear_9 : decode cX12_readNear 9 = .ok (.isub, 1) := by decide +kernel
theorem dX12_readNear_10 : decode cX12_readNear 10 = .ok (.invokevirtual 110, 3) := by decide +kernel
theorem dX12_readNear_13 : decode cX12_readNear 13 = .ok (.istore_n 2, 1) := by decide +kernel
theorem dX12_readNear_14 : decode cX12_readNear 14 = .ok (.aload_n 0, 1) := by decide +kernel
theorem dX12_readNear_15 : decode cX12_readNear 15 = .ok (.aload_n 0, 1) := by decide +kernel
theorem dX12_readNear_16 : decode cX12_readNear 16 = .ok (.getfield 90, 3) := by decide +kernel
theorem dX12_readNear_19 : decode cX12_readNear 19 = .ok (.iconst 1, 1) := by decide +kernel
theorem dX12_readNear_20 : decode cX12_readNear 20 = .ok (.if_icmp .ne 28, 3) := by decide +kernel
theorem dX12_readNear_23 : decode cX12_readNear 23 = .ok (.aload_n 0, 1) := by decide +kernel
theorem dX12_readNear_24 : decode cX12_readNear 24 = .ok (.getfield 87, 3) := by decide +kernel
theorem dX12_readNear_27 : decode cX12_readNear 27 = .ok (.aload_n 0, 1) := by decide +kernel
theorem dX12_readNear_28 : decode cX12_readNear 28 = .ok (.getfield 13, 3) := by decide +kernel
theorem dX12_readNear_31 : decode cX12_readNear 31 = .ok (.iconst 1, 1) := by decide +kernel
theorem dX12_readNear_32 : decode cX12_readNear 32 = .ok (.iaload, 1) := by decide +kernel
theorem dX12_readNear_33 : decode cX12_readNear 33 = .ok (.if_icmp .ge 15, 3) := by decide +kernel
theorem dX12_readNear_36 : decode cX12_readNear 36 = .ok (.aload_n 0, 1) := by decide +kernel
theorem dX12_readNear_37 : decode cX12_readNear 37 = .ok (.getfield 87, 3) := by decide +kernel
theorem dX12_readNear_40 : decode cX12_readNear 40 = .ok (.iload_n 2, 1) := by decide +kernel
theorem dX12_readNear_41 : decode cX12_readNear 41 = .ok (.if_icmp .eq 7, 3) := by decide +kernel
theorem dX12_readNear_44 : decode cX12_readNear 44 = .ok (.iconst 1, 1) := by decide +kernel
theorem dX12_readNear_45 : decode cX12_readNear 45 = .ok (.goto 4, 3) := by decide +kernel
theorem dX12_readNear_48 : decode cX12_readNear 48 = .ok (.iconst 0, 1) := by decide +kernel
theorem dX12_readNear_49 : decode cX12_readNear 49 = .ok (.invokevirtual 99, 3) := by decide +kernel
theorem dX12_readNear_52 : decode cX12_readNear 52 = .ok (.istore_n 3, 1) := by decide +kernel
theorem dX12_readNear_53 : decode cX12_readNear 53 = .ok (.aload_n 0, 1) := by decide +kernel
theorem dX12_readNear_54 : decode cX12_readNear 54 = .ok (.iconst 0, 1) := by decide +kernel
theorem dX12_readNear_55 : decode cX12_readNear 55 = .ok (.bipush 9, 2) := by decide +kernel
theorem dX12_readNear_57 : decode cX12_readNear 57 = .ok (.invokevirtual 110, 3) := by decide +kernel
theorem dX12_readNear_60 : decode cX12_readNear 60 = .ok (.istore 4, 2) := by decide +kernel
theorem dX12_readNear_62 : decode cX12_readNear 62 = .ok (.aload_n 0, 1) := by decide +kernel
theorem dX12_readNear_63 : decode cX12_readNear 63 = .ok (.getfield 93, 3) := by decide +kernel
theorem dX12_readNear_66 : decode cX12_readNear 66 = .ok (.bipush (-9), 2) := by decide +kernel
theorem dX12_readNear_68 : decode cX12_readNear 68 = .ok (.if_icmp .ne 55, 3) := by decide +kernel
theorem dX12_readNear_71 : decode cX12_readNear 71 = .ok (.aload_n 0, 1) := by decide +kernel
theorem dX12_readNear_72 : decode cX12_readNear 72 = .ok (.getfield 23, 3) := by decide +kernel
theorem dX12_readNear_75 : decode cX12_readNear 75 = .ok (.bipush 36, 2) := by decide +kernel
theorem dX12_readNear_77 : decode cX12_readNear 77 = .ok (.bipush 6, 2) := by decide +kernel
theorem dX12_readNear_79 : decode cX12_readNear 79 = .ok (.iload_n 2, 1) := by decide +kernel
theorem dX12_readNear_80 : decode cX12_readNear 80 = .ok (.imul, 1) := by decide +kernel
theorem dX12_readNear_81 : decode cX12_readNear 81 = .ok (.iadd, 1) := by decide +kernel
theorem dX12_readNear_82 : decode cX12_readNear 82 = .ok (.iload_n 3, 1) := by decide +kernel
theorem dX12_readNear_83 : decode cX12_readNear 83 = .ok (.iadd, 1) := by decide +kernel
theorem dX12_readNear_84 : decode cX12_readNear 84 = .ok (.iload_n 1, 1) := by decide +kernel
theorem dX12_readNear_85 : decode cX12_readNear 85 = .ok (.ifCond .eq 9, 3) := by decide +kernel
theorem dX12_readNear_88 : decode cX12_readNear 88 = .ok (.iload 4, 2) := by decide +kernel
theorem dX12_readNear_90 : decode cX12_readNear 90 = .ok (.ineg, 1) := by decide +kernel
theorem dX12_readNear_91 : decode cX12_readNear 91 = .ok (.goto 5, 3) := by decide +kernel
theorem dX12_readNear_94 : decode cX12_readNear 94 = .ok (.iload 4, 2) := by decide +kernel
theorem dX12_readNear_96 : decode cX12_readNear 96 = .ok (.iastore, 1) := by decide +kernel
theorem dX12_readNear_97 : decode cX12_readNear 97 = .ok (.aload_n 0, 1) := by decide +kernel
theorem dX12_readNear_98 : decode cX12_readNear 98 = .ok (.getfield 23, 3) := by decide +kernel
theorem dX12_readNear_101 : decode cX12_readNear 101 = .ok (.bipush 36, 2) := by decide +kernel
theorem dX12_readNear_103 : decode cX12_readNear 103 = .ok (.bipush 6, 2) := by decide +kernel
theorem dX12_readNear_105 : decode cX12_readNear 105 = .ok (.iload_n 3, 1) := by decide +kernel
theorem dX12_readNear_106 : decode cX12_readNear 106 = .ok (.imul, 1) := by decide +kernel
theorem dX12_readNear_107 : decode cX12_readNear 107 = .ok (.iadd, 1) := by decide +kernel
theorem dX12_readNear_108 : decode cX12_readNear 108 = .ok (.iload_n 2, 1) := by decide +kernel
theorem dX12_readNear_109 : decode cX12_readNear 109 = .ok (.iadd, 1) := by decide +kernel
theorem dX12_readNear_110 : decode cX12_readNear 110 = .ok (.iload_n 1, 1) := by decide +kernel
theorem dX12_readNear_111 : decode cX12_readNear 111 = .ok (.ifCond .eq 9, 3) := by decide +kernel
theorem dX12_readNear_114 : decode cX12_readNear 114 = .ok (.iload 4, 2) := by decide +kernel
theorem dX12_readNear_116 : decode cX12_readNear 116 = .ok (.ineg, 1) := by decide +kernel
theorem dX12_readNear_117 : decode cX12_readNear 117 = .ok (.goto 5, 3) := by decide +kernel
theorem dX12_readNear_120 : decode cX12_readNear 120 = .ok (.iload 4, 2) := by decide +kernel
theorem dX12_readNear_122 : decode cX12_readNear 122 = .ok (.iastore, 1) := by decide +kernel
theorem dX12_readNear_123 : decode cX12_readNear 123 = .ok (.return_, 1) := by decide +kernel
theorem dX12_readRow_0 : decode cX12_readRow 0 = .ok (.iload_n 1, 1) := by decide +kernel
theorem dX12_readRow_1 : decode cX12_readRow 1 = .ok (.lookupswitch 134 #[(99, 113), (101, 95), (109, 43), (114, 95)], 43) := by decide +kernel
theorem dX12_readRow_44 : decode cX12_readRow 44 = .ok (.aload_n 0, 1) := by decide +kernel
theorem dX12_readRow_45 : decode cX12_readRow 45 = .ok (.getfield 20, 3) := by decide +kernel
theorem dX12_readRow_48 : decode cX12_readRow 48 = .ok (.aload_n 0, 1) := by decide +kernel
theorem dX12_readRow_49 : decode cX12_readRow 49 = .ok (.getfield 13, 3) := by decide +kernel
theorem dX12_readRow_52 : decode cX12_readRow 52 = .ok (.iconst 1, 1) := by decide +kernel
theorem dX12_readRow_53 : decode cX12_readRow 53 = .ok (.iaload, 1) := by decide +kernel
theorem dX12_readRow_54 : decode cX12_readRow 54 = .ok (.aload_n 0, 1) := by decide +kernel
theorem dX12_readRow_55 : decode cX12_readRow 55 = .ok (.iconst 0, 1) := by decide +kernel
theorem dX12_readRow_56 : decode cX12_readRow 56 = .ok (.bipush 99, 2) := by decide +kernel
theorem dX12_readRow_58 : decode cX12_readRow 58 = .ok (.invokevirtual 110, 3) := by decide +kernel
theorem dX12_readRow_61 : decode cX12_readRow 61 = .ok (.iastore, 1) := by decide +kernel
theorem dX12_readRow_62 : decode cX12_readRow 62 = .ok (.aload_n 0, 1) := by decide +kernel
theorem dX12_readRow_63 : decode cX12_readRow 63 = .ok (.getfield 17, 3) := by decide +kernel
theorem dX12_readRow_66 : decode cX12_readRow 66 = .ok (.bipush 6, 2) := by decide +kernel
theorem dX12_readRow_68 : decode cX12_readRow 68 = .ok (.aload_n 0, 1) := by decide +kernel
theorem dX12_readRow_69 : decode cX12_readRow 69 = .ok (.getfield 13, 3) := by decide +kernel
theorem dX12_readRow_72 : decode cX12_readRow 72 = .ok (.iconst 1, 1) := by decide +kernel
theorem dX12_readRow_73 : decode cX12_readRow 73 = .ok (.iaload, 1) := by decide +kernel
theorem dX12_readRow_74 : decode cX12_readRow 74 = .ok (.iadd, 1) := by decide +kernel
theorem dX12_readRow_75 : decode cX12_readRow 75 = .ok (.aload_n 0, 1) := by decide +kernel
theorem dX12_readRow_76 : decode cX12_readRow 76 = .ok (.iconst 0, 1) := by decide +kernel
theorem dX12_readRow_77 : decode cX12_readRow 77 = .ok (.bipush 9, 2) := by decide +kernel
theorem dX12_readRow_79 : decode cX12_readRow 79 = .ok (.invokevirtual 110, 3) := by decide +kernel
theorem dX12_readRow_82 : decode cX12_readRow 82 = .ok (.iastore, 1) := by decide +kernel
theorem dX12_readRow_83 : decode cX12_readRow 83 = .ok (.aload_n 0, 1) := by decide +kernel
theorem dX12_readRow_84 : decode cX12_readRow 84 = .ok (.getfield 13, 3) := by decide +kernel
theorem dX12_readRow_87 : decode cX12_readRow 87 = .ok (.iconst 1, 1) := by decide +kernel
theorem dX12_readRow_88 : decode cX12_readRow 88 = .ok (.dup2, 1) := by decide +kernel
theorem dX12_readRow_89 : decode cX12_readRow 89 = .ok (.iaload, 1) := by decide +kernel
theorem dX12_readRow_90 : decode cX12_readRow 90 = .ok (.iconst 1, 1) := by decide +kernel
theorem dX12_readRow_91 : decode cX12_readRow 91 = .ok (.iadd, 1) := by decide +kernel
theorem dX12_readRow_92 : decode cX12_readRow 92 = .ok (.iastore, 1) := by decide +kernel
theorem dX12_readRow_93 : decode cX12_readRow 93 = .ok (.goto 60, 3) := by decide +kernel
theorem dX12_readRow_96 : decode cX12_readRow 96 = .ok (.aload_n 0, 1) := by decide +kernel
theorem dX12_readRow_97 : decode cX12_readRow 97 = .ok (.iload_n 1, 1) := by decide +kernel
theorem dX12_readRow_98 : decode cX12_readRow 98 = .ok (.bipush 101, 2) := by decide +kernel
theorem dX12_readRow_100 : decode cX12_readRow 100 = .ok (.if_icmp .ne 7, 3) := by decide +kernel
theorem dX12_readRow_103 : decode cX12_readRow 103 = .ok (.iconst 1, 1) := by decide +kernel
theorem dX12_readRow_104 : decode cX12_readRow 104 = .ok (.goto 4, 3) := by decide +kernel
theorem dX12_readRow_107 : decode cX12_readRow 107 = .ok (.iconst 0, 1) := by decide +kernel
theorem dX12_readRow_108 : decode cX12_readRow 108 = .ok (.invokevirtual 114, 3) := by decide +kernel
theorem dX12_readRow_111 : decode cX12_readRow 111 = .ok (.goto 42, 3) := by decide +kernel
theorem dX12_readRow_114 : decode cX12_readRow 114 = .ok (.aload_n 0, 1) := by decide +kernel
theorem dX12_readRow_115 : decode cX12_readRow 115 = .ok (.getfield 26, 3) := by decide +kernel
theorem dX12_readRow_118 : decode cX12_readRow 118 = .ok (.iconst 1, 1) := by decide +kernel
theorem dX12_readRow_119 : decode cX12_readRow 119 = .ok (.aload_n 0, 1) := by decide +kernel
theorem dX12_readRow_120 : decode cX12_readRow 120 = .ok (.iconst 1, 1) := by decide +kernel
theorem dX12_readRow_121 : decode cX12_readRow 121 = .ok (.bipush 6, 2) := by decide +kernel
theorem dX12_readRow_123 : decode cX12_readRow 123 = .ok (.invokevirtual 110, 3) := by decide +kernel
theorem dX12_readRow_126 : decode cX12_readRow 126 = .ok (.iastore, 1) := by decide +kernel
theorem dX12_readRow_127 : decode cX12_readRow 127 = .ok (.aload_n 0, 1) := by decide +kernel
theorem dX12_readRow_128 : decode cX12_readRow 128 = .ok (.iconst 1, 1) := by decide +kernel
theorem dX12_readRow_129 : decode cX12_readRow 129 = .ok (.putfield 103, 3) := by decide +kernel
theorem dX12_readRow_132 : decode cX12_readRow 132 = .ok (.goto 21, 3) := by decide +kernel
theorem dX12_readRow_135 : decode cX12_readRow 135 = .ok (.aload_n 0, 1) := by decide +kernel
theorem dX12_readRow_136 : decode cX12_readRow 136 = .ok (.getfield 29, 3) := by decide +kernel
theorem dX12_readRow_139 : decode cX12_readRow 139 = .ok (.iconst 1, 1) := by decide +kernel
theorem dX12_readRow_140 : decode cX12_readRow 140 = .ok (.aload_n 0, 1) := by decide +kernel
theorem dX12_readRow_141 : decode cX12_readRow 141 = .ok (.iconst 0, 1) := by decide +kernel
theorem dX12_readRow_142 : decode cX12_readRow 142 = .ok (.bipush 50, 2) := by decide +kernel
theorem dX12_readRow_144 : decode cX12_readRow 144 = .ok (.invokevirtual 110, 3) := by decide +kernel
theorem dX12_readRow_147 : decode cX12_readRow 147 = .ok (.iastore, 1) := by decide +kernel
theorem dX12_readRow_148 : decode cX12_readRow 148 = .ok (.aload_n 0, 1) := by decide +kernel
theorem dX12_readRow_149 : decode cX12_readRow 149 = .ok (.iconst 1, 1) := by decide +kernel
theorem dX12_readRow_150 : decode cX12_readRow 150 = .ok (.putfield 107, 3) := by decide +kernel
theorem dX12_readRow_153 : decode cX12_readRow 153 = .ok (.return_, 1) := by decide +kernel
theorem dX12_plain_0 : decode cX12_plain 0 = .ok (.aload_n 0, 1) := by decide +kernel
theorem dX12_plain_1 : decode cX12_plain 1 = .ok (.getfield 13, 3) := by decide +kernel
theorem dX12_plain_4 : decode cX12_plain 4 = .ok (.iconst 1, 1) := by decide +kernel
theorem dX12_plain_5 : decode cX12_plain 5 = .ok (.iconst 0, 1) := by decide +kernel
theorem dX12_plain_6 : decode cX12_plain 6 = .ok (.iastore, 1) := by decide +kernel
theorem dX12_plain_7 : decode cX12_plain 7 = .ok (.aload_n 0, 1) := by decide +kernel
theorem dX12_plain_8 : decode cX12_plain 8 = .ok (.getfield 26, 3) := by decide +kernel
theorem dX12_plain_11 : decode cX12_plain 11 = .ok (.iconst 1, 1) := by decide +kernel
theorem dX12_plain_12 : decode cX12_plain 12 = .ok (.iconst 3, 1) := by decide +kernel
theorem dX12_plain_13 : decode cX12_plain 13 = .ok (.iastore, 1) := by decide +kernel
theorem dX12_plain_14 : decode cX12_plain 14 = .ok (.aload_n 0, 1) := by decide +kernel
theorem dX12_plain_15 : decode cX12_plain 15 = .ok (.getfield 29, 3) := by decide +kernel
theorem dX12_plain_18 : decode cX12_plain 18 = .ok (.iconst 1, 1) := by decide +kernel
theorem dX12_plain_19 : decode cX12_plain 19 = .ok (.iconst 5, 1) := by decide +kernel
theorem dX12_plain_20 : decode cX12_plain 20 = .ok (.iastore, 1) := by decide +kernel
theorem dX12_plain_21 : decode cX12_plain 21 = .ok (.aload_n 0, 1) := by decide +kernel
theorem dX12_plain_22 : decode cX12_plain 22 = .ok (.iconst 0, 1) := by decide +kernel
theorem dX12_plain_23 : decode cX12_plain 23 = .ok (.putfield 103, 3) := by decide +kernel
theorem dX12_plain_26 : decode cX12_plain 26 = .ok (.aload_n 0, 1) := by decide +kernel
theorem dX12_plain_27 : decode cX12_plain 27 = .ok (.iconst 0, 1) := by decide +kernel
theorem dX12_plain_28 : decode cX12_plain 28 = .ok (.putfield 107, 3) := by decide +kernel
theorem dX12_plain_31 : decode cX12_plain 31 = .ok (.iconst 0, 1) := by decide +kernel
theorem dX12_plain_32 : decode cX12_plain 32 = .ok (.istore_n 1, 1) := by decide +kernel
theorem dX12_plain_33 : decode cX12_plain 33 = .ok (.iload_n 1, 1) := by decide +kernel
theorem dX12_plain_34 : decode cX12_plain 34 = .ok (.bipush 36, 2) := by decide +kernel
theorem dX12_plain_36 : decode cX12_plain 36 = .ok (.if_icmp .ge 19, 3) := by decide +kernel
theorem dX12_plain_39 : decode cX12_plain 39 = .ok (.aload_n 0, 1) := by decide +kernel
theorem dX12_plain_40 : decode cX12_plain 40 = .ok (.getfield 23, 3) := by decide +kernel
theorem dX12_plain_43 : decode cX12_plain 43 = .ok (.bipush 36, 2) := by decide +kernel
theorem dX12_plain_45 : decode cX12_plain 45 = .ok (.iload_n 1, 1) := by decide +kernel
theorem dX12_plain_46 : decode cX12_plain 46 = .ok (.iadd, 1) := by decide +kernel
theorem dX12_plain_47 : decode cX12_plain 47 = .ok (.iconst 0, 1) := by decide +kernel
theorem dX12_plain_48 : decode cX12_plain 48 = .ok (.iastore, 1) := by decide +kernel
theorem dX12_plain_49 : decode cX12_plain 49 = .ok (.iinc 1 1, 3) := by decide +kernel
theorem dX12_plain_52 : decode cX12_plain 52 = .ok (.goto (-19), 3) := by decide +kernel
theorem dX12_plain_55 : decode cX12_plain 55 = .ok (.return_, 1) := by decide +kernel
theorem dX12_takeDraft_0 : decode cX12_takeDraft 0 = .ok (.aload_n 0, 1) := by decide +kernel
theorem dX12_takeDraft_1 : decode cX12_takeDraft 1 = .ok (.getfield 13, 3) := by decide +kernel
theorem dX12_takeDraft_4 : decode cX12_takeDraft 4 = .ok (.iconst 0, 1) := by decide +kernel
theorem dX12_takeDraft_5 : decode cX12_takeDraft 5 = .ok (.aload_n 0, 1) := by decide +kernel
theorem dX12_takeDraft_6 : decode cX12_takeDraft 6 = .ok (.getfield 13, 3) := by decide +kernel
theorem dX12_takeDraft_9 : decode cX12_takeDraft 9 = .ok (.iconst 1, 1) := by decide +kernel
theorem dX12_takeDraft_10 : decode cX12_takeDraft 10 = .ok (.iaload, 1) := by decide +kernel
theorem dX12_takeDraft_11 : decode cX12_takeDraft 11 = .ok (.iastore, 1) := by decide +kernel
theorem dX12_takeDraft_12 : decode cX12_takeDraft 12 = .ok (.aload_n 0, 1) := by decide +kernel
theorem dX12_takeDraft_13 : decode cX12_takeDraft 13 = .ok (.getfield 26, 3) := by decide +kernel
theorem dX12_takeDraft_16 : decode cX12_takeDraft 16 = .ok (.iconst 0, 1) := by decide +kernel
theorem dX12_takeDraft_17 : decode cX12_takeDraft 17 = .ok (.aload_n 0, 1) := by decide +kernel
theorem dX12_takeDraft_18 : decode cX12_takeDraft 18 = .ok (.getfield 26, 3) := by decide +kernel
theorem dX12_takeDraft_21 : decode cX12_takeDraft 21 = .ok (.iconst 1, 1) := by decide +kernel
theorem dX12_takeDraft_22 : decode cX12_takeDraft 22 = .ok (.iaload, 1) := by decide +kernel
theorem dX12_takeDraft_23 : decode cX12_takeDraft 23 = .ok (.iastore, 1) := by decide +kernel
theorem dX12_takeDraft_24 : decode cX12_takeDraft 24 = .ok (.aload_n 0, 1) := by decide +kernel
theorem dX12_takeDraft_25 : decode cX12_takeDraft 25 = .ok (.getfield 29, 3) := by decide +kernel
theorem dX12_takeDraft_28 : decode cX12_takeDraft 28 = .ok (.iconst 0, 1) := by decide +kernel
theorem dX12_takeDraft_29 : decode cX12_takeDraft 29 = .ok (.aload_n 0, 1) := by decide +kernel
theorem dX12_takeDraft_30 : decode cX12_takeDraft 30 = .ok (.getfield 29, 3) := by decide +kernel
theorem dX12_takeDraft_33 : decode cX12_takeDraft 33 = .ok (.iconst 1, 1) := by decide +kernel
theorem dX12_takeDraft_34 : decode cX12_takeDraft 34 = .ok (.iaload, 1) := by decide +kernel
theorem dX12_takeDraft_35 : decode cX12_takeDraft 35 = .ok (.iastore, 1) := by decide +kernel
theorem dX12_takeDraft_36 : decode cX12_takeDraft 36 = .ok (.iconst 0, 1) := by decide +kernel
theorem dX12_takeDraft_37 : decode cX12_takeDraft 37 = .ok (.istore_n 1, 1) := by decide +kernel
theorem dX12_takeDraft_38 : decode cX12_takeDraft 38 = .ok (.iload_n 1, 1) := by decide +kernel
theorem dX12_takeDraft_39 : decode cX12_takeDraft 39 = .ok (.bipush 36, 2) := by decide +kernel
theorem dX12_takeDraft_41 : decode cX12_takeDraft 41 = .ok (.if_icmp .ge 24, 3) := by decide +kernel
theorem dX12_takeDraft_44 : decode cX12_takeDraft 44 = .ok (.aload_n 0, 1) := by decide +kernel
theorem dX12_takeDraft_45 : decode cX12_takeDraft 45 = .ok (.getfield 23, 3) := by decide +kernel
theorem dX12_takeDraft_48 : decode cX12_takeDraft 48 = .ok (.iload_n 1, 1) := by decide +kernel
theorem dX12_takeDraft_49 : decode cX12_takeDraft 49 = .ok (.aload_n 0, 1) := by decide +kernel
theorem dX12_takeDraft_50 : decode cX12_takeDraft 50 = .ok (.getfield 23, 3) := by decide +kernel
theorem dX12_takeDraft_53 : decode cX12_takeDraft 53 = .ok (.bipush 36, 2) := by decide +kernel
theorem dX12_takeDraft_55 : decode cX12_takeDraft 55 = .ok (.iload_n 1, 1) := by decide +kernel
theorem dX12_takeDraft_56 : decode cX12_takeDraft 56 = .ok (.iadd, 1) := by decide +kernel
theorem dX12_takeDraft_57 : decode cX12_takeDraft 57 = .ok (.iaload, 1) := by decide +kernel
theorem dX12_takeDraft_58 : decode cX12_takeDraft 58 = .ok (.iastore, 1) := by decide +kernel
theorem dX12_takeDraft_59 : decode cX12_takeDraft 59 = .ok (.iinc 1 1, 3) := by decide +kernel
theorem dX12_takeDraft_62 : decode cX12_takeDraft 62 = .ok (.goto (-24), 3) := by decide +kernel
theorem dX12_takeDraft_65 : decode cX12_takeDraft 65 = .ok (.iconst 0, 1) := by decide +kernel
theorem dX12_takeDraft_66 : decode cX12_takeDraft 66 = .ok (.istore_n 1, 1) := by decide +kernel
theorem dX12_takeDraft_67 : decode cX12_takeDraft 67 = .ok (.iload_n 1, 1) := by decide +kernel
theorem dX12_takeDraft_68 : decode cX12_takeDraft 68 = .ok (.bipush 14, 2) := by decide +kernel
theorem dX12_takeDraft_70 : decode cX12_takeDraft 70 = .ok (.if_icmp .ge 16, 3) := by decide +kernel
theorem dX12_takeDraft_73 : decode cX12_takeDraft 73 = .ok (.aload_n 0, 1) := by decide +kernel
theorem dX12_takeDraft_74 : decode cX12_takeDraft 74 = .ok (.getfield 32, 3) := by decide +kernel
theorem dX12_takeDraft_77 : decode cX12_takeDraft 77 = .ok (.iload_n 1, 1) := by decide +kernel
theorem dX12_takeDraft_78 : decode cX12_takeDraft 78 = .ok (.iconst 0, 1) := by decide +kernel
theorem dX12_takeDraft_79 : decode cX12_takeDraft 79 = .ok (.iastore, 1) := by decide +kernel
theorem dX12_takeDraft_80 : decode cX12_takeDraft 80 = .ok (.iinc 1 1, 3) := by decide +kernel
theorem dX12_takeDraft_83 : decode cX12_takeDraft 83 = .ok (.goto (-16), 3) := by decide +kernel
theorem dX12_takeDraft_86 : decode cX12_takeDraft 86 = .ok (.iconst 0, 1) := by decide +kernel
theorem dX12_takeDraft_87 : decode cX12_takeDraft 87 = .ok (.istore_n 1, 1) := by decide +kernel
theorem dX12_takeDraft_88 : decode cX12_takeDraft 88 = .ok (.iload_n 1, 1) := by decide +kernel
theorem dX12_takeDraft_89 : decode cX12_takeDraft 89 = .ok (.aload_n 0, 1) := by decide +kernel
theorem dX12_takeDraft_90 : decode cX12_takeDraft 90 = .ok (.getfield 13, 3) := by decide +kernel
theorem dX12_takeDraft_93 : decode cX12_takeDraft 93 = .ok (.iconst 0, 1) := by decide +kernel
theorem dX12_takeDraft_94 : decode cX12_takeDraft 94 = .ok (.iaload, 1) := by decide +kernel
theorem dX12_takeDraft_95 : decode cX12_takeDraft 95 = .ok (.if_icmp .ge 38, 3) := by decide +kernel
theorem dX12_takeDraft_98 : decode cX12_takeDraft 98 = .ok (.aload_n 0, 1) := by decide +kernel
theorem dX12_takeDraft_99 : decode cX12_takeDraft 99 = .ok (.getfield 17, 3) := by decide +kernel
theorem dX12_takeDraft_102 : decode cX12_takeDraft 102 = .ok (.iload_n 1, 1) := by decide +kernel
theorem dX12_takeDraft_103 : decode cX12_takeDraft 103 = .ok (.aload_n 0, 1) := by decide +kernel
theorem dX12_takeDraft_104 : decode cX12_takeDraft 104 = .ok (.getfield 17, 3) := by decide +kernel
theorem dX12_takeDraft_107 : decode cX12_takeDraft 107 = .ok (.bipush 6, 2) := by decide +kernel
theorem dX12_takeDraft_109 : decode cX12_takeDraft 109 = .ok (.iload_n 1, 1) := by decide +kernel
theorem dX12_takeDraft_110 : decode cX12_takeDraft 110 = .ok (.iadd, 1) := by decide +kernel
theorem dX12_takeDraft_111 : decode cX12_takeDraft 111 = .ok (.iaload, 1) := by decide +kernel
theorem dX12_takeDraft_112 : decode cX12_takeDraft 112 = .ok (.iastore, 1) := by decide +kernel
theorem dX12_takeDraft_113 : decode cX12_takeDraft 113 = .ok (.aload_n 0, 1) := by decide +kernel
theorem dX12_takeDraft_114 : decode cX12_takeDraft 114 = .ok (.getfield 32, 3) := by decide +kernel
theorem dX12_takeDraft_117 : decode cX12_takeDraft 117 = .ok (.iconst 0, 1) := by decide +kernel
theorem dX12_takeDraft_118 : decode cX12_takeDraft 118 = .ok (.iload_n 1, 1) := by decide +kernel
theorem dX12_takeDraft_119 : decode cX12_takeDraft 119 = .ok (.iadd, 1) := by decide +kernel
theorem dX12_takeDraft_120 : decode cX12_takeDraft 120 = .ok (.aload_n 0, 1) := by decide +kernel
theorem dX12_takeDraft_121 : decode cX12_takeDraft 121 = .ok (.getfield 20, 3) := by decide +kernel
theorem dX12_takeDraft_124 : decode cX12_takeDraft 124 = .ok (.iload_n 1, 1) := by decide +kernel
theorem dX12_takeDraft_125 : decode cX12_takeDraft 125 = .ok (.iaload, 1) := by decide +kernel
theorem dX12_takeDraft_126 : decode cX12_takeDraft 126 = .ok (.iastore, 1) := by decide +kernel
theorem dX12_takeDraft_127 : decode cX12_takeDraft 127 = .ok (.iinc 1 1, 3) := by decide +kernel
theorem dX12_takeDraft_130 : decode cX12_takeDraft 130 = .ok (.goto (-42), 3) := by decide +kernel
theorem dX12_takeDraft_133 : decode cX12_takeDraft 133 = .ok (.aload_n 0, 1) := by decide +kernel
theorem dX12_takeDraft_134 : decode cX12_takeDraft 134 = .ok (.getfield 32, 3) := by decide +kernel
theorem dX12_takeDraft_137 : decode cX12_takeDraft 137 = .ok (.bipush 14, 2) := by decide +kernel
theorem dX12_takeDraft_139 : decode cX12_takeDraft 139 = .ok (.iconst 0, 1) := by decide +kernel
theorem dX12_takeDraft_140 : decode cX12_takeDraft 140 = .ok (.iastore, 1) := by decide +kernel
theorem dX12_takeDraft_141 : decode cX12_takeDraft 141 = .ok (.aload_n 0, 1) := by decide +kernel
theorem dX12_takeDraft_142 : decode cX12_takeDraft 142 = .ok (.iconst 0, 1) := by decide +kernel
theorem dX12_takeDraft_143 : decode cX12_takeDraft 143 = .ok (.putfield 118, 3) := by decide +kernel
theorem dX12_takeDraft_146 : decode cX12_takeDraft 146 = .ok (.aload_n 0, 1) := by decide +kernel
theorem dX12_takeDraft_147 : decode cX12_takeDraft 147 = .ok (.iconst 0, 1) := by decide +kernel
theorem dX12_takeDraft_148 : decode cX12_takeDraft 148 = .ok (.putfield 121, 3) := by decide +kernel
theorem dX12_takeDraft_151 : decode cX12_takeDraft 151 = .ok (.aload_n 0, 1) := by decide +kernel
theorem dX12_takeDraft_152 : decode cX12_takeDraft 152 = .ok (.getfield 35, 3) := by decide +kernel
theorem dX12_takeDraft_155 : decode cX12_takeDraft 155 = .ok (.iconst 0, 1) := by decide +kernel
theorem dX12_takeDraft_156 : decode cX12_takeDraft 156 = .ok (.iconst 0, 1) := by decide +kernel
theorem dX12_takeDraft_157 : decode cX12_takeDraft 157 = .ok (.bastore, 1) := by decide +kernel
theorem dX12_takeDraft_158 : decode cX12_takeDraft 158 = .ok (.aload_n 0, 1) := by decide +kernel
theorem dX12_takeDraft_159 : decode cX12_takeDraft 159 = .ok (.getfield 35, 3) := by decide +kernel
theorem dX12_takeDraft_162 : decode cX12_takeDraft 162 = .ok (.iconst 1, 1) := by decide +kernel
theorem dX12_takeDraft_163 : decode cX12_takeDraft 163 = .ok (.iconst 0, 1) := by decide +kernel
theorem dX12_takeDraft_164 : decode cX12_takeDraft 164 = .ok (.bastore, 1) := by decide +kernel
theorem dX12_takeDraft_165 : decode cX12_takeDraft 165 = .ok (.return_, 1) := by decide +kernel
theorem dX12_pit_0 : decode cX12_pit 0 = .ok (.aload_n 0, 1) := by decide +kernel
theorem dX12_pit_1 : decode cX12_pit 1 = .ok (.iconst 0, 1) := by decide +kernel
theorem dX12_pit_2 : decode cX12_pit 2 = .ok (.putfield 77, 3) := by decide +kernel
theorem dX12_pit_5 : decode cX12_pit 5 = .ok (.aload_n 0, 1) := by decide +kernel
theorem dX12_pit_6 : decode cX12_pit 6 = .ok (.bipush (-9), 2) := by decide +kernel
theorem dX12_pit_8 : decode cX12_pit 8 = .ok (.putfield 93, 3) := by decide +kernel
theorem dX12_pit_11 : decode cX12_pit 11 = .ok (.aload_n 0, 1) := by decide +kernel
theorem dX12_pit_12 : decode cX12_pit 12 = .ok (.invokevirtual 63, 3) := by decide +kernel
theorem dX12_pit_15 : decode cX12_pit 15 = .ok (.iconst 0, 1) := by decide +kernel
theorem dX12_pit_16 : decode cX12_pit 16 = .ok (.istore_n 1, 1) := by decide +kernel
theorem dX12_pit_17 : decode cX12_pit 17 = .ok (.aload_n 0, 1) := by decide +kernel
theorem dX12_pit_18 : decode cX12_pit 18 = .ok (.invokevirtual 96, 3) := by decide +kernel
theorem dX12_pit_21 : decode cX12_pit 21 = .ok (.aload_n 0, 1) := by decide +kernel
theorem dX12_pit_22 : decode cX12_pit 22 = .ok (.getfield 93, 3) := by decide +kernel
theorem dX12_pit_25 : decode cX12_pit 25 = .ok (.bipush (-9), 2) := by decide +kernel
theorem dX12_pit_27 : decode cX12_pit 27 = .ok (.if_icmp .ne 64, 3) := by decide +kernel
theorem dX12_pit_30 : decode cX12_pit 30 = .ok (.aload_n 0, 1) := by decide +kernel
theorem dX12_pit_31 : decode cX12_pit 31 = .ok (.getfield 90, 3) := by decide +kernel
theorem dX12_pit_34 : decode cX12_pit 34 = .ok (.iconst 3, 1) := by decide +kernel
theorem dX12_pit_35 : decode cX12_pit 35 = .ok (.if_icmp .eq 56, 3) := by decide +kernel
theorem dX12_pit_38 : decode cX12_pit 38 = .ok (.aload_n 0, 1) := by decide +kernel
theorem dX12_pit_39 : decode cX12_pit 39 = .ok (.getfield 90, 3) := by decide +kernel
theorem dX12_pit_42 : decode cX12_pit 42 = .ok (.istore_n 2, 1) := by decide +kernel
theorem dX12_pit_43 : decode cX12_pit 43 = .ok (.aload_n 0, 1) := by decide +kernel
theorem dX12_pit_44 : decode cX12_pit 44 = .ok (.aload_n 0, 1) := by decide +kernel
theorem dX12_pit_45 : decode cX12_pit 45 = .ok (.iload_n 2, 1) := by decide +kernel
theorem dX12_pit_46 : decode cX12_pit 46 = .ok (.invokevirtual 124, 3) := by decide +kernel
theorem dX12_pit_49 : decode cX12_pit 49 = .ok (.invokevirtual 99, 3) := by decide +kernel
theorem dX12_pit_52 : decode cX12_pit 52 = .ok (.pop, 1) := by decide +kernel
theorem dX12_pit_53 : decode cX12_pit 53 = .ok (.aload_n 0, 1) := by decide +kernel
theorem dX12_pit_54 : decode cX12_pit 54 = .ok (.getfield 93, 3) := by decide +kernel
theorem dX12_pit_57 : decode cX12_pit 57 = .ok (.bipush (-9), 2) := by decide +kernel
theorem dX12_pit_59 : decode cX12_pit 59 = .ok (.if_icmp .ne 29, 3) := by decide +kernel
theorem dX12_pit_62 : decode cX12_pit 62 = .ok (.aload_n 0, 1) := by decide +kernel
theorem dX12_pit_63 : decode cX12_pit 63 = .ok (.iload_n 2, 1) := by decide +kernel
theorem dX12_pit_64 : decode cX12_pit 64 = .ok (.invokevirtual 128, 3) := by decide +kernel
theorem dX12_pit_67 : decode cX12_pit 67 = .ok (.aload_n 0, 1) := by decide +kernel
theorem dX12_pit_68 : decode cX12_pit 68 = .ok (.aload_n 0, 1) := by decide +kernel
theorem dX12_pit_69 : decode cX12_pit 69 = .ok (.getfield 90, 3) := by decide +kernel
theorem dX12_pit_72 : decode cX12_pit 72 = .ok (.iconst 2, 1) := by decide +kernel
theorem dX12_pit_73 : decode cX12_pit 73 = .ok (.if_icmp .ne 7, 3) := by decide +kernel
theorem dX12_pit_76 : decode cX12_pit 76 = .ok (.iconst 1, 1) := by decide +kernel
theorem dX12_pit_77 : decode cX12_pit 77 = .ok (.goto 4, 3) := by decide +kernel
theorem dX12_pit_80 : decode cX12_pit 80 = .ok (.iconst 0, 1) := by decide +kernel
theorem dX12_pit_81 : decode cX12_pit 81 = .ok (.invokevirtual 99, 3) := by decide +kernel
theorem dX12_pit_84 : decode cX12_pit 84 = .ok (.pop, 1) := by decide +kernel
theorem dX12_pit_85 : decode cX12_pit 85 = .ok (.iinc 1 1, 3) := by decide +kernel
theorem dX12_pit_88 : decode cX12_pit 88 = .ok (.goto (-67), 3) := by decide +kernel
theorem dX12_pit_91 : decode cX12_pit 91 = .ok (.aload_n 0, 1) := by decide +kernel
theorem dX12_pit_92 : decode cX12_pit 92 = .ok (.getfield 93, 3) := by decide +kernel
theorem dX12_pit_95 : decode cX12_pit 95 = .ok (.bipush (-9), 2) := by decide +kernel
theorem dX12_pit_97 : decode cX12_pit 97 = .ok (.if_icmp .eq 11, 3) := by decide +kernel
theorem dX12_pit_100 : decode cX12_pit 100 = .ok (.bipush (-10), 2) := by decide +kernel
theorem dX12_pit_102 : decode cX12_pit 102 = .ok (.aload_n 0, 1) := by decide +kernel
theorem dX12_pit_103 : decode cX12_pit 103 = .ok (.getfield 93, 3) := by decide +kernel
theorem dX12_pit_106 : decode cX12_pit 106 = .ok (.isub, 1) := by decide +kernel
theorem dX12_pit_107 : decode cX12_pit 107 = .ok (.ireturn, 1) := by decide +kernel
theorem dX12_pit_108 : decode cX12_pit 108 = .ok (.aload_n 0, 1) := by decide +kernel
theorem dX12_pit_109 : decode cX12_pit 109 = .ok (.invokevirtual 66, 3) := by decide +kernel
theorem dX12_pit_112 : decode cX12_pit 112 = .ok (.aload_n 0, 1) := by decide +kernel
theorem dX12_pit_113 : decode cX12_pit 113 = .ok (.iconst 0, 1) := by decide +kernel
theorem dX12_pit_114 : decode cX12_pit 114 = .ok (.putfield 73, 3) := by decide +kernel
theorem dX12_pit_117 : decode cX12_pit 117 = .ok (.iload_n 1, 1) := by decide +kernel
theorem dX12_pit_118 : decode cX12_pit 118 = .ok (.ireturn, 1) := by decide +kernel
theorem dX12_isMan_0 : decode cX12_isMan 0 = .ok (.iload_n 1, 1) := by decide +kernel
theorem dX12_isMan_1 : decode cX12_isMan 1 = .ok (.iconst 0, 1) := by decide +kernel
theorem dX12_isMan_2 : decode cX12_isMan 2 = .ok (.aload_n 0, 1) := by decide +kernel
theorem dX12_isMan_3 : decode cX12_isMan 3 = .ok (.getfield 13, 3) := by decide +kernel
theorem dX12_isMan_6 : decode cX12_isMan 6 = .ok (.iconst 0, 1) := by decide +kernel
theorem dX12_isMan_7 : decode cX12_isMan 7 = .ok (.iaload, 1) := by decide +kernel
theorem dX12_isMan_8 : decode cX12_isMan 8 = .ok (.iconst 1, 1) := by decide +kernel
theorem dX12_isMan_9 : decode cX12_isMan 9 = .ok (.isub, 1) := by decide +kernel
theorem dX12_isMan_10 : decode cX12_isMan 10 = .ok (.invokestatic 69, 3) := by decide +kernel
theorem dX12_isMan_13 : decode cX12_isMan 13 = .ok (.ireturn, 1) := by decide +kernel
theorem dX12_manyOf_0 : decode cX12_manyOf 0 = .ok (.iconst 0, 1) := by decide +kernel
theorem dX12_manyOf_1 : decode cX12_manyOf 1 = .ok (.istore_n 1, 1) := by decide +kernel
theorem dX12_manyOf_2 : decode cX12_manyOf 2 = .ok (.iconst 0, 1) := by decide +kernel
theorem dX12_manyOf_3 : decode cX12_manyOf 3 = .ok (.istore_n 2, 1) := by decide +kernel
theorem dX12_manyOf_4 : decode cX12_manyOf 4 = .ok (.iload_n 2, 1) := by decide +kernel
theorem dX12_manyOf_5 : decode cX12_manyOf 5 = .ok (.bipush 6, 2) := by decide +kernel
theorem dX12_manyOf_7 : decode cX12_manyOf 7 = .ok (.if_icmp .ge 17, 3) := by decide +kernel
theorem dX12_manyOf_10 : decode cX12_manyOf 10 = .ok (.iload_n 1, 1) := by decide +kernel
theorem dX12_manyOf_11 : decode cX12_manyOf 11 = .ok (.iload_n 0, 1) := by decide +kernel
theorem dX12_manyOf_12 : decode cX12_manyOf 12 = .ok (.iload_n 2, 1) := by decide +kernel
theorem dX12_manyOf_13 : decode cX12_manyOf 13 = .ok (.ishr, 1) := by decide +kernel
theorem dX12_manyOf_14 : decode cX12_manyOf 14 = .ok (.iconst 1, 1) := by decide +kernel
theorem dX12_manyOf_15 : decode cX12_manyOf 15 = .ok (.iand, 1) := by decide +kernel
theorem dX12_manyOf_16 : decode cX12_manyOf 16 = .ok (.iadd, 1) := by decide +kernel
theorem dX12_manyOf_17 : decode cX12_manyOf 17 = .ok (.istore_n 1, 1) := by decide +kernel
theorem dX12_manyOf_18 : decode cX12_manyOf 18 = .ok (.iinc 2 1, 3) := by decide +kernel
theorem dX12_manyOf_21 : decode cX12_manyOf 21 = .ok (.goto (-17), 3) := by decide +kernel
theorem dX12_manyOf_24 : decode cX12_manyOf 24 = .ok (.iload_n 1, 1) := by decide +kernel
theorem dX12_manyOf_25 : decode cX12_manyOf 25 = .ok (.ireturn, 1) := by decide +kernel
theorem dX12_isShift_0 : decode cX12_isShift 0 = .ok (.iload_n 1, 1) := by decide +kernel
theorem dX12_isShift_1 : decode cX12_isShift 1 = .ok (.iconst 0, 1) := by decide +kernel
theorem dX12_isShift_2 : decode cX12_isShift 2 = .ok (.iconst 1, 1) := by decide +kernel
theorem dX12_isShift_3 : decode cX12_isShift 3 = .ok (.aload_n 0, 1) := by decide +kernel
theorem dX12_isShift_4 : decode cX12_isShift 4 = .ok (.getfield 13, 3) := by decide +kernel
theorem dX12_isShift_7 : decode cX12_isShift 7 = .ok (.iconst 0, 1) := by decide +kernel
theorem dX12_isShift_8 : decode cX12_isShift 8 = .ok (.iaload, 1) := by decide +kernel
theorem dX12_isShift_9 : decode cX12_isShift 9 = .ok (.ishl, 1) := by decide +kernel
theorem dX12_isShift_10 : decode cX12_isShift 10 = .ok (.iconst 1, 1) := by decide +kernel
theorem dX12_isShift_11 : decode cX12_isShift 11 = .ok (.isub, 1) := by decide +kernel
theorem dX12_isShift_12 : decode cX12_isShift 12 = .ok (.invokestatic 69, 3) := by decide +kernel
theorem dX12_isShift_15 : decode cX12_isShift 15 = .ok (.ifCond .eq 20, 3) := by decide +kernel
theorem dX12_isShift_18 : decode cX12_isShift 18 = .ok (.iload_n 1, 1) := by decide +kernel
theorem dX12_isShift_19 : decode cX12_isShift 19 = .ok (.invokestatic 132, 3) := by decide +kernel
theorem dX12_isShift_22 : decode cX12_isShift 22 = .ok (.aload_n 0, 1) := by decide +kernel
theorem dX12_isShift_23 : decode cX12_isShift 23 = .ok (.getfield 26, 3) := by decide +kernel
theorem dX12_isShift_26 : decode cX12_isShift 26 = .ok (.iconst 0, 1) := by decide +kernel
theorem dX12_isShift_27 : decode cX12_isShift 27 = .ok (.iaload, 1) := by decide +kernel
theorem dX12_isShift_28 : decode cX12_isShift 28 = .ok (.if_icmp .gt 7, 3) := by decide +kernel
theorem dX12_isShift_31 : decode cX12_isShift 31 = .ok (.iconst 1, 1) := by decide +kernel
theorem dX12_isShift_32 : decode cX12_isShift 32 = .ok (.goto 4, 3) := by decide +kernel
theorem dX12_isShift_35 : decode cX12_isShift 35 = .ok (.iconst 0, 1) := by decide +kernel
theorem dX12_isShift_36 : decode cX12_isShift 36 = .ok (.ireturn, 1) := by decide +kernel
theorem dX12_man_0 : decode cX12_man 0 = .ok (.aload_n 0, 1) := by decide +kernel
theorem dX12_man_1 : decode cX12_man 1 = .ok (.iload_n 1, 1) := by decide +kernel
theorem dX12_man_2 : decode cX12_man 2 = .ok (.invokevirtual 136, 3) := by decide +kernel
theorem dX12_man_5 : decode cX12_man 5 = .ok (.ifCond .eq 12, 3) := by decide +kernel
theorem dX12_man_8 : decode cX12_man 8 = .ok (.iload_n 2, 1) := by decide +kernel
theorem dX12_man_9 : decode cX12_man 9 = .ok (.iconst 0, 1) := by decide +kernel
theorem dX12_man_10 : decode cX12_man 10 = .ok (.iconst 2, 1) := by decide +kernel
theorem dX12_man_11 : decode cX12_man 11 = .ok (.invokestatic 69, 3) := by decide +kernel
theorem dX12_man_14 : decode cX12_man 14 = .ok (.ifCond .ne 5, 3) := by decide +kernel
theorem dX12_man_17 : decode cX12_man 17 = .ok (.iconst (-1), 1) := by decide +kernel
theorem dX12_man_18 : decode cX12_man 18 = .ok (.ireturn, 1) := by decide +kernel
theorem dX12_man_19 : decode cX12_man 19 = .ok (.iload_n 2, 1) := by decide +kernel
theorem dX12_man_20 : decode cX12_man 20 = .ok (.ifCond .ne 14, 3) := by decide +kernel
theorem dX12_man_23 : decode cX12_man 23 = .ok (.aload_n 0, 1) := by decide +kernel
theorem dX12_man_24 : decode cX12_man 24 = .ok (.getfield 32, 3) := by decide +kernel
theorem dX12_man_27 : decode cX12_man 27 = .ok (.iconst 0, 1) := by decide +kernel
theorem dX12_man_28 : decode cX12_man 28 = .ok (.iload_n 1, 1) := by decide +kernel
theorem dX12_man_29 : decode cX12_man 29 = .ok (.iadd, 1) := by decide +kernel
theorem dX12_man_30 : decode cX12_man 30 = .ok (.iaload, 1) := by decide +kernel
theorem dX12_man_31 : decode cX12_man 31 = .ok (.goto 26, 3) := by decide +kernel
theorem dX12_man_34 : decode cX12_man 34 = .ok (.iload_n 2, 1) := by decide +kernel
theorem dX12_man_35 : decode cX12_man 35 = .ok (.iconst 1, 1) := by decide +kernel
theorem dX12_man_36 : decode cX12_man 36 = .ok (.if_icmp .ne 12, 3) := by decide +kernel
theorem dX12_man_39 : decode cX12_man 39 = .ok (.aload_n 0, 1) := by decide +kernel
theorem dX12_man_40 : decode cX12_man 40 = .ok (.getfield 17, 3) := by decide +kernel
theorem dX12_man_43 : decode cX12_man 43 = .ok (.iload_n 1, 1) := by decide +kernel
theorem dX12_man_44 : decode cX12_man 44 = .ok (.iaload, 1) := by decide +kernel
theorem dX12_man_45 : decode cX12_man 45 = .ok (.goto 12, 3) := by decide +kernel
theorem dX12_man_48 : decode cX12_man 48 = .ok (.aload_n 0, 1) := by decide +kernel
theorem dX12_man_49 : decode cX12_man 49 = .ok (.getfield 32, 3) := by decide +kernel
theorem dX12_man_52 : decode cX12_man 52 = .ok (.bipush 6, 2) := by decide +kernel
theorem dX12_man_54 : decode cX12_man 54 = .ok (.iload_n 1, 1) := by decide +kernel
theorem dX12_man_55 : decode cX12_man 55 = .ok (.iadd, 1) := by decide +kernel
theorem dX12_man_56 : decode cX12_man 56 = .ok (.iaload, 1) := by decide +kernel
theorem dX12_man_57 : decode cX12_man 57 = .ok (.ireturn, 1) := by decide +kernel
theorem dX12_beside_0 : decode cX12_beside 0 = .ok (.aload_n 0, 1) := by decide +kernel
theorem dX12_beside_1 : decode cX12_beside 1 = .ok (.iload_n 1, 1) := by decide +kernel
theorem dX12_beside_2 : decode cX12_beside 2 = .ok (.invokevirtual 136, 3) := by decide +kernel
theorem dX12_beside_5 : decode cX12_beside 5 = .ok (.ifCond .eq 30, 3) := by decide +kernel
theorem dX12_beside_8 : decode cX12_beside 8 = .ok (.aload_n 0, 1) := by decide +kernel
theorem dX12_beside_9 : decode cX12_beside 9 = .ok (.iload_n 2, 1) := by decide +kernel
theorem dX12_beside_10 : decode cX12_beside 10 = .ok (.invokevirtual 136, 3) := by decide +kernel
theorem dX12_beside_13 : decode cX12_beside 13 = .ok (.ifCond .eq 22, 3) := by decide +kernel
theorem dX12_beside_16 : decode cX12_beside 16 = .ok (.iload_n 1, 1) := by decide +kernel
theorem dX12_beside_17 : decode cX12_beside 17 = .ok (.iload_n 2, 1) := by decide +kernel
theorem dX12_beside_18 : decode cX12_beside 18 = .ok (.if_icmp .eq 17, 3) := by decide +kernel
theorem dX12_beside_21 : decode cX12_beside 21 = .ok (.aload_n 0, 1) := by decide +kernel
theorem dX12_beside_22 : decode cX12_beside 22 = .ok (.getfield 23, 3) := by decide +kernel
theorem dX12_beside_25 : decode cX12_beside 25 = .ok (.bipush 6, 2) := by decide +kernel
theorem dX12_beside_27 : decode cX12_beside 27 = .ok (.iload_n 1, 1) := by decide +kernel
theorem dX12_beside_28 : decode cX12_beside 28 = .ok (.imul, 1) := by decide +kernel
theorem dX12_beside_29 : decode cX12_beside 29 = .ok (.iload_n 2, 1) := by decide +kernel
theorem dX12_beside_30 : decode cX12_beside 30 = .ok (.iadd, 1) := by decide +kernel
theorem dX12_beside_31 : decode cX12_beside 31 = .ok (.iaload, 1) := by decide +kernel
theorem dX12_beside_32 : decode cX12_beside 32 = .ok (.goto 5, 3) := by decide +kernel
theorem dX12_beside_35 : decode cX12_beside 35 = .ok (.ldc 139, 2) := by decide +kernel
theorem dX12_beside_37 : decode cX12_beside 37 = .ok (.ireturn, 1) := by decide +kernel
theorem dX12_held_0 : decode cX12_held 0 = .ok (.iload_n 0, 1) := by decide +kernel
theorem dX12_held_1 : decode cX12_held 1 = .ok (.ifCond .ge 7, 3) := by decide +kernel
theorem dX12_held_4 : decode cX12_held 4 = .ok (.iconst 0, 1) := by decide +kernel
theorem dX12_held_5 : decode cX12_held 5 = .ok (.goto 17, 3) := by decide +kernel
theorem dX12_held_8 : decode cX12_held 8 = .ok (.iload_n 0, 1) := by decide +kernel
theorem dX12_held_9 : decode cX12_held 9 = .ok (.sipush 999, 3) := by decide +kernel
theorem dX12_held_12 : decode cX12_held 12 = .ok (.if_icmp .le 9, 3) := by decide +kernel
theorem dX12_held_15 : decode cX12_held 15 = .ok (.sipush 999, 3) := by decide +kernel
theorem dX12_held_18 : decode cX12_held 18 = .ok (.goto 4, 3) := by decide +kernel
theorem dX12_held_21 : decode cX12_held 21 = .ok (.iload_n 0, 1) := by decide +kernel
theorem dX12_held_22 : decode cX12_held 22 = .ok (.ireturn, 1) := by decide +kernel
theorem dX12_begins_0 : decode cX12_begins 0 = .ok (.aload_n 1, 1) := by decide +kernel
theorem dX12_begins_1 : decode cX12_begins 1 = .ok (.iload_n 2, 1) := by decide +kernel
theorem dX12_begins_2 : decode cX12_begins 2 = .ok (.iload 4, 2) := by decide +kernel
theorem dX12_begins_4 : decode cX12_begins 4 = .ok (.iadd, 1) := by decide +kernel
theorem dX12_begins_5 : decode cX12_begins 5 = .ok (.iaload, 1) := by decide +kernel
theorem dX12_begins_6 : decode cX12_begins 6 = .ok (.istore 5, 2) := by decide +kernel
theorem dX12_begins_8 : decode cX12_begins 8 = .ok (.iconst 0, 1) := by decide +kernel
theorem dX12_begins_9 : decode cX12_begins 9 = .ok (.istore 6, 2) := by decide +kernel
theorem dX12_begins_11 : decode cX12_begins 11 = .ok (.iload 6, 2) := by decide +kernel
theorem dX12_begins_13 : decode cX12_begins 13 = .ok (.aload_n 0, 1) := by decide +kernel
theorem dX12_begins_14 : decode cX12_begins 14 = .ok (.getfield 13, 3) := by decide +kernel
theorem dX12_begins_17 : decode cX12_begins 17 = .ok (.iconst 0, 1) := by decide +kernel
theorem dX12_begins_18 : decode cX12_begins 18 = .ok (.iaload, 1) := by decide +kernel
theorem dX12_begins_19 : decode cX12_begins 19 = .ok (.if_icmp .ge 48, 3) := by decide +kernel
theorem dX12_begins_22 : decode cX12_begins 22 = .ok (.iload 5, 2) := by decide +kernel
theorem dX12_begins_24 : decode cX12_begins 24 = .ok (.iload 6, 2) := by decide +kernel
theorem dX12_begins_26 : decode cX12_begins 26 = .ok (.iload 4, 2) := by decide +kernel
theorem dX12_begins_28 : decode cX12_begins 28 = .ok (.if_icmp .eq 29, 3) := by decide +kernel
theorem dX12_begins_31 : decode cX12_begins 31 = .ok (.iload_n 3, 1) := by decide +kernel
theorem dX12_begins_32 : decode cX12_begins 32 = .ok (.iload 6, 2) := by decide +kernel
theorem dX12_begins_34 : decode cX12_begins 34 = .ok (.ishr, 1) := by decide +kernel
theorem dX12_begins_35 : decode cX12_begins 35 = .ok (.iconst 1, 1) := by decide +kernel
theorem dX12_begins_36 : decode cX12_begins 36 = .ok (.iand, 1) := by decide +kernel
theorem dX12_begins_37 : decode cX12_begins 37 = .ok (.iconst 1, 1) := by decide +kernel
theorem dX12_begins_38 : decode cX12_begins 38 = .ok (.if_icmp .ne 19, 3) := by decide +kernel
theorem dX12_begins_41 : decode cX12_begins 41 = .ok (.aload_n 0, 1) := by decide +kernel
theorem dX12_begins_42 : decode cX12_begins 42 = .ok (.getfield 23, 3) := by decide +kernel
theorem dX12_begins_45 : decode cX12_begins 45 = .ok (.bipush 6, 2) := by decide +kernel
theorem dX12_begins_47 : decode cX12_begins 47 = .ok (.iload 4, 2) := by decide +kernel
theorem dX12_begins_49 : decode cX12_begins 49 = .ok (.imul, 1) := by decide +kernel
theorem dX12_begins_50 : decode cX12_begins 50 = .ok (.iload 6, 2) := by decide +kernel
theorem dX12_begins_52 : decode cX12_begins 52 = .ok (.iadd, 1) := by decide +kernel
theorem dX12_begins_53 : decode cX12_begins 53 = .ok (.iaload, 1) := by decide +kernel
theorem dX12_begins_54 : decode cX12_begins 54 = .ok (.goto 4, 3) := by decide +kernel
theorem dX12_begins_57 : decode cX12_begins 57 = .ok (.iconst 0, 1) := by decide +kernel
theorem dX12_begins_58 : decode cX12_begins 58 = .ok (.iadd, 1) := by decide +kernel
theorem dX12_begins_59 : decode cX12_begins 59 = .ok (.istore 5, 2) := by decide +kernel
theorem dX12_begins_61 : decode cX12_begins 61 = .ok (.iinc 6 1, 3) := by decide +kernel
theorem dX12_begins_64 : decode cX12_begins 64 = .ok (.goto (-53), 3) := by decide +kernel
theorem dX12_begins_67 : decode cX12_begins 67 = .ok (.iload 5, 2) := by decide +kernel
theorem dX12_begins_69 : decode cX12_begins 69 = .ok (.invokestatic 140, 3) := by decide +kernel
theorem dX12_begins_72 : decode cX12_begins 72 = .ok (.ireturn, 1) := by decide +kernel
theorem dX12_brings_0 : decode cX12_brings 0 = .ok (.iload_n 1, 1) := by decide +kernel
theorem dX12_brings_1 : decode cX12_brings 1 = .ok (.aload_n 0, 1) := by decide +kernel
theorem dX12_brings_2 : decode cX12_brings 2 = .ok (.getfield 29, 3) := by decide +kernel
theorem dX12_brings_5 : decode cX12_brings 5 = .ok (.iconst 0, 1) := by decide +kernel
theorem dX12_brings_6 : decode cX12_brings 6 = .ok (.iaload, 1) := by decide +kernel
theorem dX12_brings_7 : decode cX12_brings 7 = .ok (.if_icmp .ge 7, 3) := by decide +kernel
theorem dX12_brings_10 : decode cX12_brings 10 = .ok (.iconst 0, 1) := by decide +kernel
theorem dX12_brings_11 : decode cX12_brings 11 = .ok (.goto 4, 3) := by decide +kernel
theorem dX12_brings_14 : decode cX12_brings 14 = .ok (.iload_n 1, 1) := by decide +kernel
theorem dX12_brings_15 : decode cX12_brings 15 = .ok (.ireturn, 1) := by decide +kernel
theorem dX12_pass_0 : decode cX12_pass 0 = .ok (.iconst 0, 1) := by decide +kernel
theorem dX12_pass_1 : decode cX12_pass 1 = .ok (.istore 5, 2) := by decide +kernel
theorem dX12_pass_3 : decode cX12_pass 3 = .ok (.iconst 0, 1) := by decide +kernel
theorem dX12_pass_4 : decode cX12_pass 4 = .ok (.istore 6, 2) := by decide +kernel
theorem dX12_pass_6 : decode cX12_pass 6 = .ok (.iload 6, 2) := by decide +kernel
theorem dX12_pass_8 : decode cX12_pass 8 = .ok (.aload_n 0, 1) := by decide +kernel
theorem dX12_pass_9 : decode cX12_pass 9 = .ok (.getfield 13, 3) := by decide +kernel
theorem dX12_pass_12 : decode cX12_pass 12 = .ok (.iconst 0, 1) := by decide +kernel
theorem dX12_pass_13 : decode cX12_pass 13 = .ok (.iaload, 1) := by decide +kernel
theorem dX12_pass_14 : decode cX12_pass 14 = .ok (.if_icmp .ge 90, 3) := by decide +kernel
theorem dX12_pass_17 : decode cX12_pass 17 = .ok (.iload 4, 2) := by decide +kernel
theorem dX12_pass_19 : decode cX12_pass 19 = .ok (.iload 6, 2) := by decide +kernel
theorem dX12_pass_21 : decode cX12_pass 21 = .ok (.ishr, 1) := by decide +kernel
theorem dX12_pass_22 : decode cX12_pass 22 = .ok (.iconst 1, 1) := by decide +kernel
theorem dX12_pass_23 : decode cX12_pass 23 = .ok (.iand, 1) := by decide +kernel
theorem dX12_pass_24 : decode cX12_pass 24 = .ok (.iconst 1, 1) := by decide +kernel
theorem dX12_pass_25 : decode cX12_pass 25 = .ok (.if_icmp .ne 47, 3) := by decide +kernel
theorem dX12_pass_28 : decode cX12_pass 28 = .ok (.aload_n 0, 1) := by decide +kernel
theorem dX12_pass_29 : decode cX12_pass 29 = .ok (.aload_n 1, 1) := by decide +kernel
theorem dX12_pass_30 : decode cX12_pass 30 = .ok (.iload_n 2, 1) := by decide +kernel
theorem dX12_pass_31 : decode cX12_pass 31 = .ok (.iload 4, 2) := by decide +kernel
theorem dX12_pass_33 : decode cX12_pass 33 = .ok (.iload 6, 2) := by decide +kernel
theorem dX12_pass_35 : decode cX12_pass 35 = .ok (.invokevirtual 143, 3) := by decide +kernel
theorem dX12_pass_38 : decode cX12_pass 38 = .ok (.istore 7, 2) := by decide +kernel
theorem dX12_pass_40 : decode cX12_pass 40 = .ok (.iload 5, 2) := by decide +kernel
theorem dX12_pass_42 : decode cX12_pass 42 = .ok (.aload_n 0, 1) := by decide +kernel
theorem dX12_pass_43 : decode cX12_pass 43 = .ok (.iload 7, 2) := by decide +kernel
theorem dX12_pass_45 : decode cX12_pass 45 = .ok (.iconst 2, 1) := by decide +kernel
theorem dX12_pass_46 : decode cX12_pass 46 = .ok (.idiv, 1) := by decide +kernel
theorem dX12_pass_47 : decode cX12_pass 47 = .ok (.invokevirtual 147, 3) := by decide +kernel
theorem dX12_pass_50 : decode cX12_pass 50 = .ok (.iadd, 1) := by decide +kernel
theorem dX12_pass_51 : decode cX12_pass 51 = .ok (.istore 5, 2) := by decide +kernel
theorem dX12_pass_53 : decode cX12_pass 53 = .ok (.aload_n 1, 1) := by decide +kernel
theorem dX12_pass_54 : decode cX12_pass 54 = .ok (.iload_n 3, 1) := by decide +kernel
theorem dX12_pass_55 : decode cX12_pass 55 = .ok (.bipush 6, 2) := by decide +kernel
theorem dX12_pass_57 : decode cX12_pass 57 = .ok (.iadd, 1) := by decide +kernel
theorem dX12_pass_58 : decode cX12_pass 58 = .ok (.iload 6, 2) := by decide +kernel
theorem dX12_pass_60 : decode cX12_pass 60 = .ok (.iadd, 1) := by decide +kernel
theorem dX12_pass_61 : decode cX12_pass 61 = .ok (.iload 7, 2) := by decide +kernel
theorem dX12_pass_63 : decode cX12_pass 63 = .ok (.iload 7, 2) := by decide +kernel
theorem dX12_pass_65 : decode cX12_pass 65 = .ok (.iconst 2, 1) := by decide +kernel
theorem dX12_pass_66 : decode cX12_pass 66 = .ok (.idiv, 1) := by decide +kernel
theorem dX12_pass_67 : decode cX12_pass 67 = .ok (.isub, 1) := by decide +kernel
theorem dX12_pass_68 : decode cX12_pass 68 = .ok (.iastore, 1) := by decide +kernel
theorem dX12_pass_69 : decode cX12_pass 69 = .ok (.goto 29, 3) := by decide +kernel
theorem dX12_pass_72 : decode cX12_pass 72 = .ok (.aload_n 1, 1) := by decide +kernel
theorem dX12_pass_73 : decode cX12_pass 73 = .ok (.iload_n 3, 1) := by decide +kernel
theorem dX12_pass_74 : decode cX12_pass 74 = .ok (.bipush 6, 2) := by decide +kernel
theorem dX12_pass_76 : decode cX12_pass 76 = .ok (.iadd, 1) := by decide +kernel
theorem dX12_pass_77 : decode cX12_pass 77 = .ok (.iload 6, 2) := by decide +kernel
theorem dX12_pass_79 : decode cX12_pass 79 = .ok (.iadd, 1) := by decide +kernel
theorem dX12_pass_80 : decode cX12_pass 80 = .ok (.aload_n 1, 1) := by decide +kernel
theorem dX12_pass_81 : decode cX12_pass 81 = .ok (.iload_n 2, 1) := by decide +kernel
theorem dX12_pass_82 : decode cX12_pass 82 = .ok (.iload 6, 2) := by decide +kernel
theorem dX12_pass_84 : decode cX12_pass 84 = .ok (.iadd, 1) := by decide +kernel
theorem dX12_pass_85 : decode cX12_pass 85 = .ok (.iaload, 1) := by decide +kernel
theorem dX12_pass_86 : decode cX12_pass 86 = .ok (.aload_n 0, 1) := by decide +kernel
theorem dX12_pass_87 : decode cX12_pass 87 = .ok (.getfield 17, 3) := by decide +kernel
theorem dX12_pass_90 : decode cX12_pass 90 = .ok (.iload 6, 2) := by decide +kernel
theorem dX12_pass_92 : decode cX12_pass 92 = .ok (.iaload, 1) := by decide +kernel
theorem dX12_pass_93 : decode cX12_pass 93 = .ok (.iadd, 1) := by decide +kernel
theorem dX12_pass_94 : decode cX12_pass 94 = .ok (.invokestatic 140, 3) := by decide +kernel
theorem dX12_pass_97 : decode cX12_pass 97 = .ok (.iastore, 1) := by decide +kernel
theorem dX12_pass_98 : decode cX12_pass 98 = .ok (.iinc 6 1, 3) := by decide +kernel
theorem dX12_pass_101 : decode cX12_pass 101 = .ok (.goto (-95), 3) := by decide +kernel
theorem dX12_pass_104 : decode cX12_pass 104 = .ok (.iconst 0, 1) := by decide +kernel
theorem dX12_pass_105 : decode cX12_pass 105 = .ok (.istore 6, 2) := by decide +kernel
theorem dX12_pass_107 : decode cX12_pass 107 = .ok (.iload 6, 2) := by decide +kernel
theorem dX12_pass_109 : decode cX12_pass 109 = .ok (.aload_n 0, 1) := by decide +kernel
theorem dX12_pass_110 : decode cX12_pass 110 = .ok (.getfield 13, 3) := by decide +kernel
theorem dX12_pass_113 : decode cX12_pass 113 = .ok (.iconst 0, 1) := by decide +kernel
theorem dX12_pass_114 : decode cX12_pass 114 = .ok (.iaload, 1) := by decide +kernel
theorem dX12_pass_115 : decode cX12_pass 115 = .ok (.if_icmp .ge 24, 3) := by decide +kernel
theorem dX12_pass_118 : decode cX12_pass 118 = .ok (.aload_n 1, 1) := by decide +kernel
theorem dX12_pass_119 : decode cX12_pass 119 = .ok (.iload_n 3, 1) := by decide +kernel
theorem dX12_pass_120 : decode cX12_pass 120 = .ok (.iload 6, 2) := by decide +kernel
theorem dX12_pass_122 : decode cX12_pass 122 = .ok (.iadd, 1) := by decide +kernel
theorem dX12_pass_123 : decode cX12_pass 123 = .ok (.aload_n 1, 1) := by decide +kernel
theorem dX12_pass_124 : decode cX12_pass 124 = .ok (.iload_n 3, 1) := by decide +kernel
theorem dX12_pass_125 : decode cX12_pass 125 = .ok (.bipush 6, 2) := by decide +kernel
theorem dX12_pass_127 : decode cX12_pass 127 = .ok (.iadd, 1) := by decide +kernel
theorem dX12_pass_128 : decode cX12_pass 128 = .ok (.iload 6, 2) := by decide +kernel
theorem dX12_pass_130 : decode cX12_pass 130 = .ok (.iadd, 1) := by decide +kernel
theorem dX12_pass_131 : decode cX12_pass 131 = .ok (.iaload, 1) := by decide +kernel
theorem dX12_pass_132 : decode cX12_pass 132 = .ok (.iastore, 1) := by decide +kernel
theorem dX12_pass_133 : decode cX12_pass 133 = .ok (.iinc 6 1, 3) := by decide +kernel
theorem dX12_pass_136 : decode cX12_pass 136 = .ok (.goto (-29), 3) := by decide +kernel
theorem dX12_pass_139 : decode cX12_pass 139 = .ok (.iload 5, 2) := by decide +kernel
theorem dX12_pass_141 : decode cX12_pass 141 = .ok (.ireturn, 1) := by decide +kernel
theorem dX12_take_0 : decode cX12_take 0 = .ok (.iconst 0, 1) := by decide +kernel
theorem dX12_take_1 : decode cX12_take 1 = .ok (.istore_n 1, 1) := by decide +kernel
theorem dX12_take_2 : decode cX12_take 2 = .ok (.iload_n 1, 1) := by decide +kernel
theorem dX12_take_3 : decode cX12_take 3 = .ok (.bipush 6, 2) := by decide +kernel
theorem dX12_take_5 : decode cX12_take 5 = .ok (.if_icmp .ge 23, 3) := by decide +kernel
theorem dX12_take_8 : decode cX12_take 8 = .ok (.aload_n 0, 1) := by decide +kernel
theorem dX12_take_9 : decode cX12_take 9 = .ok (.getfield 39, 3) := by decide +kernel
theorem dX12_take_12 : decode cX12_take 12 = .ok (.iload_n 1, 1) := by decide +kernel
theorem dX12_take_13 : decode cX12_take 13 = .ok (.aload_n 0, 1) := by decide +kernel
theorem dX12_take_14 : decode cX12_take 14 = .ok (.getfield 32, 3) := by decide +kernel
theorem dX12_take_17 : decode cX12_take 17 = .ok (.iconst 0, 1) := by decide +kernel
theorem dX12_take_18 : decode cX12_take 18 = .ok (.iload_n 1, 1) := by decide +kernel
theorem dX12_take_19 : decode cX12_take 19 = .ok (.iadd, 1) := by decide +kernel
theorem dX12_take_20 : decode cX12_take 20 = .ok (.iaload, 1) := by decide +kernel
theorem dX12_take_21 : decode cX12_take 21 = .ok (.iastore, 1) := by decide +kernel
theorem dX12_take_22 : decode cX12_take 22 = .ok (.iinc 1 1, 3) := by decide +kernel
theorem dX12_take_25 : decode cX12_take 25 = .ok (.goto (-23), 3) := by decide +kernel
theorem dX12_take_28 : decode cX12_take 28 = .ok (.return_, 1) := by decide +kernel
theorem dX12_know_0 : decode cX12_know 0 = .ok (.aload_n 0, 1) := by decide +kernel
theorem dX12_know_1 : decode cX12_know 1 = .ok (.getfield 32, 3) := by decide +kernel
theorem dX12_know_4 : decode cX12_know 4 = .ok (.bipush 14, 2) := by decide +kernel
theorem dX12_know_6 : decode cX12_know 6 = .ok (.iaload, 1) := by decide +kernel
theorem dX12_know_7 : decode cX12_know 7 = .ok (.bipush 10, 2) := by decide +kernel
theorem dX12_know_9 : decode cX12_know 9 = .ok (.if_icmp .ne 46, 3) := by decide +kernel
theorem dX12_know_12 : decode cX12_know 12 = .ok (.iconst 0, 1) := by decide +kernel
theorem dX12_know_13 : decode cX12_know 13 = .ok (.istore_n 1, 1) := by decide +kernel
theorem dX12_know_14 : decode cX12_know 14 = .ok (.iload_n 1, 1) := by decide +kernel
theorem dX12_know_15 : decode cX12_know 15 = .ok (.bipush 126, 2) := by decide +kernel
theorem dX12_know_17 : decode cX12_know 17 = .ok (.if_icmp .ge 27, 3) := by decide +kernel
theorem dX12_know_20 : decode cX12_know 20 = .ok (.aload_n 0, 1) := by decide +kernel
theorem dX12_know_21 : decode cX12_know 21 = .ok (.getfield 32, 3) := by decide +kernel
theorem dX12_know_24 : decode cX12_know 24 = .ok (.bipush 15, 2) := by decide +kernel
theorem dX12_know_26 : decode cX12_know 26 = .ok (.iload_n 1, 1) := by decide +kernel
theorem dX12_know_27 : decode cX12_know 27 = .ok (.iadd, 1) := by decide +kernel
theorem dX12_know_28 : decode cX12_know 28 = .ok (.aload_n 0, 1) := by decide +kernel
theorem dX12_know_29 : decode cX12_know 29 = .ok (.getfield 32, 3) := by decide +kernel
theorem dX12_know_32 : decode cX12_know 32 = .ok (.bipush 29, 2) := by decide +kernel
theorem dX12_know_34 : decode cX12_know 34 = .ok (.iload_n 1, 1) := by decide +kernel
theorem dX12_know_35 : decode cX12_know 35 = .ok (.iadd, 1) := by decide +kernel
theorem dX12_know_36 : decode cX12_know 36 = .ok (.iaload, 1) := by decide +kernel
theorem dX12_know_37 : decode cX12_know 37 = .ok (.iastore, 1) := by decide +kernel
theorem dX12_know_38 : decode cX12_know 38 = .ok (.iinc 1 1, 3) := by decide +kernel
theorem dX12_know_41 : decode cX12_know 41 = .ok (.goto (-27), 3) := by decide +kernel
theorem dX12_know_44 : decode cX12_know 44 = .ok (.aload_n 0, 1) := by decide +kernel
theorem dX12_know_45 : decode cX12_know 45 = .ok (.getfield 32, 3) := by decide +kernel
theorem dX12_know_48 : decode cX12_know 48 = .ok (.bipush 14, 2) := by decide +kernel
theorem dX12_know_50 : decode cX12_know 50 = .ok (.dup2, 1) := by decide +kernel
theorem dX12_know_51 : decode cX12_know 51 = .ok (.iaload, 1) := by decide +kernel
theorem dX12_know_52 : decode cX12_know 52 = .ok (.iconst 1, 1) := by decide +kernel
theorem dX12_know_53 : decode cX12_know 53 = .ok (.isub, 1) := by decide +kernel
theorem dX12_know_54 : decode cX12_know 54 = .ok (.iastore, 1) := by decide +kernel
theorem dX12_know_55 : decode cX12_know 55 = .ok (.iconst 0, 1) := by decide +kernel
theorem dX12_know_56 : decode cX12_know 56 = .ok (.istore_n 1, 1) := by decide +kernel
theorem dX12_know_57 : decode cX12_know 57 = .ok (.iload_n 1, 1) := by decide +kernel
theorem dX12_know_58 : decode cX12_know 58 = .ok (.bipush 14, 2) := by decide +kernel
theorem dX12_know_60 : decode cX12_know 60 = .ok (.if_icmp .ge 35, 3) := by decide +kernel
theorem dX12_know_63 : decode cX12_know 63 = .ok (.aload_n 0, 1) := by decide +kernel
theorem dX12_know_64 : decode cX12_know 64 = .ok (.getfield 32, 3) := by decide +kernel
theorem dX12_know_67 : decode cX12_know 67 = .ok (.bipush 15, 2) := by decide +kernel
theorem dX12_know_69 : decode cX12_know 69 = .ok (.bipush 14, 2) := by decide +kernel
theorem dX12_know_71 : decode cX12_know 71 = .ok (.aload_n 0, 1) := by decide +kernel
theorem dX12_know_72 : decode cX12_know 72 = .ok (.getfield 32, 3) := by decide +kernel
theorem dX12_know_75 : decode cX12_know 75 = .ok (.bipush 14, 2) := by decide +kernel
theorem dX12_know_77 : decode cX12_know 77 = .ok (.iaload, 1) := by decide +kernel
theorem dX12_know_78 : decode cX12_know 78 = .ok (.imul, 1) := by decide +kernel
theorem dX12_know_79 : decode cX12_know 79 = .ok (.iadd, 1) := by decide +kernel
theorem dX12_know_80 : decode cX12_know 80 = .ok (.iload_n 1, 1) := by decide +kernel
theorem dX12_know_81 : decode cX12_know 81 = .ok (.iadd, 1) := by decide +kernel
theorem dX12_know_82 : decode cX12_know 82 = .ok (.aload_n 0, 1) := by decide +kernel
theorem dX12_know_83 : decode cX12_know 83 = .ok (.getfield 32, 3) := by decide +kernel
theorem dX12_know_86 : decode cX12_know 86 = .ok (.iload_n 1, 1) := by decide +kernel
theorem dX12_know_87 : decode cX12_know 87 = .ok (.iaload, 1) := by decide +kernel
theorem dX12_know_88 : decode cX12_know 88 = .ok (.iastore, 1) := by decide +kernel
theorem dX12_know_89 : decode cX12_know 89 = .ok (.iinc 1 1, 3) := by decide +kernel
theorem dX12_know_92 : decode cX12_know 92 = .ok (.goto (-35), 3) := by decide +kernel
theorem dX12_know_95 : decode cX12_know 95 = .ok (.aload_n 0, 1) := by decide +kernel
theorem dX12_know_96 : decode cX12_know 96 = .ok (.getfield 32, 3) := by decide +kernel
theorem dX12_know_99 : decode cX12_know 99 = .ok (.bipush 14, 2) := by decide +kernel
theorem dX12_know_101 : decode cX12_know 101 = .ok (.dup2, 1) := by decide +kernel
theorem dX12_know_102 : decode cX12_know 102 = .ok (.iaload, 1) := by decide +kernel
theorem dX12_know_103 : decode cX12_know 103 = .ok (.iconst 1, 1) := by decide +kernel
theorem dX12_know_104 : decode cX12_know 104 = .ok (.iadd, 1) := by decide +kernel
theorem dX12_know_105 : decode cX12_know 105 = .ok (.iastore, 1) := by decide +kernel
theorem dX12_know_106 : decode cX12_know 106 = .ok (.return_, 1) := by decide +kernel
theorem dX12_week_0 : decode cX12_week 0 = .ok (.aload_n 0, 1) := by decide +kernel
theorem dX12_week_1 : decode cX12_week 1 = .ok (.iload_n 1, 1) := by decide +kernel
theorem dX12_week_2 : decode cX12_week 2 = .ok (.invokevirtual 150, 3) := by decide +kernel
theorem dX12_week_5 : decode cX12_week 5 = .ok (.ifCond .ne 5, 3) := by decide +kernel
theorem dX12_week_8 : decode cX12_week 8 = .ok (.iconst (-1), 1) := by decide +kernel
theorem dX12_week_9 : decode cX12_week 9 = .ok (.ireturn, 1) := by decide +kernel
theorem dX12_week_10 : decode cX12_week 10 = .ok (.aload_n 0, 1) := by decide +kernel
theorem dX12_week_11 : decode cX12_week 11 = .ok (.getfield 32, 3) := by decide +kernel
theorem dX12_week_14 : decode cX12_week 14 = .ok (.bipush 13, 2) := by decide +kernel
theorem dX12_week_16 : decode cX12_week 16 = .ok (.iaload, 1) := by decide +kernel
theorem dX12_week_17 : decode cX12_week 17 = .ok (.sipush 300, 3) := by decide +kernel
theorem dX12_week_20 : decode cX12_week 20 = .ok (.if_icmp .ne 6, 3) := by decide +kernel
theorem dX12_week_23 : decode cX12_week 23 = .ok (.bipush (-2), 2) := by decide +kernel
theorem dX12_week_25 : decode cX12_week 25 = .ok (.ireturn, 1) := by decide +kernel
theorem dX12_week_26 : decode cX12_week 26 = .ok (.aload_n 0, 1) := by decide +kernel
theorem dX12_week_27 : decode cX12_week 27 = .ok (.invokevirtual 153, 3) := by decide +kernel
theorem dX12_week_30 : decode cX12_week 30 = .ok (.aload_n 0, 1) := by decide +kernel
theorem dX12_week_31 : decode cX12_week 31 = .ok (.invokevirtual 156, 3) := by decide +kernel
theorem dX12_week_34 : decode cX12_week 34 = .ok (.iconst 0, 1) := by decide +kernel
theorem dX12_week_35 : decode cX12_week 35 = .ok (.istore_n 2, 1) := by decide +kernel
theorem dX12_week_36 : decode cX12_week 36 = .ok (.iload_n 2, 1) := by decide +kernel
theorem dX12_week_37 : decode cX12_week 37 = .ok (.aload_n 0, 1) := by decide +kernel
theorem dX12_week_38 : decode cX12_week 38 = .ok (.getfield 13, 3) := by decide +kernel
theorem dX12_week_41 : decode cX12_week 41 = .ok (.iconst 0, 1) := by decide +kernel
theorem dX12_week_42 : decode cX12_week 42 = .ok (.iaload, 1) := by decide +kernel
theorem dX12_week_43 : decode cX12_week 43 = .ok (.if_icmp .ge 66, 3) := by decide +kernel
theorem dX12_week_46 : decode cX12_week 46 = .ok (.iload_n 1, 1) := by decide +kernel
theorem dX12_week_47 : decode cX12_week 47 = .ok (.iload_n 2, 1) := by decide +kernel
theorem dX12_week_48 : decode cX12_week 48 = .ok (.ishr, 1) := by decide +kernel
theorem dX12_week_49 : decode cX12_week 49 = .ok (.iconst 1, 1) := by decide +kernel
theorem dX12_week_50 : decode cX12_week 50 = .ok (.iand, 1) := by decide +kernel
theorem dX12_week_51 : decode cX12_week 51 = .ok (.iconst 1, 1) := by decide +kernel
theorem dX12_week_52 : decode cX12_week 52 = .ok (.if_icmp .ne 23, 3) := by decide +kernel
theorem dX12_week_55 : decode cX12_week 55 = .ok (.aload_n 0, 1) := by decide +kernel
theorem dX12_week_56 : decode cX12_week 56 = .ok (.aload_n 0, 1) := by decide +kernel
theorem dX12_week_57 : decode cX12_week 57 = .ok (.aload_n 0, 1) := by decide +kernel
theorem dX12_week_58 : decode cX12_week 58 = .ok (.getfield 39, 3) := by decide +kernel
theorem dX12_week_61 : decode cX12_week 61 = .ok (.iconst 0, 1) := by decide +kernel
theorem dX12_week_62 : decode cX12_week 62 = .ok (.iload_n 1, 1) := by decide +kernel
theorem dX12_week_63 : decode cX12_week 63 = .ok (.iload_n 2, 1) := by decide +kernel
theorem dX12_week_64 : decode cX12_week 64 = .ok (.invokevirtual 143, 3) := by decide +kernel
theorem dX12_week_67 : decode cX12_week 67 = .ok (.iconst 2, 1) := by decide +kernel
theorem dX12_week_68 : decode cX12_week 68 = .ok (.idiv, 1) := by decide +kernel
theorem dX12_week_69 : decode cX12_week 69 = .ok (.invokevirtual 147, 3) := by decide +kernel
theorem dX12_week_72 : decode cX12_week 72 = .ok (.goto 4, 3) := by decide +kernel
theorem dX12_week_75 : decode cX12_week 75 = .ok (.iconst 0, 1) := by decide +kernel
theorem dX12_week_76 : decode cX12_week 76 = .ok (.istore_n 3, 1) := by decide +kernel
theorem dX12_week_77 : decode cX12_week 77 = .ok (.aload_n 0, 1) := by decide +kernel
theorem dX12_week_78 : decode cX12_week 78 = .ok (.getfield 32, 3) := by decide +kernel
theorem dX12_week_81 : decode cX12_week 81 = .ok (.bipush 6, 2) := by decide +kernel
theorem dX12_week_83 : decode cX12_week 83 = .ok (.iload_n 2, 1) := by decide +kernel
theorem dX12_week_84 : decode cX12_week 84 = .ok (.iadd, 1) := by decide +kernel
theorem dX12_week_85 : decode cX12_week 85 = .ok (.iload_n 3, 1) := by decide +kernel
theorem dX12_week_86 : decode cX12_week 86 = .ok (.ifCond .le 7, 3) := by decide +kernel
theorem dX12_week_89 : decode cX12_week 89 = .ok (.iload_n 3, 1) := by decide +kernel
theorem dX12_week_90 : decode cX12_week 90 = .ok (.goto 12, 3) := by decide +kernel
theorem dX12_week_93 : decode cX12_week 93 = .ok (.aload_n 0, 1) := by decide +kernel
theorem dX12_week_94 : decode cX12_week 94 = .ok (.getfield 32, 3) := by decide +kernel
theorem dX12_week_97 : decode cX12_week 97 = .ok (.bipush 6, 2) := by decide +kernel
theorem dX12_week_99 : decode cX12_week 99 = .ok (.iload_n 2, 1) := by decide +kernel
theorem dX12_week_100 : decode cX12_week 100 = .ok (.iadd, 1) := by decide +kernel
theorem dX12_week_101 : decode cX12_week 101 = .ok (.iaload, 1) := by decide +kernel
theorem dX12_week_102 : decode cX12_week 102 = .ok (.iastore, 1) := by decide +kernel
theorem dX12_week_103 : decode cX12_week 103 = .ok (.iinc 2 1, 3) := by decide +kernel
theorem dX12_week_106 : decode cX12_week 106 = .ok (.goto (-70), 3) := by decide +kernel
theorem dX12_week_109 : decode cX12_week 109 = .ok (.aload_n 0, 1) := by decide +kernel
theorem dX12_week_110 : decode cX12_week 110 = .ok (.aload_n 0, 1) := by decide +kernel
theorem dX12_week_111 : decode cX12_week 111 = .ok (.getfield 39, 3) := by decide +kernel
theorem dX12_week_114 : decode cX12_week 114 = .ok (.iconst 0, 1) := by decide +kernel
theorem dX12_week_115 : decode cX12_week 115 = .ok (.iconst 0, 1) := by decide +kernel
theorem dX12_week_116 : decode cX12_week 116 = .ok (.iload_n 1, 1) := by decide +kernel
theorem dX12_week_117 : decode cX12_week 117 = .ok (.invokevirtual 159, 3) := by decide +kernel
theorem dX12_week_120 : decode cX12_week 120 = .ok (.istore_n 2, 1) := by decide +kernel
theorem dX12_week_121 : decode cX12_week 121 = .ok (.iconst 0, 1) := by decide +kernel
theorem dX12_week_122 : decode cX12_week 122 = .ok (.istore_n 3, 1) := by decide +kernel
theorem dX12_week_123 : decode cX12_week 123 = .ok (.iload_n 3, 1) := by decide +kernel
theorem dX12_week_124 : decode cX12_week 124 = .ok (.aload_n 0, 1) := by decide +kernel
theorem dX12_week_125 : decode cX12_week 125 = .ok (.getfield 13, 3) := by decide +kernel
theorem dX12_week_128 : decode cX12_week 128 = .ok (.iconst 0, 1) := by decide +kernel
theorem dX12_week_129 : decode cX12_week 129 = .ok (.iaload, 1) := by decide +kernel
theorem dX12_week_130 : decode cX12_week 130 = .ok (.if_icmp .ge 23, 3) := by decide +kernel
theorem dX12_week_133 : decode cX12_week 133 = .ok (.aload_n 0, 1) := by decide +kernel
theorem dX12_week_134 : decode cX12_week 134 = .ok (.getfield 32, 3) := by decide +kernel
theorem dX12_week_137 : decode cX12_week 137 = .ok (.iconst 0, 1) := by decide +kernel
theorem dX12_week_138 : decode cX12_week 138 = .ok (.iload_n 3, 1) := by decide +kernel
theorem dX12_week_139 : decode cX12_week 139 = .ok (.iadd, 1) := by decide +kernel
theorem dX12_week_140 : decode cX12_week 140 = .ok (.aload_n 0, 1) := by decide +kernel
theorem dX12_week_141 : decode cX12_week 141 = .ok (.getfield 39, 3) := by decide +kernel
theorem dX12_week_144 : decode cX12_week 144 = .ok (.iload_n 3, 1) := by decide +kernel
theorem dX12_week_145 : decode cX12_week 145 = .ok (.iaload, 1) := by decide +kernel
theorem dX12_week_146 : decode cX12_week 146 = .ok (.iastore, 1) := by decide +kernel
theorem dX12_week_147 : decode cX12_week 147 = .ok (.iinc 3 1, 3) := by decide +kernel
theorem dX12_week_150 : decode cX12_week 150 = .ok (.goto (-27), 3) := by decide +kernel
theorem dX12_week_153 : decode cX12_week 153 = .ok (.aload_n 0, 1) := by decide +kernel
theorem dX12_week_154 : decode cX12_week 154 = .ok (.getfield 32, 3) := by decide +kernel
theorem dX12_week_157 : decode cX12_week 157 = .ok (.bipush 12, 2) := by decide +kernel
theorem dX12_week_159 : decode cX12_week 159 = .ok (.aload_n 0, 1) := by decide +kernel
theorem dX12_week_160 : decode cX12_week 160 = .ok (.getfield 32, 3) := by decide +kernel
theorem dX12_week_163 : decode cX12_week 163 = .ok (.bipush 12, 2) := by decide +kernel
theorem dX12_week_165 : decode cX12_week 165 = .ok (.iaload, 1) := by decide +kernel
theorem dX12_week_166 : decode cX12_week 166 = .ok (.iload_n 2, 1) := by decide +kernel
theorem dX12_week_167 : decode cX12_week 167 = .ok (.iadd, 1) := by decide +kernel
theorem dX12_week_168 : decode cX12_week 168 = .ok (.ldc 162, 2) := by decide +kernel
theorem dX12_week_170 : decode cX12_week 170 = .ok (.if_icmp .le 8, 3) := by decide +kernel
theorem dX12_week_173 : decode cX12_week 173 = .ok (.ldc 162, 2) := by decide +kernel
theorem dX12_week_175 : decode cX12_week 175 = .ok (.goto 12, 3) := by decide +kernel
theorem dX12_week_178 : decode cX12_week 178 = .ok (.aload_n 0, 1) := by decide +kernel
theorem dX12_week_179 : decode cX12_week 179 = .ok (.getfield 32, 3) := by decide +kernel
theorem dX12_week_182 : decode cX12_week 182 = .ok (.bipush 12, 2) := by decide +kernel
theorem dX12_week_184 : decode cX12_week 184 = .ok (.iaload, 1) := by decide +kernel
theorem dX12_week_185 : decode cX12_week 185 = .ok (.iload_n 2, 1) := by decide +kernel
theorem dX12_week_186 : decode cX12_week 186 = .ok (.iadd, 1) := by decide +kernel
theorem dX12_week_187 : decode cX12_week 187 = .ok (.iastore, 1) := by decide +kernel
theorem dX12_week_188 : decode cX12_week 188 = .ok (.aload_n 0, 1) := by decide +kernel
theorem dX12_week_189 : decode cX12_week 189 = .ok (.getfield 32, 3) := by decide +kernel
theorem dX12_week_192 : decode cX12_week 192 = .ok (.bipush 13, 2) := by decide +kernel
theorem dX12_week_194 : decode cX12_week 194 = .ok (.dup2, 1) := by decide +kernel
theorem dX12_week_195 : decode cX12_week 195 = .ok (.iaload, 1) := by decide +kernel
theorem dX12_week_196 : decode cX12_week 196 = .ok (.iconst 1, 1) := by decide +kernel
theorem dX12_week_197 : decode cX12_week 197 = .ok (.iadd, 1) := by decide +kernel
theorem dX12_week_198 : decode cX12_week 198 = .ok (.iastore, 1) := by decide +kernel
theorem dX12_week_199 : decode cX12_week 199 = .ok (.iload_n 2, 1) := by decide +kernel
theorem dX12_week_200 : decode cX12_week 200 = .ok (.ireturn, 1) := by decide +kernel
theorem dX12_quarrel_0 : decode cX12_quarrel 0 = .ok (.aload_n 0, 1) := by decide +kernel
theorem dX12_quarrel_1 : decode cX12_quarrel 1 = .ok (.iload_n 1, 1) := by decide +kernel
theorem dX12_quarrel_2 : decode cX12_quarrel 2 = .ok (.invokevirtual 136, 3) := by decide +kernel
theorem dX12_quarrel_5 : decode cX12_quarrel 5 = .ok (.ifCond .eq 26, 3) := by decide +kernel
theorem dX12_quarrel_8 : decode cX12_quarrel 8 = .ok (.aload_n 0, 1) := by decide +kernel
theorem dX12_quarrel_9 : decode cX12_quarrel 9 = .ok (.iload_n 2, 1) := by decide +kernel
theorem dX12_quarrel_10 : decode cX12_quarrel 10 = .ok (.invokevirtual 136, 3) := by decide +kernel
theorem dX12_quarrel_13 : decode cX12_quarrel 13 = .ok (.ifCond .eq 18, 3) := by decide +kernel
theorem dX12_quarrel_16 : decode cX12_quarrel 16 = .ok (.iload_n 1, 1) := by decide +kernel
theorem dX12_quarrel_17 : decode cX12_quarrel 17 = .ok (.iload_n 2, 1) := by decide +kernel
theorem dX12_quarrel_18 : decode cX12_quarrel 18 = .ok (.if_icmp .eq 13, 3) := by decide +kernel
theorem dX12_quarrel_21 : decode cX12_quarrel 21 = .ok (.iload_n 3, 1) := by decide +kernel
theorem dX12_quarrel_22 : decode cX12_quarrel 22 = .ok (.iconst 1, 1) := by decide +kernel
theorem dX12_quarrel_23 : decode cX12_quarrel 23 = .ok (.bipush 50, 2) := by decide +kernel
theorem dX12_quarrel_25 : decode cX12_quarrel 25 = .ok (.invokestatic 69, 3) := by decide +kernel
theorem dX12_quarrel_28 : decode cX12_quarrel 28 = .ok (.ifCond .ne 5, 3) := by decide +kernel
theorem dX12_quarrel_31 : decode cX12_quarrel 31 = .ok (.iconst (-1), 1) := by decide +kernel
theorem dX12_quarrel_32 : decode cX12_quarrel 32 = .ok (.ireturn, 1) := by decide +kernel
theorem dX12_quarrel_33 : decode cX12_quarrel 33 = .ok (.aload_n 0, 1) := by decide +kernel
theorem dX12_quarrel_34 : decode cX12_quarrel 34 = .ok (.invokevirtual 153, 3) := by decide +kernel
theorem dX12_quarrel_37 : decode cX12_quarrel 37 = .ok (.aload_n 0, 1) := by decide +kernel
theorem dX12_quarrel_38 : decode cX12_quarrel 38 = .ok (.getfield 32, 3) := by decide +kernel
theorem dX12_quarrel_41 : decode cX12_quarrel 41 = .ok (.iconst 0, 1) := by decide +kernel
theorem dX12_quarrel_42 : decode cX12_quarrel 42 = .ok (.iload_n 1, 1) := by decide +kernel
theorem dX12_quarrel_43 : decode cX12_quarrel 43 = .ok (.iadd, 1) := by decide +kernel
theorem dX12_quarrel_44 : decode cX12_quarrel 44 = .ok (.aload_n 0, 1) := by decide +kernel
theorem dX12_quarrel_45 : decode cX12_quarrel 45 = .ok (.getfield 32, 3) := by decide +kernel
theorem dX12_quarrel_48 : decode cX12_quarrel 48 = .ok (.iconst 0, 1) := by decide +kernel
theorem dX12_quarrel_49 : decode cX12_quarrel 49 = .ok (.iload_n 1, 1) := by decide +kernel
theorem dX12_quarrel_50 : decode cX12_quarrel 50 = .ok (.iadd, 1) := by decide +kernel
theorem dX12_quarrel_51 : decode cX12_quarrel 51 = .ok (.iaload, 1) := by decide +kernel
theorem dX12_quarrel_52 : decode cX12_quarrel 52 = .ok (.iload_n 3, 1) := by decide +kernel
theorem dX12_quarrel_53 : decode cX12_quarrel 53 = .ok (.iadd, 1) := by decide +kernel
theorem dX12_quarrel_54 : decode cX12_quarrel 54 = .ok (.invokestatic 140, 3) := by decide +kernel
theorem dX12_quarrel_57 : decode cX12_quarrel 57 = .ok (.iastore, 1) := by decide +kernel
theorem dX12_quarrel_58 : decode cX12_quarrel 58 = .ok (.aload_n 0, 1) := by decide +kernel
theorem dX12_quarrel_59 : decode cX12_quarrel 59 = .ok (.getfield 32, 3) := by decide +kernel
theorem dX12_quarrel_62 : decode cX12_quarrel 62 = .ok (.iconst 0, 1) := by decide +kernel
theorem dX12_quarrel_63 : decode cX12_quarrel 63 = .ok (.iload_n 2, 1) := by decide +kernel
theorem dX12_quarrel_64 : decode cX12_quarrel 64 = .ok (.iadd, 1) := by decide +kernel
theorem dX12_quarrel_65 : decode cX12_quarrel 65 = .ok (.aload_n 0, 1) := by decide +kernel
theorem dX12_quarrel_66 : decode cX12_quarrel 66 = .ok (.getfield 32, 3) := by decide +kernel
theorem dX12_quarrel_69 : decode cX12_quarrel 69 = .ok (.iconst 0, 1) := by decide +kernel
theorem dX12_quarrel_70 : decode cX12_quarrel 70 = .ok (.iload_n 2, 1) := by decide +kernel
theorem dX12_quarrel_71 : decode cX12_quarrel 71 = .ok (.iadd, 1) := by decide +kernel
theorem dX12_quarrel_72 : decode cX12_quarrel 72 = .ok (.iaload, 1) := by decide +kernel
theorem dX12_quarrel_73 : decode cX12_quarrel 73 = .ok (.iload_n 3, 1) := by decide +kernel
theorem dX12_quarrel_74 : decode cX12_quarrel 74 = .ok (.iadd, 1) := by decide +kernel
theorem dX12_quarrel_75 : decode cX12_quarrel 75 = .ok (.invokestatic 140, 3) := by decide +kernel
theorem dX12_quarrel_78 : decode cX12_quarrel 78 = .ok (.iastore, 1) := by decide +kernel
theorem dX12_quarrel_79 : decode cX12_quarrel 79 = .ok (.aload_n 0, 1) := by decide +kernel
theorem dX12_quarrel_80 : decode cX12_quarrel 80 = .ok (.getfield 32, 3) := by decide +kernel
theorem dX12_quarrel_83 : decode cX12_quarrel 83 = .ok (.iconst 0, 1) := by decide +kernel
theorem dX12_quarrel_84 : decode cX12_quarrel 84 = .ok (.iload_n 1, 1) := by decide +kernel
theorem dX12_quarrel_85 : decode cX12_quarrel 85 = .ok (.iadd, 1) := by decide +kernel
theorem dX12_quarrel_86 : decode cX12_quarrel 86 = .ok (.iaload, 1) := by decide +kernel
theorem dX12_quarrel_87 : decode cX12_quarrel 87 = .ok (.ireturn, 1) := by decide +kernel
theorem dX12_forgives_0 : decode cX12_forgives 0 = .ok (.aload_n 0, 1) := by decide +kernel
theorem dX12_forgives_1 : decode cX12_forgives 1 = .ok (.iload_n 1, 1) := by decide +kernel
theorem dX12_forgives_2 : decode cX12_forgives 2 = .ok (.invokevirtual 136, 3) := by decide +kernel
theorem dX12_forgives_5 : decode cX12_forgives 5 = .ok (.ifCond .ne 5, 3) := by decide +kernel
theorem dX12_forgives_8 : decode cX12_forgives 8 = .ok (.iconst (-1), 1) := by decide +kernel
theorem dX12_forgives_9 : decode cX12_forgives 9 = .ok (.ireturn, 1) := by decide +kernel
theorem dX12_forgives_10 : decode cX12_forgives 10 = .ok (.aload_n 0, 1) := by decide +kernel
theorem dX12_forgives_11 : decode cX12_forgives 11 = .ok (.invokevirtual 153, 3) := by decide +kernel
theorem dX12_forgives_14 : decode cX12_forgives 14 = .ok (.aload_n 0, 1) := by decide +kernel
theorem dX12_forgives_15 : decode cX12_forgives 15 = .ok (.getfield 32, 3) := by decide +kernel
theorem dX12_forgives_18 : decode cX12_forgives 18 = .ok (.iconst 0, 1) := by decide +kernel
theorem dX12_forgives_19 : decode cX12_forgives 19 = .ok (.iload_n 1, 1) := by decide +kernel
theorem dX12_forgives_20 : decode cX12_forgives 20 = .ok (.iadd, 1) := by decide +kernel
theorem dX12_forgives_21 : decode cX12_forgives 21 = .ok (.iaload, 1) := by decide +kernel
theorem dX12_forgives_22 : decode cX12_forgives 22 = .ok (.istore_n 2, 1) := by decide +kernel
theorem dX12_forgives_23 : decode cX12_forgives 23 = .ok (.aload_n 0, 1) := by decide +kernel
theorem dX12_forgives_24 : decode cX12_forgives 24 = .ok (.getfield 32, 3) := by decide +kernel
theorem dX12_forgives_27 : decode cX12_forgives 27 = .ok (.iconst 0, 1) := by decide +kernel
theorem dX12_forgives_28 : decode cX12_forgives 28 = .ok (.iload_n 1, 1) := by decide +kernel
theorem dX12_forgives_29 : decode cX12_forgives 29 = .ok (.iadd, 1) := by decide +kernel
theorem dX12_forgives_30 : decode cX12_forgives 30 = .ok (.iconst 0, 1) := by decide +kernel
theorem dX12_forgives_31 : decode cX12_forgives 31 = .ok (.iastore, 1) := by decide +kernel
theorem dX12_forgives_32 : decode cX12_forgives 32 = .ok (.iload_n 2, 1) := by decide +kernel
theorem dX12_forgives_33 : decode cX12_forgives 33 = .ok (.ireturn, 1) := by decide +kernel
theorem dX12_buys_0 : decode cX12_buys 0 = .ok (.aload_n 0, 1) := by decide +kernel
theorem dX12_buys_1 : decode cX12_buys 1 = .ok (.iload_n 1, 1) := by decide +kernel
theorem dX12_buys_2 : decode cX12_buys 2 = .ok (.invokevirtual 136, 3) := by decide +kernel
theorem dX12_buys_5 : decode cX12_buys 5 = .ok (.ifCond .ne 5, 3) := by decide +kernel
theorem dX12_buys_8 : decode cX12_buys 8 = .ok (.iconst (-1), 1) := by decide +kernel
theorem dX12_buys_9 : decode cX12_buys 9 = .ok (.ireturn, 1) := by decide +kernel
theorem dX12_buys_10 : decode cX12_buys 10 = .ok (.aload_n 0, 1) := by decide +kernel
theorem dX12_buys_11 : decode cX12_buys 11 = .ok (.getfield 32, 3) := by decide +kernel
theorem dX12_buys_14 : decode cX12_buys 14 = .ok (.bipush 6, 2) := by decide +kernel
theorem dX12_buys_16 : decode cX12_buys 16 = .ok (.iload_n 1, 1) := by decide +kernel
theorem dX12_buys_17 : decode cX12_buys 17 = .ok (.iadd, 1) := by decide +kernel
theorem dX12_buys_18 : decode cX12_buys 18 = .ok (.iaload, 1) := by decide +kernel
theorem dX12_buys_19 : decode cX12_buys 19 = .ok (.istore_n 2, 1) := by decide +kernel
theorem dX12_buys_20 : decode cX12_buys 20 = .ok (.iload_n 2, 1) := by decide +kernel
theorem dX12_buys_21 : decode cX12_buys 21 = .ok (.ifCond .eq 19, 3) := by decide +kernel
theorem dX12_buys_24 : decode cX12_buys 24 = .ok (.aload_n 0, 1) := by decide +kernel
theorem dX12_buys_25 : decode cX12_buys 25 = .ok (.getfield 32, 3) := by decide +kernel
theorem dX12_buys_28 : decode cX12_buys 28 = .ok (.iconst 0, 1) := by decide +kernel
theorem dX12_buys_29 : decode cX12_buys 29 = .ok (.iload_n 1, 1) := by decide +kernel
theorem dX12_buys_30 : decode cX12_buys 30 = .ok (.iadd, 1) := by decide +kernel
theorem dX12_buys_31 : decode cX12_buys 31 = .ok (.iaload, 1) := by decide +kernel
theorem dX12_buys_32 : decode cX12_buys 32 = .ok (.iload_n 2, 1) := by decide +kernel
theorem dX12_buys_33 : decode cX12_buys 33 = .ok (.iadd, 1) := by decide +kernel
theorem dX12_buys_34 : decode cX12_buys 34 = .ok (.sipush 999, 3) := by decide +kernel
theorem dX12_buys_37 : decode cX12_buys 37 = .ok (.if_icmp .le 6, 3) := by decide +kernel
theorem dX12_buys_40 : decode cX12_buys 40 = .ok (.bipush (-2), 2) := by decide +kernel
theorem dX12_buys_42 : decode cX12_buys 42 = .ok (.ireturn, 1) := by decide +kernel
theorem dX12_buys_43 : decode cX12_buys 43 = .ok (.aload_n 0, 1) := by decide +kernel
theorem dX12_buys_44 : decode cX12_buys 44 = .ok (.invokevirtual 153, 3) := by decide +kernel
theorem dX12_buys_47 : decode cX12_buys 47 = .ok (.aload_n 0, 1) := by decide +kernel
theorem dX12_buys_48 : decode cX12_buys 48 = .ok (.getfield 32, 3) := by decide +kernel
theorem dX12_buys_51 : decode cX12_buys 51 = .ok (.iconst 0, 1) := by decide +kernel
theorem dX12_buys_52 : decode cX12_buys 52 = .ok (.iload_n 1, 1) := by decide +kernel
theorem dX12_buys_53 : decode cX12_buys 53 = .ok (.iadd, 1) := by decide +kernel
theorem dX12_buys_54 : decode cX12_buys 54 = .ok (.dup2, 1) := by decide +kernel
theorem dX12_buys_55 : decode cX12_buys 55 = .ok (.iaload, 1) := by decide +kernel
theorem dX12_buys_56 : decode cX12_buys 56 = .ok (.iload_n 2, 1) := by decide +kernel
theorem dX12_buys_57 : decode cX12_buys 57 = .ok (.iadd, 1) := by decide +kernel
theorem dX12_buys_58 : decode cX12_buys 58 = .ok (.iastore, 1) := by decide +kernel
theorem dX12_buys_59 : decode cX12_buys 59 = .ok (.aload_n 0, 1) := by decide +kernel
theorem dX12_buys_60 : decode cX12_buys 60 = .ok (.getfield 32, 3) := by decide +kernel
theorem dX12_buys_63 : decode cX12_buys 63 = .ok (.bipush 6, 2) := by decide +kernel
theorem dX12_buys_65 : decode cX12_buys 65 = .ok (.iload_n 1, 1) := by decide +kernel
theorem dX12_buys_66 : decode cX12_buys 66 = .ok (.iadd, 1) := by decide +kernel
theorem dX12_buys_67 : decode cX12_buys 67 = .ok (.iconst 0, 1) := by decide +kernel
theorem dX12_buys_68 : decode cX12_buys 68 = .ok (.iastore, 1) := by decide +kernel
theorem dX12_buys_69 : decode cX12_buys 69 = .ok (.aload_n 0, 1) := by decide +kernel
theorem dX12_buys_70 : decode cX12_buys 70 = .ok (.getfield 32, 3) := by decide +kernel
theorem dX12_buys_73 : decode cX12_buys 73 = .ok (.bipush 12, 2) := by decide +kernel
theorem dX12_buys_75 : decode cX12_buys 75 = .ok (.dup2, 1) := by decide +kernel
theorem dX12_buys_76 : decode cX12_buys 76 = .ok (.iaload, 1) := by decide +kernel
theorem dX12_buys_77 : decode cX12_buys 77 = .ok (.iload_n 2, 1) := by decide +kernel
theorem dX12_buys_78 : decode cX12_buys 78 = .ok (.isub, 1) := by decide +kernel
theorem dX12_buys_79 : decode cX12_buys 79 = .ok (.iastore, 1) := by decide +kernel
theorem dX12_buys_80 : decode cX12_buys 80 = .ok (.iload_n 2, 1) := by decide +kernel
theorem dX12_buys_81 : decode cX12_buys 81 = .ok (.ireturn, 1) := by decide +kernel
theorem dX12_undo_0 : decode cX12_undo 0 = .ok (.aload_n 0, 1) := by decide +kernel
theorem dX12_undo_1 : decode cX12_undo 1 = .ok (.getfield 32, 3) := by decide +kernel
theorem dX12_undo_4 : decode cX12_undo 4 = .ok (.bipush 14, 2) := by decide +kernel
theorem dX12_undo_6 : decode cX12_undo 6 = .ok (.iaload, 1) := by decide +kernel
theorem dX12_undo_7 : decode cX12_undo 7 = .ok (.ifCond .ne 6, 3) := by decide +kernel
theorem dX12_undo_10 : decode cX12_undo 10 = .ok (.bipush (-2), 2) := by decide +kernel
theorem dX12_undo_12 : decode cX12_undo 12 = .ok (.ireturn, 1) := by decide +kernel
theorem dX12_undo_13 : decode cX12_undo 13 = .ok (.aload_n 0, 1) := by decide +kernel
theorem dX12_undo_14 : decode cX12_undo 14 = .ok (.getfield 32, 3) := by decide +kernel
theorem dX12_undo_17 : decode cX12_undo 17 = .ok (.bipush 14, 2) := by decide +kernel
theorem dX12_undo_19 : decode cX12_undo 19 = .ok (.dup2, 1) := by decide +kernel
theorem dX12_undo_20 : decode cX12_undo 20 = .ok (.iaload, 1) := by decide +kernel
theorem dX12_undo_21 : decode cX12_undo 21 = .ok (.iconst 1, 1) := by decide +kernel
theorem dX12_undo_22 : decode cX12_undo 22 = .ok (.isub, 1) := by decide +kernel
theorem dX12_undo_23 : decode cX12_undo 23 = .ok (.iastore, 1) := by decide +kernel
theorem dX12_undo_24 : decode cX12_undo 24 = .ok (.iconst 0, 1) := by decide +kernel
theorem dX12_undo_25 : decode cX12_undo 25 = .ok (.istore_n 1, 1) := by decide +kernel
theorem dX12_undo_26 : decode cX12_undo 26 = .ok (.iload_n 1, 1) := by decide +kernel
theorem dX12_undo_27 : decode cX12_undo 27 = .ok (.bipush 14, 2) := by decide +kernel
theorem dX12_undo_29 : decode cX12_undo 29 = .ok (.if_icmp .ge 35, 3) := by decide +kernel
theorem dX12_undo_32 : decode cX12_undo 32 = .ok (.aload_n 0, 1) := by decide +kernel
theorem dX12_undo_33 : decode cX12_undo 33 = .ok (.getfield 32, 3) := by decide +kernel
theorem dX12_undo_36 : decode cX12_undo 36 = .ok (.iload_n 1, 1) := by decide +kernel
theorem dX12_undo_37 : decode cX12_undo 37 = .ok (.aload_n 0, 1) := by decide +kernel
theorem dX12_undo_38 : decode cX12_undo 38 = .ok (.getfield 32, 3) := by decide +kernel
theorem dX12_undo_41 : decode cX12_undo 41 = .ok (.bipush 15, 2) := by decide +kernel
theorem dX12_undo_43 : decode cX12_undo 43 = .ok (.bipush 14, 2) := by decide +kernel
theorem dX12_undo_45 : decode cX12_undo 45 = .ok (.aload_n 0, 1) := by decide +kernel
theorem dX12_undo_46 : decode cX12_undo 46 = .ok (.getfield 32, 3) := by decide +kernel
theorem dX12_undo_49 : decode cX12_undo 49 = .ok (.bipush 14, 2) := by decide +kernel
theorem dX12_undo_51 : decode cX12_undo 51 = .ok (.iaload, 1) := by decide +kernel
theorem dX12_undo_52 : decode cX12_undo 52 = .ok (.imul, 1) := by decide +kernel
theorem dX12_undo_53 : decode cX12_undo 53 = .ok (.iadd, 1) := by decide +kernel
theorem dX12_undo_54 : decode cX12_undo 54 = .ok (.iload_n 1, 1) := by decide +kernel
theorem dX12_undo_55 : decode cX12_undo 55 = .ok (.iadd, 1) := by decide +kernel
theorem dX12_undo_56 : decode cX12_undo 56 = .ok (.iaload, 1) := by decide +kernel
theorem dX12_undo_57 : decode cX12_undo 57 = .ok (.iastore, 1) := by decide +kernel
theorem dX12_undo_58 : decode cX12_undo 58 = .ok (.iinc 1 1, 3) := by decide +kernel
theorem dX12_undo_61 : decode cX12_undo 61 = .ok (.goto (-35), 3) := by decide +kernel
theorem dX12_undo_64 : decode cX12_undo 64 = .ok (.aload_n 0, 1) := by decide +kernel
theorem dX12_undo_65 : decode cX12_undo 65 = .ok (.getfield 32, 3) := by decide +kernel
theorem dX12_undo_68 : decode cX12_undo 68 = .ok (.bipush 14, 2) := by decide +kernel
theorem dX12_undo_70 : decode cX12_undo 70 = .ok (.iaload, 1) := by decide +kernel
theorem dX12_undo_71 : decode cX12_undo 71 = .ok (.ireturn, 1) := by decide +kernel
theorem dX12_now_0 : decode cX12_now 0 = .ok (.iconst 0, 1) := by decide +kernel
theorem dX12_now_1 : decode cX12_now 1 = .ok (.istore_n 2, 1) := by decide +kernel
theorem dX12_now_2 : decode cX12_now 2 = .ok (.iconst 0, 1) := by decide +kernel
theorem dX12_now_3 : decode cX12_now 3 = .ok (.istore_n 3, 1) := by decide +kernel
theorem dX12_now_4 : decode cX12_now 4 = .ok (.iconst (-1), 1) := by decide +kernel
theorem dX12_now_5 : decode cX12_now 5 = .ok (.istore 4, 2) := by decide +kernel
theorem dX12_now_7 : decode cX12_now 7 = .ok (.iconst 0, 1) := by decide +kernel
theorem dX12_now_8 : decode cX12_now 8 = .ok (.istore 5, 2) := by decide +kernel
theorem dX12_now_10 : decode cX12_now 10 = .ok (.iload 5, 2) := by decide +kernel
theorem dX12_now_12 : decode cX12_now 12 = .ok (.aload_n 0, 1) := by decide +kernel
theorem dX12_now_13 : decode cX12_now 13 = .ok (.getfield 13, 3) := by decide +kernel
theorem dX12_now_16 : decode cX12_now 16 = .ok (.iconst 0, 1) := by decide +kernel
theorem dX12_now_17 : decode cX12_now 17 = .ok (.iaload, 1) := by decide +kernel
theorem dX12_now_18 : decode cX12_now 18 = .ok (.if_icmp .ge 68, 3) := by decide +kernel
theorem dX12_now_21 : decode cX12_now 21 = .ok (.iload_n 2, 1) := by decide +kernel
theorem dX12_now_22 : decode cX12_now 22 = .ok (.aload_n 0, 1) := by decide +kernel
theorem dX12_now_23 : decode cX12_now 23 = .ok (.getfield 32, 3) := by decide +kernel
theorem dX12_now_26 : decode cX12_now 26 = .ok (.iconst 0, 1) := by decide +kernel
theorem dX12_now_27 : decode cX12_now 27 = .ok (.iload 5, 2) := by decide +kernel
theorem dX12_now_29 : decode cX12_now 29 = .ok (.iadd, 1) := by decide +kernel
theorem dX12_now_30 : decode cX12_now 30 = .ok (.iaload, 1) := by decide +kernel
theorem dX12_now_31 : decode cX12_now 31 = .ok (.iadd, 1) := by decide +kernel
theorem dX12_now_32 : decode cX12_now 32 = .ok (.istore_n 2, 1) := by decide +kernel
theorem dX12_now_33 : decode cX12_now 33 = .ok (.iload_n 3, 1) := by decide +kernel
theorem dX12_now_34 : decode cX12_now 34 = .ok (.aload_n 0, 1) := by decide +kernel
theorem dX12_now_35 : decode cX12_now 35 = .ok (.getfield 32, 3) := by decide +kernel
theorem dX12_now_38 : decode cX12_now 38 = .ok (.bipush 6, 2) := by decide +kernel
theorem dX12_now_40 : decode cX12_now 40 = .ok (.iload 5, 2) := by decide +kernel
theorem dX12_now_42 : decode cX12_now 42 = .ok (.iadd, 1) := by decide +kernel
theorem dX12_now_43 : decode cX12_now 43 = .ok (.iaload, 1) := by decide +kernel
theorem dX12_now_44 : decode cX12_now 44 = .ok (.iadd, 1) := by decide +kernel
theorem dX12_now_45 : decode cX12_now 45 = .ok (.istore_n 3, 1) := by decide +kernel
theorem dX12_now_46 : decode cX12_now 46 = .ok (.aload_n 0, 1) := by decide +kernel
theorem dX12_now_47 : decode cX12_now 47 = .ok (.getfield 32, 3) := by decide +kernel
theorem dX12_now_50 : decode cX12_now 50 = .ok (.iconst 0, 1) := by decide +kernel
theorem dX12_now_51 : decode cX12_now 51 = .ok (.iload 5, 2) := by decide +kernel
theorem dX12_now_53 : decode cX12_now 53 = .ok (.iadd, 1) := by decide +kernel
theorem dX12_now_54 : decode cX12_now 54 = .ok (.iaload, 1) := by decide +kernel
theorem dX12_now_55 : decode cX12_now 55 = .ok (.iconst 2, 1) := by decide +kernel
theorem dX12_now_56 : decode cX12_now 56 = .ok (.idiv, 1) := by decide +kernel
theorem dX12_now_57 : decode cX12_now 57 = .ok (.iload 4, 2) := by decide +kernel
theorem dX12_now_59 : decode cX12_now 59 = .ok (.if_icmp .le 17, 3) := by decide +kernel
theorem dX12_now_62 : decode cX12_now 62 = .ok (.aload_n 0, 1) := by decide +kernel
theorem dX12_now_63 : decode cX12_now 63 = .ok (.getfield 32, 3) := by decide +kernel
theorem dX12_now_66 : decode cX12_now 66 = .ok (.iconst 0, 1) := by decide +kernel
theorem dX12_now_67 : decode cX12_now 67 = .ok (.iload 5, 2) := by decide +kernel
theorem dX12_now_69 : decode cX12_now 69 = .ok (.iadd, 1) := by decide +kernel
theorem dX12_now_70 : decode cX12_now 70 = .ok (.iaload, 1) := by decide +kernel
theorem dX12_now_71 : decode cX12_now 71 = .ok (.iconst 2, 1) := by decide +kernel
theorem dX12_now_72 : decode cX12_now 72 = .ok (.idiv, 1) := by decide +kernel
theorem dX12_now_73 : decode cX12_now 73 = .ok (.goto 5, 3) := by decide +kernel
theorem dX12_now_76 : decode cX12_now 76 = .ok (.iload 4, 2) := by decide +kernel
theorem dX12_now_78 : decode cX12_now 78 = .ok (.istore 4, 2) := by decide +kernel
theorem dX12_now_80 : decode cX12_now 80 = .ok (.iinc 5 1, 3) := by decide +kernel
theorem dX12_now_83 : decode cX12_now 83 = .ok (.goto (-73), 3) := by decide +kernel
theorem dX12_now_86 : decode cX12_now 86 = .ok (.iload_n 1, 1) := by decide +kernel
theorem dX12_now_87 : decode cX12_now 87 = .ok (.tableswitch 58 0 4 #[33, 41, 49, 51, 53], 33) := by decide +kernel
theorem dX12_now_120 : decode cX12_now 120 = .ok (.aload_n 0, 1) := by decide +kernel
theorem dX12_now_121 : decode cX12_now 121 = .ok (.getfield 32, 3) := by decide +kernel
theorem dX12_now_124 : decode cX12_now 124 = .ok (.bipush 13, 2) := by decide +kernel
theorem dX12_now_126 : decode cX12_now 126 = .ok (.iaload, 1) := by decide +kernel
theorem dX12_now_127 : decode cX12_now 127 = .ok (.ireturn, 1) := by decide +kernel
theorem dX12_now_128 : decode cX12_now 128 = .ok (.aload_n 0, 1) := by decide +kernel
theorem dX12_now_129 : decode cX12_now 129 = .ok (.getfield 32, 3) := by decide +kernel
theorem dX12_now_132 : decode cX12_now 132 = .ok (.bipush 12, 2) := by decide +kernel
theorem dX12_now_134 : decode cX12_now 134 = .ok (.iaload, 1) := by decide +kernel
theorem dX12_now_135 : decode cX12_now 135 = .ok (.ireturn, 1) := by decide +kernel
theorem dX12_now_136 : decode cX12_now 136 = .ok (.iload_n 2, 1) := by decide +kernel
theorem dX12_now_137 : decode cX12_now 137 = .ok (.ireturn, 1) := by decide +kernel
theorem dX12_now_138 : decode cX12_now 138 = .ok (.iload_n 3, 1) := by decide +kernel
theorem dX12_now_139 : decode cX12_now 139 = .ok (.ireturn, 1) := by decide +kernel
theorem dX12_now_140 : decode cX12_now 140 = .ok (.iload 4, 2) := by decide +kernel
theorem dX12_now_142 : decode cX12_now 142 = .ok (.iconst 1, 1) := by decide +kernel
theorem dX12_now_143 : decode cX12_now 143 = .ok (.iadd, 1) := by decide +kernel
theorem dX12_now_144 : decode cX12_now 144 = .ok (.ireturn, 1) := by decide +kernel
theorem dX12_now_145 : decode cX12_now 145 = .ok (.iconst (-1), 1) := by decide +kernel
theorem dX12_now_146 : decode cX12_now 146 = .ok (.ireturn, 1) := by decide +kernel
theorem dX12_yieldOf_0 : decode cX12_yieldOf 0 = .ok (.aload_n 0, 1) := by decide +kernel
theorem dX12_yieldOf_1 : decode cX12_yieldOf 1 = .ok (.iload_n 1, 1) := by decide +kernel
theorem dX12_yieldOf_2 : decode cX12_yieldOf 2 = .ok (.invokevirtual 150, 3) := by decide +kernel
theorem dX12_yieldOf_5 : decode cX12_yieldOf 5 = .ok (.ifCond .ne 5, 3) := by decide +kernel
theorem dX12_yieldOf_8 : decode cX12_yieldOf 8 = .ok (.iconst (-1), 1) := by decide +kernel
theorem dX12_yieldOf_9 : decode cX12_yieldOf 9 = .ok (.ireturn, 1) := by decide +kernel
theorem dX12_yieldOf_10 : decode cX12_yieldOf 10 = .ok (.aload_n 0, 1) := by decide +kernel
theorem dX12_yieldOf_11 : decode cX12_yieldOf 11 = .ok (.invokevirtual 156, 3) := by decide +kernel
theorem dX12_yieldOf_14 : decode cX12_yieldOf 14 = .ok (.aload_n 0, 1) := by decide +kernel
theorem dX12_yieldOf_15 : decode cX12_yieldOf 15 = .ok (.aload_n 0, 1) := by decide +kernel
theorem dX12_yieldOf_16 : decode cX12_yieldOf 16 = .ok (.getfield 39, 3) := by decide +kernel
theorem dX12_yieldOf_19 : decode cX12_yieldOf 19 = .ok (.iconst 0, 1) := by decide +kernel
theorem dX12_yieldOf_20 : decode cX12_yieldOf 20 = .ok (.iconst 0, 1) := by decide +kernel
theorem dX12_yieldOf_21 : decode cX12_yieldOf 21 = .ok (.iload_n 1, 1) := by decide +kernel
theorem dX12_yieldOf_22 : decode cX12_yieldOf 22 = .ok (.invokevirtual 159, 3) := by decide +kernel
theorem dX12_yieldOf_25 : decode cX12_yieldOf 25 = .ok (.ireturn, 1) := by decide +kernel
theorem dX12_best_0 : decode cX12_best 0 = .ok (.iload_n 1, 1) := by decide +kernel
theorem dX12_best_1 : decode cX12_best 1 = .ok (.iconst 0, 1) := by decide +kernel
theorem dX12_best_2 : decode cX12_best 2 = .ok (.iconst 1, 1) := by decide +kernel
theorem dX12_best_3 : decode cX12_best 3 = .ok (.invokestatic 69, 3) := by decide +kernel
theorem dX12_best_6 : decode cX12_best 6 = .ok (.ifCond .ne 5, 3) := by decide +kernel
theorem dX12_best_9 : decode cX12_best 9 = .ok (.iconst (-1), 1) := by decide +kernel
theorem dX12_best_10 : decode cX12_best 10 = .ok (.ireturn, 1) := by decide +kernel
theorem dX12_best_11 : decode cX12_best 11 = .ok (.iconst 0, 1) := by decide +kernel
theorem dX12_best_12 : decode cX12_best 12 = .ok (.istore_n 2, 1) := by decide +kernel
theorem dX12_best_13 : decode cX12_best 13 = .ok (.iconst 0, 1) := by decide +kernel
theorem dX12_best_14 : decode cX12_best 14 = .ok (.istore_n 3, 1) := by decide +kernel
theorem dX12_best_15 : decode cX12_best 15 = .ok (.iconst 0, 1) := by decide +kernel
theorem dX12_best_16 : decode cX12_best 16 = .ok (.istore 4, 2) := by decide +kernel
theorem dX12_best_18 : decode cX12_best 18 = .ok (.iload 4, 2) := by decide +kernel
theorem dX12_best_20 : decode cX12_best 20 = .ok (.iconst 1, 1) := by decide +kernel
theorem dX12_best_21 : decode cX12_best 21 = .ok (.aload_n 0, 1) := by decide +kernel
theorem dX12_best_22 : decode cX12_best 22 = .ok (.getfield 13, 3) := by decide +kernel
theorem dX12_best_25 : decode cX12_best 25 = .ok (.iconst 0, 1) := by decide +kernel
theorem dX12_best_26 : decode cX12_best 26 = .ok (.iaload, 1) := by decide +kernel
theorem dX12_best_27 : decode cX12_best 27 = .ok (.ishl, 1) := by decide +kernel
theorem dX12_best_28 : decode cX12_best 28 = .ok (.if_icmp .ge 42, 3) := by decide +kernel
theorem dX12_best_31 : decode cX12_best 31 = .ok (.aload_n 0, 1) := by decide +kernel
theorem dX12_best_32 : decode cX12_best 32 = .ok (.iload 4, 2) := by decide +kernel
theorem dX12_best_34 : decode cX12_best 34 = .ok (.invokevirtual 150, 3) := by decide +kernel
theorem dX12_best_37 : decode cX12_best 37 = .ok (.ifCond .eq 12, 3) := by decide +kernel
theorem dX12_best_40 : decode cX12_best 40 = .ok (.aload_n 0, 1) := by decide +kernel
theorem dX12_best_41 : decode cX12_best 41 = .ok (.iload 4, 2) := by decide +kernel
theorem dX12_best_43 : decode cX12_best 43 = .ok (.invokevirtual 163, 3) := by decide +kernel
theorem dX12_best_46 : decode cX12_best 46 = .ok (.goto 4, 3) := by decide +kernel
theorem dX12_best_49 : decode cX12_best 49 = .ok (.iconst 0, 1) := by decide +kernel
theorem dX12_best_50 : decode cX12_best 50 = .ok (.istore 5, 2) := by decide +kernel
theorem dX12_best_52 : decode cX12_best 52 = .ok (.iload 5, 2) := by decide +kernel
theorem dX12_best_54 : decode cX12_best 54 = .ok (.iload_n 3, 1) := by decide +kernel
theorem dX12_best_55 : decode cX12_best 55 = .ok (.if_icmp .le 9, 3) := by decide +kernel
theorem dX12_best_58 : decode cX12_best 58 = .ok (.iload 4, 2) := by decide +kernel
theorem dX12_best_60 : decode cX12_best 60 = .ok (.istore_n 2, 1) := by decide +kernel
theorem dX12_best_61 : decode cX12_best 61 = .ok (.iload 5, 2) := by decide +kernel
theorem dX12_best_63 : decode cX12_best 63 = .ok (.istore_n 3, 1) := by decide +kernel
theorem dX12_best_64 : decode cX12_best 64 = .ok (.iinc 4 1, 3) := by decide +kernel
theorem dX12_best_67 : decode cX12_best 67 = .ok (.goto (-49), 3) := by decide +kernel
theorem dX12_best_70 : decode cX12_best 70 = .ok (.iload_n 1, 1) := by decide +kernel
theorem dX12_best_71 : decode cX12_best 71 = .ok (.ifCond .ne 7, 3) := by decide +kernel
theorem dX12_best_74 : decode cX12_best 74 = .ok (.iload_n 2, 1) := by decide +kernel
theorem dX12_best_75 : decode cX12_best 75 = .ok (.goto 4, 3) := by decide +kernel
theorem dX12_best_78 : decode cX12_best 78 = .ok (.iload_n 3, 1) := by decide +kernel
theorem dX12_best_79 : decode cX12_best 79 = .ok (.ireturn, 1) := by decide +kernel
theorem dX12_isFull_0 : decode cX12_isFull 0 = .ok (.iconst 1, 1) := by decide +kernel
theorem dX12_isFull_1 : decode cX12_isFull 1 = .ok (.istore_n 3, 1) := by decide +kernel
theorem dX12_isFull_2 : decode cX12_isFull 2 = .ok (.iconst 0, 1) := by decide +kernel
theorem dX12_isFull_3 : decode cX12_isFull 3 = .ok (.istore 4, 2) := by decide +kernel
theorem dX12_isFull_5 : decode cX12_isFull 5 = .ok (.iload 4, 2) := by decide +kernel
theorem dX12_isFull_7 : decode cX12_isFull 7 = .ok (.aload_n 0, 1) := by decide +kernel
theorem dX12_isFull_8 : decode cX12_isFull 8 = .ok (.getfield 13, 3) := by decide +kernel
theorem dX12_isFull_11 : decode cX12_isFull 11 = .ok (.iconst 0, 1) := by decide +kernel
theorem dX12_isFull_12 : decode cX12_isFull 12 = .ok (.iaload, 1) := by decide +kernel
theorem dX12_isFull_13 : decode cX12_isFull 13 = .ok (.if_icmp .ge 48, 3) := by decide +kernel
theorem dX12_isFull_16 : decode cX12_isFull 16 = .ok (.iload_n 3, 1) := by decide +kernel
theorem dX12_isFull_17 : decode cX12_isFull 17 = .ok (.ifCond .eq 36, 3) := by decide +kernel
theorem dX12_isFull_20 : decode cX12_isFull 20 = .ok (.aload_n 0, 1) := by decide +kernel
theorem dX12_isFull_21 : decode cX12_isFull 21 = .ok (.getfield 32, 3) := by decide +kernel
theorem dX12_isFull_24 : decode cX12_isFull 24 = .ok (.iconst 0, 1) := by decide +kernel
theorem dX12_isFull_25 : decode cX12_isFull 25 = .ok (.iload 4, 2) := by decide +kernel
theorem dX12_isFull_27 : decode cX12_isFull 27 = .ok (.iadd, 1) := by decide +kernel
theorem dX12_isFull_28 : decode cX12_isFull 28 = .ok (.iaload, 1) := by decide +kernel
theorem dX12_isFull_29 : decode cX12_isFull 29 = .ok (.iload_n 2, 1) := by decide +kernel
theorem dX12_isFull_30 : decode cX12_isFull 30 = .ok (.if_icmp .lt 19, 3) := by decide +kernel
theorem dX12_isFull_33 : decode cX12_isFull 33 = .ok (.aload_n 0, 1) := by decide +kernel
theorem dX12_isFull_34 : decode cX12_isFull 34 = .ok (.getfield 42, 3) := by decide +kernel
theorem dX12_isFull_37 : decode cX12_isFull 37 = .ok (.bipush 6, 2) := by decide +kernel
theorem dX12_isFull_39 : decode cX12_isFull 39 = .ok (.iload_n 1, 1) := by decide +kernel
theorem dX12_isFull_40 : decode cX12_isFull 40 = .ok (.imul, 1) := by decide +kernel
theorem dX12_isFull_41 : decode cX12_isFull 41 = .ok (.iload 4, 2) := by decide +kernel
theorem dX12_isFull_43 : decode cX12_isFull 43 = .ok (.iadd, 1) := by decide +kernel
theorem dX12_isFull_44 : decode cX12_isFull 44 = .ok (.iaload, 1) := by decide +kernel
theorem dX12_isFull_45 : decode cX12_isFull 45 = .ok (.iload_n 2, 1) := by decide +kernel
theorem dX12_isFull_46 : decode cX12_isFull 46 = .ok (.if_icmp .lt 7, 3) := by decide +kernel
theorem dX12_isFull_49 : decode cX12_isFull 49 = .ok (.iconst 1, 1) := by decide +kernel
theorem dX12_isFull_50 : decode cX12_isFull 50 = .ok (.goto 4, 3) := by decide +kernel
theorem dX12_isFull_53 : decode cX12_isFull 53 = .ok (.iconst 0, 1) := by decide +kernel
theorem dX12_isFull_54 : decode cX12_isFull 54 = .ok (.istore_n 3, 1) := by decide +kernel
theorem dX12_isFull_55 : decode cX12_isFull 55 = .ok (.iinc 4 1, 3) := by decide +kernel
theorem dX12_isFull_58 : decode cX12_isFull 58 = .ok (.goto (-53), 3) := by decide +kernel
theorem dX12_isFull_61 : decode cX12_isFull 61 = .ok (.iload_n 3, 1) := by decide +kernel
theorem dX12_isFull_62 : decode cX12_isFull 62 = .ok (.ireturn, 1) := by decide +kernel
theorem dX12_plan_0 : decode cX12_plan 0 = .ok (.iload_n 1, 1) := by decide +kernel
theorem dX12_plan_1 : decode cX12_plan 1 = .ok (.iconst 1, 1) := by decide +kernel
theorem dX12_plan_2 : decode cX12_plan 2 = .ok (.iconst 3, 1) := by decide +kernel
theorem dX12_plan_3 : decode cX12_plan 3 = .ok (.invokestatic 69, 3) := by decide +kernel
theorem dX12_plan_6 : decode cX12_plan 6 = .ok (.ifCond .eq 22, 3) := by decide +kernel
theorem dX12_plan_9 : decode cX12_plan 9 = .ok (.iload_n 2, 1) := by decide +kernel
theorem dX12_plan_10 : decode cX12_plan 10 = .ok (.iconst 0, 1) := by decide +kernel
theorem dX12_plan_11 : decode cX12_plan 11 = .ok (.bipush 99, 2) := by decide +kernel
theorem dX12_plan_13 : decode cX12_plan 13 = .ok (.invokestatic 69, 3) := by decide +kernel
theorem dX12_plan_16 : decode cX12_plan 16 = .ok (.ifCond .eq 12, 3) := by decide +kernel
theorem dX12_plan_19 : decode cX12_plan 19 = .ok (.iload_n 3, 1) := by decide +kernel
theorem dX12_plan_20 : decode cX12_plan 20 = .ok (.iconst (-1), 1) := by decide +kernel
theorem dX12_plan_21 : decode cX12_plan 21 = .ok (.iconst 2, 1) := by decide +kernel
theorem dX12_plan_22 : decode cX12_plan 22 = .ok (.invokestatic 69, 3) := by decide +kernel
theorem dX12_plan_25 : decode cX12_plan 25 = .ok (.ifCond .ne 5, 3) := by decide +kernel
theorem dX12_plan_28 : decode cX12_plan 28 = .ok (.iconst (-1), 1) := by decide +kernel
theorem dX12_plan_29 : decode cX12_plan 29 = .ok (.ireturn, 1) := by decide +kernel
theorem dX12_plan_30 : decode cX12_plan 30 = .ok (.iconst 0, 1) := by decide +kernel
theorem dX12_plan_31 : decode cX12_plan 31 = .ok (.istore 4, 2) := by decide +kernel
theorem dX12_plan_33 : decode cX12_plan 33 = .ok (.iload 4, 2) := by decide +kernel
theorem dX12_plan_35 : decode cX12_plan 35 = .ok (.bipush 6, 2) := by decide +kernel
theorem dX12_plan_37 : decode cX12_plan 37 = .ok (.if_icmp .ge 25, 3) := by decide +kernel
theorem dX12_plan_40 : decode cX12_plan 40 = .ok (.aload_n 0, 1) := by decide +kernel
theorem dX12_plan_41 : decode cX12_plan 41 = .ok (.getfield 42, 3) := by decide +kernel
theorem dX12_plan_44 : decode cX12_plan 44 = .ok (.iload 4, 2) := by decide +kernel
theorem dX12_plan_46 : decode cX12_plan 46 = .ok (.aload_n 0, 1) := by decide +kernel
theorem dX12_plan_47 : decode cX12_plan 47 = .ok (.getfield 32, 3) := by decide +kernel
theorem dX12_plan_50 : decode cX12_plan 50 = .ok (.iconst 0, 1) := by decide +kernel
theorem dX12_plan_51 : decode cX12_plan 51 = .ok (.iload 4, 2) := by decide +kernel
theorem dX12_plan_53 : decode cX12_plan 53 = .ok (.iadd, 1) := by decide +kernel
theorem dX12_plan_54 : decode cX12_plan 54 = .ok (.iaload, 1) := by decide +kernel
theorem dX12_plan_55 : decode cX12_plan 55 = .ok (.iastore, 1) := by decide +kernel
theorem dX12_plan_56 : decode cX12_plan 56 = .ok (.iinc 4 1, 3) := by decide +kernel
theorem dX12_plan_59 : decode cX12_plan 59 = .ok (.goto (-26), 3) := by decide +kernel
theorem dX12_plan_62 : decode cX12_plan 62 = .ok (.iconst 1, 1) := by decide +kernel
theorem dX12_plan_63 : decode cX12_plan 63 = .ok (.aload_n 0, 1) := by decide +kernel
theorem dX12_plan_64 : decode cX12_plan 64 = .ok (.getfield 13, 3) := by decide +kernel
theorem dX12_plan_67 : decode cX12_plan 67 = .ok (.iconst 0, 1) := by decide +kernel
theorem dX12_plan_68 : decode cX12_plan 68 = .ok (.iaload, 1) := by decide +kernel
theorem dX12_plan_69 : decode cX12_plan 69 = .ok (.ishl, 1) := by decide +kernel
theorem dX12_plan_70 : decode cX12_plan 70 = .ok (.istore 4, 2) := by decide +kernel
theorem dX12_plan_72 : decode cX12_plan 72 = .ok (.iconst (-1), 1) := by decide +kernel
theorem dX12_plan_73 : decode cX12_plan 73 = .ok (.istore 5, 2) := by decide +kernel
theorem dX12_plan_75 : decode cX12_plan 75 = .ok (.iconst 0, 1) := by decide +kernel
theorem dX12_plan_76 : decode cX12_plan 76 = .ok (.istore 6, 2) := by decide +kernel
theorem dX12_plan_78 : decode cX12_plan 78 = .ok (.iload 6, 2) := by decide +kernel
theorem dX12_plan_80 : decode cX12_plan 80 = .ok (.iload 4, 2) := by decide +kernel
theorem dX12_plan_82 : decode cX12_plan 82 = .ok (.if_icmp .ge 253, 3) := by decide +kernel
theorem dX12_plan_85 : decode cX12_plan 85 = .ok (.aload_n 0, 1) := by decide +kernel
theorem dX12_plan_86 : decode cX12_plan 86 = .ok (.iload 6, 2) := by decide +kernel
theorem dX12_plan_88 : decode cX12_plan 88 = .ok (.invokevirtual 150, 3) := by decide +kernel
theorem dX12_plan_91 : decode cX12_plan 91 = .ok (.ifCond .eq 238, 3) := by decide +kernel
theorem dX12_plan_94 : decode cX12_plan 94 = .ok (.aload_n 0, 1) := by decide +kernel
theorem dX12_plan_95 : decode cX12_plan 95 = .ok (.aload_n 0, 1) := by decide +kernel
theorem dX12_plan_96 : decode cX12_plan 96 = .ok (.getfield 42, 3) := by decide +kernel
theorem dX12_plan_99 : decode cX12_plan 99 = .ok (.iconst 0, 1) := by decide +kernel
theorem dX12_plan_100 : decode cX12_plan 100 = .ok (.bipush 6, 2) := by decide +kernel
theorem dX12_plan_102 : decode cX12_plan 102 = .ok (.iload 6, 2) := by decide +kernel
theorem dX12_plan_104 : decode cX12_plan 104 = .ok (.invokevirtual 159, 3) := by decide +kernel
theorem dX12_plan_107 : decode cX12_plan 107 = .ok (.istore 7, 2) := by decide +kernel
theorem dX12_plan_109 : decode cX12_plan 109 = .ok (.aload_n 0, 1) := by decide +kernel
theorem dX12_plan_110 : decode cX12_plan 110 = .ok (.iconst 1, 1) := by decide +kernel
theorem dX12_plan_111 : decode cX12_plan 111 = .ok (.iload_n 2, 1) := by decide +kernel
theorem dX12_plan_112 : decode cX12_plan 112 = .ok (.invokevirtual 166, 3) := by decide +kernel
theorem dX12_plan_115 : decode cX12_plan 115 = .ok (.istore 8, 2) := by decide +kernel
theorem dX12_plan_117 : decode cX12_plan 117 = .ok (.iconst 0, 1) := by decide +kernel
theorem dX12_plan_118 : decode cX12_plan 118 = .ok (.istore 9, 2) := by decide +kernel
theorem dX12_plan_120 : decode cX12_plan 120 = .ok (.iload 9, 2) := by decide +kernel
theorem dX12_plan_122 : decode cX12_plan 122 = .ok (.iload 4, 2) := by decide +kernel
theorem dX12_plan_124 : decode cX12_plan 124 = .ok (.if_icmp .ge 205, 3) := by decide +kernel
theorem dX12_plan_127 : decode cX12_plan 127 = .ok (.iload 8, 2) := by decide +kernel
theorem dX12_plan_129 : decode cX12_plan 129 = .ok (.ifCond .eq 200, 3) := by decide +kernel
theorem dX12_plan_132 : decode cX12_plan 132 = .ok (.aload_n 0, 1) := by decide +kernel
theorem dX12_plan_133 : decode cX12_plan 133 = .ok (.iload 9, 2) := by decide +kernel
theorem dX12_plan_135 : decode cX12_plan 135 = .ok (.invokevirtual 150, 3) := by decide +kernel
theorem dX12_plan_138 : decode cX12_plan 138 = .ok (.ifCond .eq 185, 3) := by decide +kernel
theorem dX12_plan_141 : decode cX12_plan 141 = .ok (.iload_n 1, 1) := by decide +kernel
theorem dX12_plan_142 : decode cX12_plan 142 = .ok (.iconst 1, 1) := by decide +kernel
theorem dX12_plan_143 : decode cX12_plan 143 = .ok (.if_icmp .gt 8, 3) := by decide +kernel
theorem dX12_plan_146 : decode cX12_plan 146 = .ok (.iload 9, 2) := by decide +kernel
theorem dX12_plan_148 : decode cX12_plan 148 = .ok (.ifCond .ne 175, 3) := by decide +kernel
theorem dX12_plan_151 : decode cX12_plan 151 = .ok (.iload_n 1, 1) := by decide +kernel
theorem dX12_plan_152 : decode cX12_plan 152 = .ok (.iconst 1, 1) := by decide +kernel
theorem dX12_plan_153 : decode cX12_plan 153 = .ok (.if_icmp .le 20, 3) := by decide +kernel
theorem dX12_plan_156 : decode cX12_plan 156 = .ok (.aload_n 0, 1) := by decide +kernel
theorem dX12_plan_157 : decode cX12_plan 157 = .ok (.aload_n 0, 1) := by decide +kernel
theorem dX12_plan_158 : decode cX12_plan 158 = .ok (.getfield 42, 3) := by decide +kernel
theorem dX12_plan_161 : decode cX12_plan 161 = .ok (.bipush 6, 2) := by decide +kernel
theorem dX12_plan_163 : decode cX12_plan 163 = .ok (.bipush 12, 2) := by decide +kernel
theorem dX12_plan_165 : decode cX12_plan 165 = .ok (.iload 9, 2) := by decide +kernel
theorem dX12_plan_167 : decode cX12_plan 167 = .ok (.invokevirtual 159, 3) := by decide +kernel
theorem dX12_plan_170 : decode cX12_plan 170 = .ok (.goto 4, 3) := by decide +kernel
theorem dX12_plan_173 : decode cX12_plan 173 = .ok (.iconst 0, 1) := by decide +kernel
theorem dX12_plan_174 : decode cX12_plan 174 = .ok (.istore 10, 2) := by decide +kernel
theorem dX12_plan_176 : decode cX12_plan 176 = .ok (.iload_n 1, 1) := by decide +kernel
theorem dX12_plan_177 : decode cX12_plan 177 = .ok (.iconst 1, 1) := by decide +kernel
theorem dX12_plan_178 : decode cX12_plan 178 = .ok (.if_icmp .eq 12, 3) := by decide +kernel
theorem dX12_plan_181 : decode cX12_plan 181 = .ok (.aload_n 0, 1) := by decide +kernel
theorem dX12_plan_182 : decode cX12_plan 182 = .ok (.iconst 2, 1) := by decide +kernel
theorem dX12_plan_183 : decode cX12_plan 183 = .ok (.iload_n 2, 1) := by decide +kernel
theorem dX12_plan_184 : decode cX12_plan 184 = .ok (.invokevirtual 166, 3) := by decide +kernel
theorem dX12_plan_187 : decode cX12_plan 187 = .ok (.ifCond .eq 7, 3) := by decide +kernel
theorem dX12_plan_190 : decode cX12_plan 190 = .ok (.iconst 1, 1) := by decide +kernel
theorem dX12_plan_191 : decode cX12_plan 191 = .ok (.goto 4, 3) := by decide +kernel
theorem dX12_plan_194 : decode cX12_plan 194 = .ok (.iconst 0, 1) := by decide +kernel
theorem dX12_plan_195 : decode cX12_plan 195 = .ok (.istore 11, 2) := by decide +kernel
theorem dX12_plan_197 : decode cX12_plan 197 = .ok (.iconst 0, 1) := by decide +kernel
theorem dX12_plan_198 : decode cX12_plan 198 = .ok (.istore 12, 2) := by decide +kernel
theorem dX12_plan_200 : decode cX12_plan 200 = .ok (.iload 12, 2) := by decide +kernel
theorem dX12_plan_202 : decode cX12_plan 202 = .ok (.iload 4, 2) := by decide +kernel
theorem dX12_plan_204 : decode cX12_plan 204 = .ok (.if_icmp .ge 119, 3) := by decide +kernel
theorem dX12_plan_207 : decode cX12_plan 207 = .ok (.iload 11, 2) := by decide +kernel
theorem dX12_plan_209 : decode cX12_plan 209 = .ok (.ifCond .eq 114, 3) := by decide +kernel
theorem dX12_plan_212 : decode cX12_plan 212 = .ok (.aload_n 0, 1) := by decide +kernel
theorem dX12_plan_213 : decode cX12_plan 213 = .ok (.iload 12, 2) := by decide +kernel
theorem dX12_plan_215 : decode cX12_plan 215 = .ok (.invokevirtual 150, 3) := by decide +kernel
theorem dX12_plan_218 : decode cX12_plan 218 = .ok (.ifCond .eq 99, 3) := by decide +kernel
theorem dX12_plan_221 : decode cX12_plan 221 = .ok (.iload_n 1, 1) := by decide +kernel
theorem dX12_plan_222 : decode cX12_plan 222 = .ok (.iconst 2, 1) := by decide +kernel
theorem dX12_plan_223 : decode cX12_plan 223 = .ok (.if_icmp .gt 8, 3) := by decide +kernel
theorem dX12_plan_226 : decode cX12_plan 226 = .ok (.iload 12, 2) := by decide +kernel
theorem dX12_plan_228 : decode cX12_plan 228 = .ok (.ifCond .ne 89, 3) := by decide +kernel
theorem dX12_plan_231 : decode cX12_plan 231 = .ok (.iload_n 1, 1) := by decide +kernel
theorem dX12_plan_232 : decode cX12_plan 232 = .ok (.iconst 2, 1) := by decide +kernel
theorem dX12_plan_233 : decode cX12_plan 233 = .ok (.if_icmp .le 20, 3) := by decide +kernel
theorem dX12_plan_236 : decode cX12_plan 236 = .ok (.aload_n 0, 1) := by decide +kernel
theorem dX12_plan_237 : decode cX12_plan 237 = .ok (.aload_n 0, 1) := by decide +kernel
theorem dX12_plan_238 : decode cX12_plan 238 = .ok (.getfield 42, 3) := by decide +kernel
theorem dX12_plan_241 : decode cX12_plan 241 = .ok (.bipush 12, 2) := by decide +kernel
theorem dX12_plan_243 : decode cX12_plan 243 = .ok (.bipush 18, 2) := by decide +kernel
theorem dX12_plan_245 : decode cX12_plan 245 = .ok (.iload 12, 2) := by decide +kernel
theorem dX12_plan_247 : decode cX12_plan 247 = .ok (.invokevirtual 159, 3) := by decide +kernel
theorem dX12_plan_250 : decode cX12_plan 250 = .ok (.goto 4, 3) := by decide +kernel
theorem dX12_plan_253 : decode cX12_plan 253 = .ok (.iconst 0, 1) := by decide +kernel
theorem dX12_plan_254 : decode cX12_plan 254 = .ok (.istore 13, 2) := by decide +kernel
theorem dX12_plan_256 : decode cX12_plan 256 = .ok (.iload 7, 2) := by decide +kernel
theorem dX12_plan_258 : decode cX12_plan 258 = .ok (.iload 10, 2) := by decide +kernel
theorem dX12_plan_260 : decode cX12_plan 260 = .ok (.iadd, 1) := by decide +kernel
theorem dX12_plan_261 : decode cX12_plan 261 = .ok (.iload 13, 2) := by decide +kernel
theorem dX12_plan_263 : decode cX12_plan 263 = .ok (.iadd, 1) := by decide +kernel
theorem dX12_plan_264 : decode cX12_plan 264 = .ok (.iload 5, 2) := by decide +kernel
theorem dX12_plan_266 : decode cX12_plan 266 = .ok (.if_icmp .le 51, 3) := by decide +kernel
theorem dX12_plan_269 : decode cX12_plan 269 = .ok (.iload_n 1, 1) := by decide +kernel
theorem dX12_plan_270 : decode cX12_plan 270 = .ok (.iconst 3, 1) := by decide +kernel
theorem dX12_plan_271 : decode cX12_plan 271 = .ok (.if_icmp .lt 12, 3) := by decide +kernel
theorem dX12_plan_274 : decode cX12_plan 274 = .ok (.aload_n 0, 1) := by decide +kernel
theorem dX12_plan_275 : decode cX12_plan 275 = .ok (.iconst 3, 1) := by decide +kernel
theorem dX12_plan_276 : decode cX12_plan 276 = .ok (.iload_n 2, 1) := by decide +kernel
theorem dX12_plan_277 : decode cX12_plan 277 = .ok (.invokevirtual 166, 3) := by decide +kernel
theorem dX12_plan_280 : decode cX12_plan 280 = .ok (.ifCond .eq 37, 3) := by decide +kernel
theorem dX12_plan_283 : decode cX12_plan 283 = .ok (.iload 7, 2) := by decide +kernel
theorem dX12_plan_285 : decode cX12_plan 285 = .ok (.iload 10, 2) := by decide +kernel
theorem dX12_plan_287 : decode cX12_plan 287 = .ok (.iadd, 1) := by decide +kernel
theorem dX12_plan_288 : decode cX12_plan 288 = .ok (.iload 13, 2) := by decide +kernel
theorem dX12_plan_290 : decode cX12_plan 290 = .ok (.iadd, 1) := by decide +kernel
theorem dX12_plan_291 : decode cX12_plan 291 = .ok (.istore 5, 2) := by decide +kernel
theorem dX12_plan_293 : decode cX12_plan 293 = .ok (.aload_n 0, 1) := by decide +kernel
theorem dX12_plan_294 : decode cX12_plan 294 = .ok (.getfield 45, 3) := by decide +kernel
theorem dX12_plan_297 : decode cX12_plan 297 = .ok (.iconst 0, 1) := by decide +kernel
theorem dX12_plan_298 : decode cX12_plan 298 = .ok (.iload 6, 2) := by decide +kernel
theorem dX12_plan_300 : decode cX12_plan 300 = .ok (.iastore, 1) := by decide +kernel
theorem dX12_plan_301 : decode cX12_plan 301 = .ok (.aload_n 0, 1) := by decide +kernel
theorem dX12_plan_302 : decode cX12_plan 302 = .ok (.getfield 45, 3) := by decide +kernel
theorem dX12_plan_305 : decode cX12_plan 305 = .ok (.iconst 1, 1) := by decide +kernel
theorem dX12_plan_306 : decode cX12_plan 306 = .ok (.iload 9, 2) := by decide +kernel
theorem dX12_plan_308 : decode cX12_plan 308 = .ok (.iastore, 1) := by decide +kernel
theorem dX12_plan_309 : decode cX12_plan 309 = .ok (.aload_n 0, 1) := by decide +kernel
theorem dX12_plan_310 : decode cX12_plan 310 = .ok (.getfield 45, 3) := by decide +kernel
theorem dX12_plan_313 : decode cX12_plan 313 = .ok (.iconst 2, 1) := by decide +kernel
theorem dX12_plan_314 : decode cX12_plan 314 = .ok (.iload 12, 2) := by decide +kernel
theorem dX12_plan_316 : decode cX12_plan 316 = .ok (.iastore, 1) := by decide +kernel
theorem dX12_plan_317 : decode cX12_plan 317 = .ok (.iinc 12 1, 3) := by decide +kernel
theorem dX12_plan_320 : decode cX12_plan 320 = .ok (.goto (-120), 3) := by decide +kernel
theorem dX12_plan_323 : decode cX12_plan 323 = .ok (.iinc 9 1, 3) := by decide +kernel
theorem dX12_plan_326 : decode cX12_plan 326 = .ok (.goto (-206), 3) := by decide +kernel
theorem dX12_plan_329 : decode cX12_plan 329 = .ok (.iinc 6 1, 3) := by decide +kernel
theorem dX12_plan_332 : decode cX12_plan 332 = .ok (.goto (-254), 3) := by decide +kernel
theorem dX12_plan_335 : decode cX12_plan 335 = .ok (.iload_n 3, 1) := by decide +kernel
theorem dX12_plan_336 : decode cX12_plan 336 = .ok (.iconst (-1), 1) := by decide +kernel
theorem dX12_plan_337 : decode cX12_plan 337 = .ok (.if_icmp .ne 8, 3) := by decide +kernel
theorem dX12_plan_340 : decode cX12_plan 340 = .ok (.iload 5, 2) := by decide +kernel
theorem dX12_plan_342 : decode cX12_plan 342 = .ok (.goto 19, 3) := by decide +kernel
theorem dX12_plan_345 : decode cX12_plan 345 = .ok (.iload_n 3, 1) := by decide +kernel
theorem dX12_plan_346 : decode cX12_plan 346 = .ok (.iload_n 1, 1) := by decide +kernel
theorem dX12_plan_347 : decode cX12_plan 347 = .ok (.if_icmp .ge 12, 3) := by decide +kernel
theorem dX12_plan_350 : decode cX12_plan 350 = .ok (.aload_n 0, 1) := by decide +kernel
theorem dX12_plan_351 : decode cX12_plan 351 = .ok (.getfield 45, 3) := by decide +kernel
theorem dX12_plan_354 : decode cX12_plan 354 = .ok (.iload_n 3, 1) := by decide +kernel
theorem dX12_plan_355 : decode cX12_plan 355 = .ok (.iaload, 1) := by decide +kernel
theorem dX12_plan_356 : decode cX12_plan 356 = .ok (.goto 5, 3) := by decide +kernel
theorem dX12_plan_359 : decode cX12_plan 359 = .ok (.bipush (-9), 2) := by decide +kernel
theorem dX12_plan_361 : decode cX12_plan 361 = .ok (.ireturn, 1) := by decide +kernel
theorem dX12_lean_0 : decode cX12_lean 0 = .ok (.aload_n 0, 1) := by decide +kernel
theorem dX12_lean_1 : decode cX12_lean 1 = .ok (.iload_n 1, 1) := by decide +kernel
theorem dX12_lean_2 : decode cX12_lean 2 = .ok (.invokevirtual 150, 3) := by decide +kernel
theorem dX12_lean_5 : decode cX12_lean 5 = .ok (.ifCond .eq 14, 3) := by decide +kernel
theorem dX12_lean_8 : decode cX12_lean 8 = .ok (.iload_n 2, 1) := by decide +kernel
theorem dX12_lean_9 : decode cX12_lean 9 = .ok (.iconst 1, 1) := by decide +kernel
theorem dX12_lean_10 : decode cX12_lean 10 = .ok (.sipush 999, 3) := by decide +kernel
theorem dX12_lean_13 : decode cX12_lean 13 = .ok (.invokestatic 69, 3) := by decide +kernel
theorem dX12_lean_16 : decode cX12_lean 16 = .ok (.ifCond .ne 5, 3) := by decide +kernel
theorem dX12_lean_19 : decode cX12_lean 19 = .ok (.iconst (-1), 1) := by decide +kernel
theorem dX12_lean_20 : decode cX12_lean 20 = .ok (.ireturn, 1) := by decide +kernel
theorem dX12_lean_21 : decode cX12_lean 21 = .ok (.aload_n 0, 1) := by decide +kernel
theorem dX12_lean_22 : decode cX12_lean 22 = .ok (.invokevirtual 156, 3) := by decide +kernel
theorem dX12_lean_25 : decode cX12_lean 25 = .ok (.iconst 1, 1) := by decide +kernel
theorem dX12_lean_26 : decode cX12_lean 26 = .ok (.istore_n 3, 1) := by decide +kernel
theorem dX12_lean_27 : decode cX12_lean 27 = .ok (.iload_n 3, 1) := by decide +kernel
theorem dX12_lean_28 : decode cX12_lean 28 = .ok (.bipush 60, 2) := by decide +kernel
theorem dX12_lean_30 : decode cX12_lean 30 = .ok (.if_icmp .gt 26, 3) := by decide +kernel
theorem dX12_lean_33 : decode cX12_lean 33 = .ok (.aload_n 0, 1) := by decide +kernel
theorem dX12_lean_34 : decode cX12_lean 34 = .ok (.aload_n 0, 1) := by decide +kernel
theorem dX12_lean_35 : decode cX12_lean 35 = .ok (.getfield 39, 3) := by decide +kernel
theorem dX12_lean_38 : decode cX12_lean 38 = .ok (.iconst 0, 1) := by decide +kernel
theorem dX12_lean_39 : decode cX12_lean 39 = .ok (.iconst 0, 1) := by decide +kernel
theorem dX12_lean_40 : decode cX12_lean 40 = .ok (.iload_n 1, 1) := by decide +kernel
theorem dX12_lean_41 : decode cX12_lean 41 = .ok (.invokevirtual 159, 3) := by decide +kernel
theorem dX12_lean_44 : decode cX12_lean 44 = .ok (.iload_n 2, 1) := by decide +kernel
theorem dX12_lean_45 : decode cX12_lean 45 = .ok (.if_icmp .ge 5, 3) := by decide +kernel
theorem dX12_lean_48 : decode cX12_lean 48 = .ok (.iload_n 3, 1) := by decide +kernel
theorem dX12_lean_49 : decode cX12_lean 49 = .ok (.ireturn, 1) := by decide +kernel
theorem dX12_lean_50 : decode cX12_lean 50 = .ok (.iinc 3 1, 3) := by decide +kernel
theorem dX12_lean_53 : decode cX12_lean 53 = .ok (.goto (-26), 3) := by decide +kernel
theorem dX12_lean_56 : decode cX12_lean 56 = .ok (.bipush (-9), 2) := by decide +kernel
theorem dX12_lean_58 : decode cX12_lean 58 = .ok (.ireturn, 1) := by decide +kernel
theorem dX12_still_0 : decode cX12_still 0 = .ok (.aload_n 0, 1) := by decide +kernel
theorem dX12_still_1 : decode cX12_still 1 = .ok (.iload_n 1, 1) := by decide +kernel
theorem dX12_still_2 : decode cX12_still 2 = .ok (.invokevirtual 150, 3) := by decide +kernel
theorem dX12_still_5 : decode cX12_still 5 = .ok (.ifCond .eq 21, 3) := by decide +kernel
theorem dX12_still_8 : decode cX12_still 8 = .ok (.iload_n 2, 1) := by decide +kernel
theorem dX12_still_9 : decode cX12_still 9 = .ok (.iconst 0, 1) := by decide +kernel
theorem dX12_still_10 : decode cX12_still 10 = .ok (.bipush 60, 2) := by decide +kernel
theorem dX12_still_12 : decode cX12_still 12 = .ok (.invokestatic 69, 3) := by decide +kernel
theorem dX12_still_15 : decode cX12_still 15 = .ok (.ifCond .eq 11, 3) := by decide +kernel
theorem dX12_still_18 : decode cX12_still 18 = .ok (.aload_n 0, 1) := by decide +kernel
theorem dX12_still_19 : decode cX12_still 19 = .ok (.iload_n 3, 1) := by decide +kernel
theorem dX12_still_20 : decode cX12_still 20 = .ok (.invokevirtual 136, 3) := by decide +kernel
theorem dX12_still_23 : decode cX12_still 23 = .ok (.ifCond .ne 5, 3) := by decide +kernel
theorem dX12_still_26 : decode cX12_still 26 = .ok (.iconst (-1), 1) := by decide +kernel
theorem dX12_still_27 : decode cX12_still 27 = .ok (.ireturn, 1) := by decide +kernel
theorem dX12_still_28 : decode cX12_still 28 = .ok (.aload_n 0, 1) := by decide +kernel
theorem dX12_still_29 : decode cX12_still 29 = .ok (.invokevirtual 156, 3) := by decide +kernel
theorem dX12_still_32 : decode cX12_still 32 = .ok (.iconst 0, 1) := by decide +kernel
theorem dX12_still_33 : decode cX12_still 33 = .ok (.istore 4, 2) := by decide +kernel
theorem dX12_still_35 : decode cX12_still 35 = .ok (.iload 4, 2) := by decide +kernel
theorem dX12_still_37 : decode cX12_still 37 = .ok (.iload_n 2, 1) := by decide +kernel
theorem dX12_still_38 : decode cX12_still 38 = .ok (.if_icmp .ge 21, 3) := by decide +kernel
theorem dX12_still_41 : decode cX12_still 41 = .ok (.aload_n 0, 1) := by decide +kernel
theorem dX12_still_42 : decode cX12_still 42 = .ok (.aload_n 0, 1) := by decide +kernel
theorem dX12_still_43 : decode cX12_still 43 = .ok (.getfield 39, 3) := by decide +kernel
theorem dX12_still_46 : decode cX12_still 46 = .ok (.iconst 0, 1) := by decide +kernel
theorem dX12_still_47 : decode cX12_still 47 = .ok (.iconst 0, 1) := by decide +kernel
theorem dX12_still_48 : decode cX12_still 48 = .ok (.iload_n 1, 1) := by decide +kernel
theorem dX12_still_49 : decode cX12_still 49 = .ok (.invokevirtual 159, 3) := by decide +kernel
theorem dX12_still_52 : decode cX12_still 52 = .ok (.pop, 1) := by decide +kernel
theorem dX12_still_53 : decode cX12_still 53 = .ok (.iinc 4 1, 3) := by decide +kernel
theorem dX12_still_56 : decode cX12_still 56 = .ok (.goto (-21), 3) := by decide +kernel
theorem dX12_still_59 : decode cX12_still 59 = .ok (.aload_n 0, 1) := by decide +kernel
theorem dX12_still_60 : decode cX12_still 60 = .ok (.getfield 39, 3) := by decide +kernel
theorem dX12_still_63 : decode cX12_still 63 = .ok (.iload_n 3, 1) := by decide +kernel
theorem dX12_still_64 : decode cX12_still 64 = .ok (.iaload, 1) := by decide +kernel
theorem dX12_still_65 : decode cX12_still 65 = .ok (.ireturn, 1) := by decide +kernel
theorem dX12_temper_0 : decode cX12_temper 0 = .ok (.aload_n 0, 1) := by decide +kernel
theorem dX12_temper_1 : decode cX12_temper 1 = .ok (.iload_n 1, 1) := by decide +kernel
theorem dX12_temper_2 : decode cX12_temper 2 = .ok (.invokevirtual 150, 3) := by decide +kernel
theorem dX12_temper_5 : decode cX12_temper 5 = .ok (.ifCond .ne 6, 3) := by decide +kernel
theorem dX12_temper_8 : decode cX12_temper 8 = .ok (.ldc 139, 2) := by decide +kernel
theorem dX12_temper_10 : decode cX12_temper 10 = .ok (.ireturn, 1) := by decide +kernel
theorem dX12_temper_11 : decode cX12_temper 11 = .ok (.iconst 0, 1) := by decide +kernel
theorem dX12_temper_12 : decode cX12_temper 12 = .ok (.istore_n 2, 1) := by decide +kernel
theorem dX12_temper_13 : decode cX12_temper 13 = .ok (.iconst 0, 1) := by decide +kernel
theorem dX12_temper_14 : decode cX12_temper 14 = .ok (.istore_n 3, 1) := by decide +kernel
theorem dX12_temper_15 : decode cX12_temper 15 = .ok (.iload_n 3, 1) := by decide +kernel
theorem dX12_temper_16 : decode cX12_temper 16 = .ok (.aload_n 0, 1) := by decide +kernel
theorem dX12_temper_17 : decode cX12_temper 17 = .ok (.getfield 13, 3) := by decide +kernel
theorem dX12_temper_20 : decode cX12_temper 20 = .ok (.iconst 0, 1) := by decide +kernel
theorem dX12_temper_21 : decode cX12_temper 21 = .ok (.iaload, 1) := by decide +kernel
theorem dX12_temper_22 : decode cX12_temper 22 = .ok (.if_icmp .ge 62, 3) := by decide +kernel
theorem dX12_temper_25 : decode cX12_temper 25 = .ok (.iconst 0, 1) := by decide +kernel
theorem dX12_temper_26 : decode cX12_temper 26 = .ok (.istore 4, 2) := by decide +kernel
theorem dX12_temper_28 : decode cX12_temper 28 = .ok (.iload 4, 2) := by decide +kernel
theorem dX12_temper_30 : decode cX12_temper 30 = .ok (.iload_n 3, 1) := by decide +kernel
theorem dX12_temper_31 : decode cX12_temper 31 = .ok (.if_icmp .ge 47, 3) := by decide +kernel
theorem dX12_temper_34 : decode cX12_temper 34 = .ok (.iload_n 2, 1) := by decide +kernel
theorem dX12_temper_35 : decode cX12_temper 35 = .ok (.iload_n 1, 1) := by decide +kernel
theorem dX12_temper_36 : decode cX12_temper 36 = .ok (.iload_n 3, 1) := by decide +kernel
theorem dX12_temper_37 : decode cX12_temper 37 = .ok (.ishr, 1) := by decide +kernel
theorem dX12_temper_38 : decode cX12_temper 38 = .ok (.iconst 1, 1) := by decide +kernel
theorem dX12_temper_39 : decode cX12_temper 39 = .ok (.iand, 1) := by decide +kernel
theorem dX12_temper_40 : decode cX12_temper 40 = .ok (.iconst 1, 1) := by decide +kernel
theorem dX12_temper_41 : decode cX12_temper 41 = .ok (.if_icmp .ne 28, 3) := by decide +kernel
theorem dX12_temper_44 : decode cX12_temper 44 = .ok (.iload_n 1, 1) := by decide +kernel
theorem dX12_temper_45 : decode cX12_temper 45 = .ok (.iload 4, 2) := by decide +kernel
theorem dX12_temper_47 : decode cX12_temper 47 = .ok (.ishr, 1) := by decide +kernel
theorem dX12_temper_48 : decode cX12_temper 48 = .ok (.iconst 1, 1) := by decide +kernel
theorem dX12_temper_49 : decode cX12_temper 49 = .ok (.iand, 1) := by decide +kernel
theorem dX12_temper_50 : decode cX12_temper 50 = .ok (.iconst 1, 1) := by decide +kernel
theorem dX12_temper_51 : decode cX12_temper 51 = .ok (.if_icmp .ne 18, 3) := by decide +kernel
theorem dX12_temper_54 : decode cX12_temper 54 = .ok (.aload_n 0, 1) := by decide +kernel
theorem dX12_temper_55 : decode cX12_temper 55 = .ok (.getfield 23, 3) := by decide +kernel
theorem dX12_temper_58 : decode cX12_temper 58 = .ok (.bipush 6, 2) := by decide +kernel
theorem dX12_temper_60 : decode cX12_temper 60 = .ok (.iload_n 3, 1) := by decide +kernel
theorem dX12_temper_61 : decode cX12_temper 61 = .ok (.imul, 1) := by decide +kernel
theorem dX12_temper_62 : decode cX12_temper 62 = .ok (.iload 4, 2) := by decide +kernel
theorem dX12_temper_64 : decode cX12_temper 64 = .ok (.iadd, 1) := by decide +kernel
theorem dX12_temper_65 : decode cX12_temper 65 = .ok (.iaload, 1) := by decide +kernel
theorem dX12_temper_66 : decode cX12_temper 66 = .ok (.goto 4, 3) := by decide +kernel
theorem dX12_temper_69 : decode cX12_temper 69 = .ok (.iconst 0, 1) := by decide +kernel
theorem dX12_temper_70 : decode cX12_temper 70 = .ok (.iadd, 1) := by decide +kernel
theorem dX12_temper_71 : decode cX12_temper 71 = .ok (.istore_n 2, 1) := by decide +kernel
theorem dX12_temper_72 : decode cX12_temper 72 = .ok (.iinc 4 1, 3) := by decide +kernel
theorem dX12_temper_75 : decode cX12_temper 75 = .ok (.goto (-47), 3) := by decide +kernel
theorem dX12_temper_78 : decode cX12_temper 78 = .ok (.iinc 3 1, 3) := by decide +kernel
theorem dX12_temper_81 : decode cX12_temper 81 = .ok (.goto (-66), 3) := by decide +kernel
theorem dX12_temper_84 : decode cX12_temper 84 = .ok (.iload_n 2, 1) := by decide +kernel
theorem dX12_temper_85 : decode cX12_temper 85 = .ok (.ireturn, 1) := by decide +kernel
theorem dX12_worth_0 : decode cX12_worth 0 = .ok (.iload_n 1, 1) := by decide +kernel
theorem dX12_worth_1 : decode cX12_worth 1 = .ok (.istore_n 2, 1) := by decide +kernel
theorem dX12_worth_2 : decode cX12_worth 2 = .ok (.aload_n 0, 1) := by decide +kernel
theorem dX12_worth_3 : decode cX12_worth 3 = .ok (.getfield 13, 3) := by decide +kernel
theorem dX12_worth_6 : decode cX12_worth 6 = .ok (.iconst 0, 1) := by decide +kernel
theorem dX12_worth_7 : decode cX12_worth 7 = .ok (.iaload, 1) := by decide +kernel
theorem dX12_worth_8 : decode cX12_worth 8 = .ok (.iconst 1, 1) := by decide +kernel
theorem dX12_worth_9 : decode cX12_worth 9 = .ok (.isub, 1) := by decide +kernel
theorem dX12_worth_10 : decode cX12_worth 10 = .ok (.istore_n 3, 1) := by decide +kernel
theorem dX12_worth_11 : decode cX12_worth 11 = .ok (.iload_n 3, 1) := by decide +kernel
theorem dX12_worth_12 : decode cX12_worth 12 = .ok (.ifCond .lt 26, 3) := by decide +kernel
theorem dX12_worth_15 : decode cX12_worth 15 = .ok (.aload_n 0, 1) := by decide +kernel
theorem dX12_worth_16 : decode cX12_worth 16 = .ok (.getfield 48, 3) := by decide +kernel
theorem dX12_worth_19 : decode cX12_worth 19 = .ok (.iload_n 3, 1) := by decide +kernel
theorem dX12_worth_20 : decode cX12_worth 20 = .ok (.iload_n 2, 1) := by decide +kernel
theorem dX12_worth_21 : decode cX12_worth 21 = .ok (.bipush 7, 2) := by decide +kernel
theorem dX12_worth_23 : decode cX12_worth 23 = .ok (.irem, 1) := by decide +kernel
theorem dX12_worth_24 : decode cX12_worth 24 = .ok (.iconst 1, 1) := by decide +kernel
theorem dX12_worth_25 : decode cX12_worth 25 = .ok (.isub, 1) := by decide +kernel
theorem dX12_worth_26 : decode cX12_worth 26 = .ok (.iastore, 1) := by decide +kernel
theorem dX12_worth_27 : decode cX12_worth 27 = .ok (.iload_n 2, 1) := by decide +kernel
theorem dX12_worth_28 : decode cX12_worth 28 = .ok (.bipush 7, 2) := by decide +kernel
theorem dX12_worth_30 : decode cX12_worth 30 = .ok (.idiv, 1) := by decide +kernel
theorem dX12_worth_31 : decode cX12_worth 31 = .ok (.istore_n 2, 1) := by decide +kernel
theorem dX12_worth_32 : decode cX12_worth 32 = .ok (.iinc 3 (-1), 3) := by decide +kernel
theorem dX12_worth_35 : decode cX12_worth 35 = .ok (.goto (-24), 3) := by decide +kernel
theorem dX12_worth_38 : decode cX12_worth 38 = .ok (.iconst 0, 1) := by decide +kernel
theorem dX12_worth_39 : decode cX12_worth 39 = .ok (.istore_n 3, 1) := by decide +kernel
theorem dX12_worth_40 : decode cX12_worth 40 = .ok (.iconst 0, 1) := by decide +kernel
theorem dX12_worth_41 : decode cX12_worth 41 = .ok (.istore 4, 2) := by decide +kernel
theorem dX12_worth_43 : decode cX12_worth 43 = .ok (.iload 4, 2) := by decide +kernel
theorem dX12_worth_45 : decode cX12_worth 45 = .ok (.aload_n 0, 1) := by decide +kernel
theorem dX12_worth_46 : decode cX12_worth 46 = .ok (.getfield 13, 3) := by decide +kernel
theorem dX12_worth_49 : decode cX12_worth 49 = .ok (.iconst 0, 1) := by decide +kernel
theorem dX12_worth_50 : decode cX12_worth 50 = .ok (.iaload, 1) := by decide +kernel
theorem dX12_worth_51 : decode cX12_worth 51 = .ok (.if_icmp .ge 83, 3) := by decide +kernel
theorem dX12_worth_54 : decode cX12_worth 54 = .ok (.aload_n 0, 1) := by decide +kernel
theorem dX12_worth_55 : decode cX12_worth 55 = .ok (.getfield 48, 3) := by decide +kernel
theorem dX12_worth_58 : decode cX12_worth 58 = .ok (.iload 4, 2) := by decide +kernel
theorem dX12_worth_60 : decode cX12_worth 60 = .ok (.iaload, 1) := by decide +kernel
theorem dX12_worth_61 : decode cX12_worth 61 = .ok (.istore 5, 2) := by decide +kernel
theorem dX12_worth_63 : decode cX12_worth 63 = .ok (.iload 5, 2) := by decide +kernel
theorem dX12_worth_65 : decode cX12_worth 65 = .ok (.aload_n 0, 1) := by decide +kernel
theorem dX12_worth_66 : decode cX12_worth 66 = .ok (.getfield 13, 3) := by decide +kernel
theorem dX12_worth_69 : decode cX12_worth 69 = .ok (.iconst 0, 1) := by decide +kernel
theorem dX12_worth_70 : decode cX12_worth 70 = .ok (.iaload, 1) := by decide +kernel
theorem dX12_worth_71 : decode cX12_worth 71 = .ok (.if_icmp .ge 27, 3) := by decide +kernel
theorem dX12_worth_74 : decode cX12_worth 74 = .ok (.iload 5, 2) := by decide +kernel
theorem dX12_worth_76 : decode cX12_worth 76 = .ok (.iload 4, 2) := by decide +kernel
theorem dX12_worth_78 : decode cX12_worth 78 = .ok (.if_icmp .eq 20, 3) := by decide +kernel
theorem dX12_worth_81 : decode cX12_worth 81 = .ok (.iload 5, 2) := by decide +kernel
theorem dX12_worth_83 : decode cX12_worth 83 = .ok (.ifCond .lt 18, 3) := by decide +kernel
theorem dX12_worth_86 : decode cX12_worth 86 = .ok (.aload_n 0, 1) := by decide +kernel
theorem dX12_worth_87 : decode cX12_worth 87 = .ok (.getfield 48, 3) := by decide +kernel
theorem dX12_worth_90 : decode cX12_worth 90 = .ok (.iload 5, 2) := by decide +kernel
theorem dX12_worth_92 : decode cX12_worth 92 = .ok (.iaload, 1) := by decide +kernel
theorem dX12_worth_93 : decode cX12_worth 93 = .ok (.iload 4, 2) := by decide +kernel
theorem dX12_worth_95 : decode cX12_worth 95 = .ok (.if_icmp .eq 6, 3) := by decide +kernel
theorem dX12_worth_98 : decode cX12_worth 98 = .ok (.ldc 139, 2) := by decide +kernel
theorem dX12_worth_100 : decode cX12_worth 100 = .ok (.ireturn, 1) := by decide +kernel
theorem dX12_worth_101 : decode cX12_worth 101 = .ok (.iload_n 3, 1) := by decide +kernel
theorem dX12_worth_102 : decode cX12_worth 102 = .ok (.iload 5, 2) := by decide +kernel
theorem dX12_worth_104 : decode cX12_worth 104 = .ok (.iload 4, 2) := by decide +kernel
theorem dX12_worth_106 : decode cX12_worth 106 = .ok (.if_icmp .le 19, 3) := by decide +kernel
theorem dX12_worth_109 : decode cX12_worth 109 = .ok (.aload_n 0, 1) := by decide +kernel
theorem dX12_worth_110 : decode cX12_worth 110 = .ok (.getfield 23, 3) := by decide +kernel
theorem dX12_worth_113 : decode cX12_worth 113 = .ok (.bipush 6, 2) := by decide +kernel
theorem dX12_worth_115 : decode cX12_worth 115 = .ok (.iload 4, 2) := by decide +kernel
theorem dX12_worth_117 : decode cX12_worth 117 = .ok (.imul, 1) := by decide +kernel
theorem dX12_worth_118 : decode cX12_worth 118 = .ok (.iload 5, 2) := by decide +kernel
theorem dX12_worth_120 : decode cX12_worth 120 = .ok (.iadd, 1) := by decide +kernel
theorem dX12_worth_121 : decode cX12_worth 121 = .ok (.iaload, 1) := by decide +kernel
theorem dX12_worth_122 : decode cX12_worth 122 = .ok (.goto 4, 3) := by decide +kernel
theorem dX12_worth_125 : decode cX12_worth 125 = .ok (.iconst 0, 1) := by decide +kernel
theorem dX12_worth_126 : decode cX12_worth 126 = .ok (.iadd, 1) := by decide +kernel
theorem dX12_worth_127 : decode cX12_worth 127 = .ok (.istore_n 3, 1) := by decide +kernel
theorem dX12_worth_128 : decode cX12_worth 128 = .ok (.iinc 4 1, 3) := by decide +kernel
theorem dX12_worth_131 : decode cX12_worth 131 = .ok (.goto (-88), 3) := by decide +kernel
theorem dX12_worth_134 : decode cX12_worth 134 = .ok (.iload_n 3, 1) := by decide +kernel
theorem dX12_worth_135 : decode cX12_worth 135 = .ok (.ireturn, 1) := by decide +kernel
theorem dX12_mates_0 : decode cX12_mates 0 = .ok (.iload_n 1, 1) := by decide +kernel
theorem dX12_mates_1 : decode cX12_mates 1 = .ok (.iconst (-1), 1) := by decide +kernel
theorem dX12_mates_2 : decode cX12_mates 2 = .ok (.if_icmp .eq 14, 3) := by decide +kernel
theorem dX12_mates_5 : decode cX12_mates 5 = .ok (.aload_n 0, 1) := by decide +kernel
theorem dX12_mates_6 : decode cX12_mates 6 = .ok (.iload_n 1, 1) := by decide +kernel
theorem dX12_mates_7 : decode cX12_mates 7 = .ok (.invokevirtual 136, 3) := by decide +kernel
theorem dX12_mates_10 : decode cX12_mates 10 = .ok (.ifCond .ne 6, 3) := by decide +kernel
theorem dX12_mates_13 : decode cX12_mates 13 = .ok (.ldc 139, 2) := by decide +kernel
theorem dX12_mates_15 : decode cX12_mates 15 = .ok (.ireturn, 1) := by decide +kernel
theorem dX12_mates_16 : decode cX12_mates 16 = .ok (.iconst 1, 1) := by decide +kernel
theorem dX12_mates_17 : decode cX12_mates 17 = .ok (.istore_n 2, 1) := by decide +kernel
theorem dX12_mates_18 : decode cX12_mates 18 = .ok (.iconst 0, 1) := by decide +kernel
theorem dX12_mates_19 : decode cX12_mates 19 = .ok (.istore_n 3, 1) := by decide +kernel
theorem dX12_mates_20 : decode cX12_mates 20 = .ok (.iload_n 3, 1) := by decide +kernel
theorem dX12_mates_21 : decode cX12_mates 21 = .ok (.aload_n 0, 1) := by decide +kernel
theorem dX12_mates_22 : decode cX12_mates 22 = .ok (.getfield 13, 3) := by decide +kernel
theorem dX12_mates_25 : decode cX12_mates 25 = .ok (.iconst 0, 1) := by decide +kernel
theorem dX12_mates_26 : decode cX12_mates 26 = .ok (.iaload, 1) := by decide +kernel
theorem dX12_mates_27 : decode cX12_mates 27 = .ok (.if_icmp .ge 14, 3) := by decide +kernel
theorem dX12_mates_30 : decode cX12_mates 30 = .ok (.iload_n 2, 1) := by decide +kernel
theorem dX12_mates_31 : decode cX12_mates 31 = .ok (.bipush 7, 2) := by decide +kernel
theorem dX12_mates_33 : decode cX12_mates 33 = .ok (.imul, 1) := by decide +kernel
theorem dX12_mates_34 : decode cX12_mates 34 = .ok (.istore_n 2, 1) := by decide +kernel
theorem dX12_mates_35 : decode cX12_mates 35 = .ok (.iinc 3 1, 3) := by decide +kernel
theorem dX12_mates_38 : decode cX12_mates 38 = .ok (.goto (-18), 3) := by decide +kernel
theorem dX12_mates_41 : decode cX12_mates 41 = .ok (.iconst 0, 1) := by decide +kernel
theorem dX12_mates_42 : decode cX12_mates 42 = .ok (.istore_n 3, 1) := by decide +kernel
theorem dX12_mates_43 : decode cX12_mates 43 = .ok (.iconst 0, 1) := by decide +kernel
theorem dX12_mates_44 : decode cX12_mates 44 = .ok (.istore 4, 2) := by decide +kernel
theorem dX12_mates_46 : decode cX12_mates 46 = .ok (.iconst 0, 1) := by decide +kernel
theorem dX12_mates_47 : decode cX12_mates 47 = .ok (.istore 5, 2) := by decide +kernel
theorem dX12_mates_49 : decode cX12_mates 49 = .ok (.iload 5, 2) := by decide +kernel
theorem dX12_mates_51 : decode cX12_mates 51 = .ok (.iload_n 2, 1) := by decide +kernel
theorem dX12_mates_52 : decode cX12_mates 52 = .ok (.if_icmp .ge 31, 3) := by decide +kernel
theorem dX12_mates_55 : decode cX12_mates 55 = .ok (.aload_n 0, 1) := by decide +kernel
theorem dX12_mates_56 : decode cX12_mates 56 = .ok (.iload 5, 2) := by decide +kernel
theorem dX12_mates_58 : decode cX12_mates 58 = .ok (.invokevirtual 170, 3) := by decide +kernel
theorem dX12_mates_61 : decode cX12_mates 61 = .ok (.istore 6, 2) := by decide +kernel
theorem dX12_mates_63 : decode cX12_mates 63 = .ok (.iload 6, 2) := by decide +kernel
theorem dX12_mates_65 : decode cX12_mates 65 = .ok (.iload 4, 2) := by decide +kernel
theorem dX12_mates_67 : decode cX12_mates 67 = .ok (.if_icmp .le 10, 3) := by decide +kernel
theorem dX12_mates_70 : decode cX12_mates 70 = .ok (.iload 5, 2) := by decide +kernel
theorem dX12_mates_72 : decode cX12_mates 72 = .ok (.istore_n 3, 1) := by decide +kernel
theorem dX12_mates_73 : decode cX12_mates 73 = .ok (.iload 6, 2) := by decide +kernel
theorem dX12_mates_75 : decode cX12_mates 75 = .ok (.istore 4, 2) := by decide +kernel
theorem dX12_mates_77 : decode cX12_mates 77 = .ok (.iinc 5 1, 3) := by decide +kernel
theorem dX12_mates_80 : decode cX12_mates 80 = .ok (.goto (-31), 3) := by decide +kernel
theorem dX12_mates_83 : decode cX12_mates 83 = .ok (.aload_n 0, 1) := by decide +kernel
theorem dX12_mates_84 : decode cX12_mates 84 = .ok (.iload_n 3, 1) := by decide +kernel
theorem dX12_mates_85 : decode cX12_mates 85 = .ok (.invokevirtual 170, 3) := by decide +kernel
theorem dX12_mates_88 : decode cX12_mates 88 = .ok (.istore 5, 2) := by decide +kernel
theorem dX12_mates_90 : decode cX12_mates 90 = .ok (.iload_n 1, 1) := by decide +kernel
theorem dX12_mates_91 : decode cX12_mates 91 = .ok (.iconst (-1), 1) := by decide +kernel
theorem dX12_mates_92 : decode cX12_mates 92 = .ok (.if_icmp .ne 8, 3) := by decide +kernel
theorem dX12_mates_95 : decode cX12_mates 95 = .ok (.iload 5, 2) := by decide +kernel
theorem dX12_mates_97 : decode cX12_mates 97 = .ok (.goto 23, 3) := by decide +kernel
theorem dX12_mates_100 : decode cX12_mates 100 = .ok (.aload_n 0, 1) := by decide +kernel
theorem dX12_mates_101 : decode cX12_mates 101 = .ok (.getfield 48, 3) := by decide +kernel
theorem dX12_mates_104 : decode cX12_mates 104 = .ok (.iload_n 1, 1) := by decide +kernel
theorem dX12_mates_105 : decode cX12_mates 105 = .ok (.iaload, 1) := by decide +kernel
theorem dX12_mates_106 : decode cX12_mates 106 = .ok (.ifCond .ge 8, 3) := by decide +kernel
theorem dX12_mates_109 : decode cX12_mates 109 = .ok (.bipush (-9), 2) := by decide +kernel
theorem dX12_mates_111 : decode cX12_mates 111 = .ok (.goto 9, 3) := by decide +kernel
theorem dX12_mates_114 : decode cX12_mates 114 = .ok (.aload_n 0, 1) := by decide +kernel
theorem dX12_mates_115 : decode cX12_mates 115 = .ok (.getfield 48, 3) := by decide +kernel
theorem dX12_mates_118 : decode cX12_mates 118 = .ok (.iload_n 1, 1) := by decide +kernel
theorem dX12_mates_119 : decode cX12_mates 119 = .ok (.iaload, 1) := by decide +kernel
theorem dX12_mates_120 : decode cX12_mates 120 = .ok (.ireturn, 1) := by decide +kernel
theorem dX12_lights_0 : decode cX12_lights 0 = .ok (.aload_n 0, 1) := by decide +kernel
theorem dX12_lights_1 : decode cX12_lights 1 = .ok (.iload_n 1, 1) := by decide +kernel
theorem dX12_lights_2 : decode cX12_lights 2 = .ok (.invokevirtual 150, 3) := by decide +kernel
theorem dX12_lights_5 : decode cX12_lights 5 = .ok (.ifCond .eq 18, 3) := by decide +kernel
theorem dX12_lights_8 : decode cX12_lights 8 = .ok (.iload_n 1, 1) := by decide +kernel
theorem dX12_lights_9 : decode cX12_lights 9 = .ok (.ifCond .eq 14, 3) := by decide +kernel
theorem dX12_lights_12 : decode cX12_lights 12 = .ok (.iload_n 2, 1) := by decide +kernel
theorem dX12_lights_13 : decode cX12_lights 13 = .ok (.iconst 0, 1) := by decide +kernel
theorem dX12_lights_14 : decode cX12_lights 14 = .ok (.sipush 499, 3) := by decide +kernel
theorem dX12_lights_17 : decode cX12_lights 17 = .ok (.invokestatic 69, 3) := by decide +kernel
theorem dX12_lights_20 : decode cX12_lights 20 = .ok (.ifCond .ne 5, 3) := by decide +kernel
theorem dX12_lights_23 : decode cX12_lights 23 = .ok (.iconst (-1), 1) := by decide +kernel
theorem dX12_lights_24 : decode cX12_lights 24 = .ok (.ireturn, 1) := by decide +kernel
theorem dX12_lights_25 : decode cX12_lights 25 = .ok (.aload_n 0, 1) := by decide +kernel
theorem dX12_lights_26 : decode cX12_lights 26 = .ok (.getfield 118, 3) := by decide +kernel
theorem dX12_lights_29 : decode cX12_lights 29 = .ok (.bipush 6, 2) := by decide +kernel
theorem dX12_lights_31 : decode cX12_lights 31 = .ok (.if_icmp .ne 6, 3) := by decide +kernel
theorem dX12_lights_34 : decode cX12_lights 34 = .ok (.bipush (-3), 2) := by decide +kernel
theorem dX12_lights_36 : decode cX12_lights 36 = .ok (.ireturn, 1) := by decide +kernel
theorem dX12_lights_37 : decode cX12_lights 37 = .ok (.aload_n 0, 1) := by decide +kernel
theorem dX12_lights_38 : decode cX12_lights 38 = .ok (.getfield 51, 3) := by decide +kernel
theorem dX12_lights_41 : decode cX12_lights 41 = .ok (.aload_n 0, 1) := by decide +kernel
theorem dX12_lights_42 : decode cX12_lights 42 = .ok (.getfield 118, 3) := by decide +kernel
theorem dX12_lights_45 : decode cX12_lights 45 = .ok (.iload_n 1, 1) := by decide +kernel
theorem dX12_lights_46 : decode cX12_lights 46 = .ok (.iastore, 1) := by decide +kernel
theorem dX12_lights_47 : decode cX12_lights 47 = .ok (.aload_n 0, 1) := by decide +kernel
theorem dX12_lights_48 : decode cX12_lights 48 = .ok (.getfield 54, 3) := by decide +kernel
theorem dX12_lights_51 : decode cX12_lights 51 = .ok (.aload_n 0, 1) := by decide +kernel
theorem dX12_lights_52 : decode cX12_lights 52 = .ok (.getfield 118, 3) := by decide +kernel
theorem dX12_lights_55 : decode cX12_lights 55 = .ok (.iload_n 2, 1) := by decide +kernel
theorem dX12_lights_56 : decode cX12_lights 56 = .ok (.iastore, 1) := by decide +kernel
theorem dX12_lights_57 : decode cX12_lights 57 = .ok (.aload_n 0, 1) := by decide +kernel
theorem dX12_lights_58 : decode cX12_lights 58 = .ok (.dup, 1) := by decide +kernel
theorem dX12_lights_59 : decode cX12_lights 59 = .ok (.getfield 118, 3) := by decide +kernel
theorem dX12_lights_62 : decode cX12_lights 62 = .ok (.iconst 1, 1) := by decide +kernel
theorem dX12_lights_63 : decode cX12_lights 63 = .ok (.iadd, 1) := by decide +kernel
theorem dX12_lights_64 : decode cX12_lights 64 = .ok (.putfield 118, 3) := by decide +kernel
theorem dX12_lights_67 : decode cX12_lights 67 = .ok (.aload_n 0, 1) := by decide +kernel
theorem dX12_lights_68 : decode cX12_lights 68 = .ok (.getfield 118, 3) := by decide +kernel
theorem dX12_lights_71 : decode cX12_lights 71 = .ok (.ireturn, 1) := by decide +kernel
theorem dX12_forget_0 : decode cX12_forget 0 = .ok (.aload_n 0, 1) := by decide +kernel
theorem dX12_forget_1 : decode cX12_forget 1 = .ok (.getfield 118, 3) := by decide +kernel
theorem dX12_forget_4 : decode cX12_forget 4 = .ok (.aload_n 0, 1) := by decide +kernel
theorem dX12_forget_5 : decode cX12_forget 5 = .ok (.getfield 121, 3) := by decide +kernel
theorem dX12_forget_8 : decode cX12_forget 8 = .ok (.iadd, 1) := by decide +kernel
theorem dX12_forget_9 : decode cX12_forget 9 = .ok (.istore_n 1, 1) := by decide +kernel
theorem dX12_forget_10 : decode cX12_forget 10 = .ok (.aload_n 0, 1) := by decide +kernel
theorem dX12_forget_11 : decode cX12_forget 11 = .ok (.iconst 0, 1) := by decide +kernel
theorem dX12_forget_12 : decode cX12_forget 12 = .ok (.putfield 118, 3) := by decide +kernel
theorem dX12_forget_15 : decode cX12_forget 15 = .ok (.aload_n 0, 1) := by decide +kernel
theorem dX12_forget_16 : decode cX12_forget 16 = .ok (.iconst 0, 1) := by decide +kernel
theorem dX12_forget_17 : decode cX12_forget 17 = .ok (.putfield 121, 3) := by decide +kernel
theorem dX12_forget_20 : decode cX12_forget 20 = .ok (.iload_n 1, 1) := by decide +kernel
theorem dX12_forget_21 : decode cX12_forget 21 = .ok (.ireturn, 1) := by decide +kernel
theorem dX12_whose_0 : decode cX12_whose 0 = .ok (.iconst 0, 1) := by decide +kernel
theorem dX12_whose_1 : decode cX12_whose 1 = .ok (.istore_n 1, 1) := by decide +kernel
theorem dX12_whose_2 : decode cX12_whose 2 = .ok (.aload_n 0, 1) := by decide +kernel
theorem dX12_whose_3 : decode cX12_whose 3 = .ok (.invokevirtual 156, 3) := by decide +kernel
theorem dX12_whose_6 : decode cX12_whose 6 = .ok (.iconst 0, 1) := by decide +kernel
theorem dX12_whose_7 : decode cX12_whose 7 = .ok (.istore_n 2, 1) := by decide +kernel
theorem dX12_whose_8 : decode cX12_whose 8 = .ok (.iload_n 2, 1) := by decide +kernel
theorem dX12_whose_9 : decode cX12_whose 9 = .ok (.aload_n 0, 1) := by decide +kernel
theorem dX12_whose_10 : decode cX12_whose 10 = .ok (.getfield 13, 3) := by decide +kernel
theorem dX12_whose_13 : decode cX12_whose 13 = .ok (.iconst 0, 1) := by decide +kernel
theorem dX12_whose_14 : decode cX12_whose 14 = .ok (.iaload, 1) := by decide +kernel
theorem dX12_whose_15 : decode cX12_whose 15 = .ok (.if_icmp .ge 97, 3) := by decide +kernel
theorem dX12_whose_18 : decode cX12_whose 18 = .ok (.iconst 1, 1) := by decide +kernel
theorem dX12_whose_19 : decode cX12_whose 19 = .ok (.istore_n 3, 1) := by decide +kernel
theorem dX12_whose_20 : decode cX12_whose 20 = .ok (.iconst 0, 1) := by decide +kernel
theorem dX12_whose_21 : decode cX12_whose 21 = .ok (.istore 4, 2) := by decide +kernel
theorem dX12_whose_23 : decode cX12_whose 23 = .ok (.iload 4, 2) := by decide +kernel
theorem dX12_whose_25 : decode cX12_whose 25 = .ok (.aload_n 0, 1) := by decide +kernel
theorem dX12_whose_26 : decode cX12_whose 26 = .ok (.getfield 118, 3) := by decide +kernel
theorem dX12_whose_29 : decode cX12_whose 29 = .ok (.if_icmp .ge 63, 3) := by decide +kernel
theorem dX12_whose_32 : decode cX12_whose 32 = .ok (.iload_n 3, 1) := by decide +kernel
theorem dX12_whose_33 : decode cX12_whose 33 = .ok (.ifCond .eq 51, 3) := by decide +kernel
theorem dX12_whose_36 : decode cX12_whose 36 = .ok (.aload_n 0, 1) := by decide +kernel
theorem dX12_whose_37 : decode cX12_whose 37 = .ok (.getfield 51, 3) := by decide +kernel
theorem dX12_whose_40 : decode cX12_whose 40 = .ok (.iload 4, 2) := by decide +kernel
theorem dX12_whose_42 : decode cX12_whose 42 = .ok (.iaload, 1) := by decide +kernel
theorem dX12_whose_43 : decode cX12_whose 43 = .ok (.iload_n 2, 1) := by decide +kernel
theorem dX12_whose_44 : decode cX12_whose 44 = .ok (.ishr, 1) := by decide +kernel
theorem dX12_whose_45 : decode cX12_whose 45 = .ok (.iconst 1, 1) := by decide +kernel
theorem dX12_whose_46 : decode cX12_whose 46 = .ok (.iand, 1) := by decide +kernel
theorem dX12_whose_47 : decode cX12_whose 47 = .ok (.iconst 1, 1) := by decide +kernel
theorem dX12_whose_48 : decode cX12_whose 48 = .ok (.if_icmp .ne 36, 3) := by decide +kernel
theorem dX12_whose_51 : decode cX12_whose 51 = .ok (.aload_n 0, 1) := by decide +kernel
theorem dX12_whose_52 : decode cX12_whose 52 = .ok (.aload_n 0, 1) := by decide +kernel
theorem dX12_whose_53 : decode cX12_whose 53 = .ok (.getfield 39, 3) := by decide +kernel
theorem dX12_whose_56 : decode cX12_whose 56 = .ok (.iconst 0, 1) := by decide +kernel
theorem dX12_whose_57 : decode cX12_whose 57 = .ok (.aload_n 0, 1) := by decide +kernel
theorem dX12_whose_58 : decode cX12_whose 58 = .ok (.getfield 51, 3) := by decide +kernel
theorem dX12_whose_61 : decode cX12_whose 61 = .ok (.iload 4, 2) := by decide +kernel
theorem dX12_whose_63 : decode cX12_whose 63 = .ok (.iaload, 1) := by decide +kernel
theorem dX12_whose_64 : decode cX12_whose 64 = .ok (.iload_n 2, 1) := by decide +kernel
theorem dX12_whose_65 : decode cX12_whose 65 = .ok (.invokevirtual 143, 3) := by decide +kernel
theorem dX12_whose_68 : decode cX12_whose 68 = .ok (.iconst 2, 1) := by decide +kernel
theorem dX12_whose_69 : decode cX12_whose 69 = .ok (.idiv, 1) := by decide +kernel
theorem dX12_whose_70 : decode cX12_whose 70 = .ok (.aload_n 0, 1) := by decide +kernel
theorem dX12_whose_71 : decode cX12_whose 71 = .ok (.getfield 54, 3) := by decide +kernel
theorem dX12_whose_74 : decode cX12_whose 74 = .ok (.iload 4, 2) := by decide +kernel
theorem dX12_whose_76 : decode cX12_whose 76 = .ok (.iaload, 1) := by decide +kernel
theorem dX12_whose_77 : decode cX12_whose 77 = .ok (.if_icmp .ne 7, 3) := by decide +kernel
theorem dX12_whose_80 : decode cX12_whose 80 = .ok (.iconst 1, 1) := by decide +kernel
theorem dX12_whose_81 : decode cX12_whose 81 = .ok (.goto 4, 3) := by decide +kernel
theorem dX12_whose_84 : decode cX12_whose 84 = .ok (.iconst 0, 1) := by decide +kernel
theorem dX12_whose_85 : decode cX12_whose 85 = .ok (.istore_n 3, 1) := by decide +kernel
theorem dX12_whose_86 : decode cX12_whose 86 = .ok (.iinc 4 1, 3) := by decide +kernel
theorem dX12_whose_89 : decode cX12_whose 89 = .ok (.goto (-66), 3) := by decide +kernel
theorem dX12_whose_92 : decode cX12_whose 92 = .ok (.iload_n 1, 1) := by decide +kernel
theorem dX12_whose_93 : decode cX12_whose 93 = .ok (.iload_n 3, 1) := by decide +kernel
theorem dX12_whose_94 : decode cX12_whose 94 = .ok (.ifCond .eq 9, 3) := by decide +kernel
theorem dX12_whose_97 : decode cX12_whose 97 = .ok (.iconst 1, 1) := by decide +kernel
theorem dX12_whose_98 : decode cX12_whose 98 = .ok (.iload_n 2, 1) := by decide +kernel
theorem dX12_whose_99 : decode cX12_whose 99 = .ok (.ishl, 1) := by decide +kernel
theorem dX12_whose_100 : decode cX12_whose 100 = .ok (.goto 4, 3) := by decide +kernel
theorem dX12_whose_103 : decode cX12_whose 103 = .ok (.iconst 0, 1) := by decide +kernel
theorem dX12_whose_104 : decode cX12_whose 104 = .ok (.ior, 1) := by decide +kernel
theorem dX12_whose_105 : decode cX12_whose 105 = .ok (.istore_n 1, 1) := by decide +kernel
theorem dX12_whose_106 : decode cX12_whose 106 = .ok (.iinc 2 1, 3) := by decide +kernel
theorem dX12_whose_109 : decode cX12_whose 109 = .ok (.goto (-101), 3) := by decide +kernel
theorem dX12_whose_112 : decode cX12_whose 112 = .ok (.iload_n 1, 1) := by decide +kernel
theorem dX12_whose_113 : decode cX12_whose 113 = .ok (.ireturn, 1) := by decide +kernel
theorem dX12_sold_0 : decode cX12_sold 0 = .ok (.iload_n 1, 1) := by decide +kernel
theorem dX12_sold_1 : decode cX12_sold 1 = .ok (.iconst 0, 1) := by decide +kernel
theorem dX12_sold_2 : decode cX12_sold 2 = .ok (.sipush 999, 3) := by decide +kernel
theorem dX12_sold_5 : decode cX12_sold 5 = .ok (.invokestatic 69, 3) := by decide +kernel
theorem dX12_sold_8 : decode cX12_sold 8 = .ok (.ifCond .eq 12, 3) := by decide +kernel
theorem dX12_sold_11 : decode cX12_sold 11 = .ok (.iload_n 2, 1) := by decide +kernel
theorem dX12_sold_12 : decode cX12_sold 12 = .ok (.iconst 0, 1) := by decide +kernel
theorem dX12_sold_13 : decode cX12_sold 13 = .ok (.iconst 1, 1) := by decide +kernel
theorem dX12_sold_14 : decode cX12_sold 14 = .ok (.invokestatic 69, 3) := by decide +kernel
theorem dX12_sold_17 : decode cX12_sold 17 = .ok (.ifCond .ne 5, 3) := by decide +kernel
theorem dX12_sold_20 : decode cX12_sold 20 = .ok (.iconst (-1), 1) := by decide +kernel
theorem dX12_sold_21 : decode cX12_sold 21 = .ok (.ireturn, 1) := by decide +kernel
theorem dX12_sold_22 : decode cX12_sold 22 = .ok (.iconst 0, 1) := by decide +kernel
theorem dX12_sold_23 : decode cX12_sold 23 = .ok (.istore_n 3, 1) := by decide +kernel
theorem dX12_sold_24 : decode cX12_sold 24 = .ok (.iconst 0, 1) := by decide +kernel
theorem dX12_sold_25 : decode cX12_sold 25 = .ok (.istore 4, 2) := by decide +kernel
theorem dX12_sold_27 : decode cX12_sold 27 = .ok (.iconst 0, 1) := by decide +kernel
theorem dX12_sold_28 : decode cX12_sold 28 = .ok (.istore 5, 2) := by decide +kernel
theorem dX12_sold_30 : decode cX12_sold 30 = .ok (.iload 5, 2) := by decide +kernel
theorem dX12_sold_32 : decode cX12_sold 32 = .ok (.iconst 1, 1) := by decide +kernel
theorem dX12_sold_33 : decode cX12_sold 33 = .ok (.aload_n 0, 1) := by decide +kernel
theorem dX12_sold_34 : decode cX12_sold 34 = .ok (.getfield 13, 3) := by decide +kernel
theorem dX12_sold_37 : decode cX12_sold 37 = .ok (.iconst 0, 1) := by decide +kernel
theorem dX12_sold_38 : decode cX12_sold 38 = .ok (.iaload, 1) := by decide +kernel
theorem dX12_sold_39 : decode cX12_sold 39 = .ok (.ishl, 1) := by decide +kernel
theorem dX12_sold_40 : decode cX12_sold 40 = .ok (.if_icmp .ge 82, 3) := by decide +kernel
theorem dX12_sold_43 : decode cX12_sold 43 = .ok (.iconst 0, 1) := by decide +kernel
theorem dX12_sold_44 : decode cX12_sold 44 = .ok (.istore 6, 2) := by decide +kernel
theorem dX12_sold_46 : decode cX12_sold 46 = .ok (.iconst 0, 1) := by decide +kernel
theorem dX12_sold_47 : decode cX12_sold 47 = .ok (.istore 7, 2) := by decide +kernel
theorem dX12_sold_49 : decode cX12_sold 49 = .ok (.iload 7, 2) := by decide +kernel
theorem dX12_sold_51 : decode cX12_sold 51 = .ok (.aload_n 0, 1) := by decide +kernel
theorem dX12_sold_52 : decode cX12_sold 52 = .ok (.getfield 13, 3) := by decide +kernel
theorem dX12_sold_55 : decode cX12_sold 55 = .ok (.iconst 0, 1) := by decide +kernel
theorem dX12_sold_56 : decode cX12_sold 56 = .ok (.iaload, 1) := by decide +kernel
theorem dX12_sold_57 : decode cX12_sold 57 = .ok (.if_icmp .ge 39, 3) := by decide +kernel
theorem dX12_sold_60 : decode cX12_sold 60 = .ok (.iload 6, 2) := by decide +kernel
theorem dX12_sold_62 : decode cX12_sold 62 = .ok (.iload 5, 2) := by decide +kernel
theorem dX12_sold_64 : decode cX12_sold 64 = .ok (.iload 7, 2) := by decide +kernel
theorem dX12_sold_66 : decode cX12_sold 66 = .ok (.ishr, 1) := by decide +kernel
theorem dX12_sold_67 : decode cX12_sold 67 = .ok (.iconst 1, 1) := by decide +kernel
theorem dX12_sold_68 : decode cX12_sold 68 = .ok (.iand, 1) := by decide +kernel
theorem dX12_sold_69 : decode cX12_sold 69 = .ok (.iconst 1, 1) := by decide +kernel
theorem dX12_sold_70 : decode cX12_sold 70 = .ok (.if_icmp .ne 16, 3) := by decide +kernel
theorem dX12_sold_73 : decode cX12_sold 73 = .ok (.aload_n 0, 1) := by decide +kernel
theorem dX12_sold_74 : decode cX12_sold 74 = .ok (.getfield 32, 3) := by decide +kernel
theorem dX12_sold_77 : decode cX12_sold 77 = .ok (.bipush 6, 2) := by decide +kernel
theorem dX12_sold_79 : decode cX12_sold 79 = .ok (.iload 7, 2) := by decide +kernel
theorem dX12_sold_81 : decode cX12_sold 81 = .ok (.iadd, 1) := by decide +kernel
theorem dX12_sold_82 : decode cX12_sold 82 = .ok (.iaload, 1) := by decide +kernel
theorem dX12_sold_83 : decode cX12_sold 83 = .ok (.goto 4, 3) := by decide +kernel
theorem dX12_sold_86 : decode cX12_sold 86 = .ok (.iconst 0, 1) := by decide +kernel
theorem dX12_sold_87 : decode cX12_sold 87 = .ok (.iadd, 1) := by decide +kernel
theorem dX12_sold_88 : decode cX12_sold 88 = .ok (.istore 6, 2) := by decide +kernel
theorem dX12_sold_90 : decode cX12_sold 90 = .ok (.iinc 7 1, 3) := by decide +kernel
theorem dX12_sold_93 : decode cX12_sold 93 = .ok (.goto (-44), 3) := by decide +kernel
theorem dX12_sold_96 : decode cX12_sold 96 = .ok (.iload 6, 2) := by decide +kernel
theorem dX12_sold_98 : decode cX12_sold 98 = .ok (.iload_n 1, 1) := by decide +kernel
theorem dX12_sold_99 : decode cX12_sold 99 = .ok (.if_icmp .gt 17, 3) := by decide +kernel
theorem dX12_sold_102 : decode cX12_sold 102 = .ok (.iload 6, 2) := by decide +kernel
theorem dX12_sold_104 : decode cX12_sold 104 = .ok (.iload 4, 2) := by decide +kernel
theorem dX12_sold_106 : decode cX12_sold 106 = .ok (.if_icmp .le 10, 3) := by decide +kernel
theorem dX12_sold_109 : decode cX12_sold 109 = .ok (.iload 5, 2) := by decide +kernel
theorem dX12_sold_111 : decode cX12_sold 111 = .ok (.istore_n 3, 1) := by decide +kernel
theorem dX12_sold_112 : decode cX12_sold 112 = .ok (.iload 6, 2) := by decide +kernel
theorem dX12_sold_114 : decode cX12_sold 114 = .ok (.istore 4, 2) := by decide +kernel
theorem dX12_sold_116 : decode cX12_sold 116 = .ok (.iinc 5 1, 3) := by decide +kernel
theorem dX12_sold_119 : decode cX12_sold 119 = .ok (.goto (-89), 3) := by decide +kernel
theorem dX12_sold_122 : decode cX12_sold 122 = .ok (.iload_n 2, 1) := by decide +kernel
theorem dX12_sold_123 : decode cX12_sold 123 = .ok (.ifCond .ne 8, 3) := by decide +kernel
theorem dX12_sold_126 : decode cX12_sold 126 = .ok (.iload 4, 2) := by decide +kernel
theorem dX12_sold_128 : decode cX12_sold 128 = .ok (.goto 4, 3) := by decide +kernel
theorem dX12_sold_131 : decode cX12_sold 131 = .ok (.iload_n 3, 1) := by decide +kernel
theorem dX12_sold_132 : decode cX12_sold 132 = .ok (.ireturn, 1) := by decide +kernel
theorem dX12_tells_0 : decode cX12_tells 0 = .ok (.iload_n 1, 1) := by decide +kernel
theorem dX12_tells_1 : decode cX12_tells 1 = .ok (.iconst 0, 1) := by decide +kernel
theorem dX12_tells_2 : decode cX12_tells 2 = .ok (.bipush 99, 2) := by decide +kernel
theorem dX12_tells_4 : decode cX12_tells 4 = .ok (.invokestatic 69, 3) := by decide +kernel
theorem dX12_tells_7 : decode cX12_tells 7 = .ok (.ifCond .eq 14, 3) := by decide +kernel
theorem dX12_tells_10 : decode cX12_tells 10 = .ok (.iload_n 2, 1) := by decide +kernel
theorem dX12_tells_11 : decode cX12_tells 11 = .ok (.iconst 0, 1) := by decide +kernel
theorem dX12_tells_12 : decode cX12_tells 12 = .ok (.sipush 299, 3) := by decide +kernel
theorem dX12_tells_15 : decode cX12_tells 15 = .ok (.invokestatic 69, 3) := by decide +kernel
theorem dX12_tells_18 : decode cX12_tells 18 = .ok (.ifCond .ne 5, 3) := by decide +kernel
theorem dX12_tells_21 : decode cX12_tells 21 = .ok (.iconst (-1), 1) := by decide +kernel
theorem dX12_tells_22 : decode cX12_tells 22 = .ok (.ireturn, 1) := by decide +kernel
theorem dX12_tells_23 : decode cX12_tells 23 = .ok (.aload_n 0, 1) := by decide +kernel
theorem dX12_tells_24 : decode cX12_tells 24 = .ok (.getfield 121, 3) := by decide +kernel
theorem dX12_tells_27 : decode cX12_tells 27 = .ok (.bipush 6, 2) := by decide +kernel
theorem dX12_tells_29 : decode cX12_tells 29 = .ok (.if_icmp .ne 6, 3) := by decide +kernel
theorem dX12_tells_32 : decode cX12_tells 32 = .ok (.bipush (-3), 2) := by decide +kernel
theorem dX12_tells_34 : decode cX12_tells 34 = .ok (.ireturn, 1) := by decide +kernel
theorem dX12_tells_35 : decode cX12_tells 35 = .ok (.aload_n 0, 1) := by decide +kernel
theorem dX12_tells_36 : decode cX12_tells 36 = .ok (.getfield 57, 3) := by decide +kernel
theorem dX12_tells_39 : decode cX12_tells 39 = .ok (.aload_n 0, 1) := by decide +kernel
theorem dX12_tells_40 : decode cX12_tells 40 = .ok (.getfield 121, 3) := by decide +kernel
theorem dX12_tells_43 : decode cX12_tells 43 = .ok (.iload_n 1, 1) := by decide +kernel
theorem dX12_tells_44 : decode cX12_tells 44 = .ok (.iastore, 1) := by decide +kernel
theorem dX12_tells_45 : decode cX12_tells 45 = .ok (.aload_n 0, 1) := by decide +kernel
theorem dX12_tells_46 : decode cX12_tells 46 = .ok (.getfield 60, 3) := by decide +kernel
theorem dX12_tells_49 : decode cX12_tells 49 = .ok (.aload_n 0, 1) := by decide +kernel
theorem dX12_tells_50 : decode cX12_tells 50 = .ok (.getfield 121, 3) := by decide +kernel
theorem dX12_tells_53 : decode cX12_tells 53 = .ok (.iload_n 2, 1) := by decide +kernel
theorem dX12_tells_54 : decode cX12_tells 54 = .ok (.iastore, 1) := by decide +kernel
theorem dX12_tells_55 : decode cX12_tells 55 = .ok (.aload_n 0, 1) := by decide +kernel
theorem dX12_tells_56 : decode cX12_tells 56 = .ok (.dup, 1) := by decide +kernel
theorem dX12_tells_57 : decode cX12_tells 57 = .ok (.getfield 121, 3) := by decide +kernel
theorem dX12_tells_60 : decode cX12_tells 60 = .ok (.iconst 1, 1) := by decide +kernel
theorem dX12_tells_61 : decode cX12_tells 61 = .ok (.iadd, 1) := by decide +kernel
theorem dX12_tells_62 : decode cX12_tells 62 = .ok (.putfield 121, 3) := by decide +kernel
theorem dX12_tells_65 : decode cX12_tells 65 = .ok (.aload_n 0, 1) := by decide +kernel
theorem dX12_tells_66 : decode cX12_tells 66 = .ok (.getfield 121, 3) := by decide +kernel
theorem dX12_tells_69 : decode cX12_tells 69 = .ok (.ireturn, 1) := by decide +kernel
theorem dX12_grown_0 : decode cX12_grown 0 = .ok (.iload_n 1, 1) := by decide +kernel
theorem dX12_grown_1 : decode cX12_grown 1 = .ok (.iload_n 0, 1) := by decide +kernel
theorem dX12_grown_2 : decode cX12_grown 2 = .ok (.bipush 10, 2) := by decide +kernel
theorem dX12_grown_4 : decode cX12_grown 4 = .ok (.idiv, 1) := by decide +kernel
theorem dX12_grown_5 : decode cX12_grown 5 = .ok (.iload_n 1, 1) := by decide +kernel
theorem dX12_grown_6 : decode cX12_grown 6 = .ok (.imul, 1) := by decide +kernel
theorem dX12_grown_7 : decode cX12_grown 7 = .ok (.bipush 10, 2) := by decide +kernel
theorem dX12_grown_9 : decode cX12_grown 9 = .ok (.idiv, 1) := by decide +kernel
theorem dX12_grown_10 : decode cX12_grown 10 = .ok (.iadd, 1) := by decide +kernel
theorem dX12_grown_11 : decode cX12_grown 11 = .ok (.iload_n 0, 1) := by decide +kernel
theorem dX12_grown_12 : decode cX12_grown 12 = .ok (.bipush 10, 2) := by decide +kernel
theorem dX12_grown_14 : decode cX12_grown 14 = .ok (.irem, 1) := by decide +kernel
theorem dX12_grown_15 : decode cX12_grown 15 = .ok (.iadd, 1) := by decide +kernel
theorem dX12_grown_16 : decode cX12_grown 16 = .ok (.ireturn, 1) := by decide +kernel
theorem dX12_isFit_0 : decode cX12_isFit 0 = .ok (.iconst 1, 1) := by decide +kernel
theorem dX12_isFit_1 : decode cX12_isFit 1 = .ok (.istore_n 2, 1) := by decide +kernel
theorem dX12_isFit_2 : decode cX12_isFit 2 = .ok (.iconst 0, 1) := by decide +kernel
theorem dX12_isFit_3 : decode cX12_isFit 3 = .ok (.istore_n 3, 1) := by decide +kernel
theorem dX12_isFit_4 : decode cX12_isFit 4 = .ok (.iload_n 3, 1) := by decide +kernel
theorem dX12_isFit_5 : decode cX12_isFit 5 = .ok (.aload_n 0, 1) := by decide +kernel
theorem dX12_isFit_6 : decode cX12_isFit 6 = .ok (.getfield 121, 3) := by decide +kernel
theorem dX12_isFit_9 : decode cX12_isFit 9 = .ok (.if_icmp .ge 38, 3) := by decide +kernel
theorem dX12_isFit_12 : decode cX12_isFit 12 = .ok (.iload_n 2, 1) := by decide +kernel
theorem dX12_isFit_13 : decode cX12_isFit 13 = .ok (.ifCond .eq 26, 3) := by decide +kernel
theorem dX12_isFit_16 : decode cX12_isFit 16 = .ok (.iload_n 1, 1) := by decide +kernel
theorem dX12_isFit_17 : decode cX12_isFit 17 = .ok (.aload_n 0, 1) := by decide +kernel
theorem dX12_isFit_18 : decode cX12_isFit 18 = .ok (.getfield 57, 3) := by decide +kernel
theorem dX12_isFit_21 : decode cX12_isFit 21 = .ok (.iload_n 3, 1) := by decide +kernel
theorem dX12_isFit_22 : decode cX12_isFit 22 = .ok (.iaload, 1) := by decide +kernel
theorem dX12_isFit_23 : decode cX12_isFit 23 = .ok (.invokestatic 173, 3) := by decide +kernel
theorem dX12_isFit_26 : decode cX12_isFit 26 = .ok (.aload_n 0, 1) := by decide +kernel
theorem dX12_isFit_27 : decode cX12_isFit 27 = .ok (.getfield 60, 3) := by decide +kernel
theorem dX12_isFit_30 : decode cX12_isFit 30 = .ok (.iload_n 3, 1) := by decide +kernel
theorem dX12_isFit_31 : decode cX12_isFit 31 = .ok (.iaload, 1) := by decide +kernel
theorem dX12_isFit_32 : decode cX12_isFit 32 = .ok (.if_icmp .ne 7, 3) := by decide +kernel
theorem dX12_isFit_35 : decode cX12_isFit 35 = .ok (.iconst 1, 1) := by decide +kernel
theorem dX12_isFit_36 : decode cX12_isFit 36 = .ok (.goto 4, 3) := by decide +kernel
theorem dX12_isFit_39 : decode cX12_isFit 39 = .ok (.iconst 0, 1) := by decide +kernel
theorem dX12_isFit_40 : decode cX12_isFit 40 = .ok (.istore_n 2, 1) := by decide +kernel
theorem dX12_isFit_41 : decode cX12_isFit 41 = .ok (.iinc 3 1, 3) := by decide +kernel
theorem dX12_isFit_44 : decode cX12_isFit 44 = .ok (.goto (-40), 3) := by decide +kernel
theorem dX12_isFit_47 : decode cX12_isFit 47 = .ok (.iload_n 2, 1) := by decide +kernel
theorem dX12_isFit_48 : decode cX12_isFit 48 = .ok (.ireturn, 1) := by decide +kernel
theorem dX12_unlike_0 : decode cX12_unlike 0 = .ok (.iconst 0, 1) := by decide +kernel
theorem dX12_unlike_1 : decode cX12_unlike 1 = .ok (.istore_n 2, 1) := by decide +kernel
theorem dX12_unlike_2 : decode cX12_unlike 2 = .ok (.iconst 0, 1) := by decide +kernel
theorem dX12_unlike_3 : decode cX12_unlike 3 = .ok (.istore_n 3, 1) := by decide +kernel
theorem dX12_unlike_4 : decode cX12_unlike 4 = .ok (.iload_n 3, 1) := by decide +kernel
theorem dX12_unlike_5 : decode cX12_unlike 5 = .ok (.bipush 100, 2) := by decide +kernel
theorem dX12_unlike_7 : decode cX12_unlike 7 = .ok (.if_icmp .ge 79, 3) := by decide +kernel
theorem dX12_unlike_10 : decode cX12_unlike 10 = .ok (.aload_n 0, 1) := by decide +kernel
theorem dX12_unlike_11 : decode cX12_unlike 11 = .ok (.iload_n 3, 1) := by decide +kernel
theorem dX12_unlike_12 : decode cX12_unlike 12 = .ok (.invokevirtual 176, 3) := by decide +kernel
theorem dX12_unlike_15 : decode cX12_unlike 15 = .ok (.istore 4, 2) := by decide +kernel
theorem dX12_unlike_17 : decode cX12_unlike 17 = .ok (.iconst 0, 1) := by decide +kernel
theorem dX12_unlike_18 : decode cX12_unlike 18 = .ok (.istore 5, 2) := by decide +kernel
theorem dX12_unlike_20 : decode cX12_unlike 20 = .ok (.iload 5, 2) := by decide +kernel
theorem dX12_unlike_22 : decode cX12_unlike 22 = .ok (.iload_n 3, 1) := by decide +kernel
theorem dX12_unlike_23 : decode cX12_unlike 23 = .ok (.if_icmp .ge 44, 3) := by decide +kernel
theorem dX12_unlike_26 : decode cX12_unlike 26 = .ok (.iload 4, 2) := by decide +kernel
theorem dX12_unlike_28 : decode cX12_unlike 28 = .ok (.ifCond .eq 39, 3) := by decide +kernel
theorem dX12_unlike_31 : decode cX12_unlike 31 = .ok (.aload_n 0, 1) := by decide +kernel
theorem dX12_unlike_32 : decode cX12_unlike 32 = .ok (.iload 5, 2) := by decide +kernel
theorem dX12_unlike_34 : decode cX12_unlike 34 = .ok (.invokevirtual 176, 3) := by decide +kernel
theorem dX12_unlike_37 : decode cX12_unlike 37 = .ok (.ifCond .eq 17, 3) := by decide +kernel
theorem dX12_unlike_40 : decode cX12_unlike 40 = .ok (.iload 5, 2) := by decide +kernel
theorem dX12_unlike_42 : decode cX12_unlike 42 = .ok (.iload_n 1, 1) := by decide +kernel
theorem dX12_unlike_43 : decode cX12_unlike 43 = .ok (.invokestatic 173, 3) := by decide +kernel
theorem dX12_unlike_46 : decode cX12_unlike 46 = .ok (.iload_n 3, 1) := by decide +kernel
theorem dX12_unlike_47 : decode cX12_unlike 47 = .ok (.iload_n 1, 1) := by decide +kernel
theorem dX12_unlike_48 : decode cX12_unlike 48 = .ok (.invokestatic 173, 3) := by decide +kernel
theorem dX12_unlike_51 : decode cX12_unlike 51 = .ok (.if_icmp .eq 7, 3) := by decide +kernel
theorem dX12_unlike_54 : decode cX12_unlike 54 = .ok (.iconst 1, 1) := by decide +kernel
theorem dX12_unlike_55 : decode cX12_unlike 55 = .ok (.goto 4, 3) := by decide +kernel
theorem dX12_unlike_58 : decode cX12_unlike 58 = .ok (.iconst 0, 1) := by decide +kernel
theorem dX12_unlike_59 : decode cX12_unlike 59 = .ok (.istore 4, 2) := by decide +kernel
theorem dX12_unlike_61 : decode cX12_unlike 61 = .ok (.iinc 5 1, 3) := by decide +kernel
theorem dX12_unlike_64 : decode cX12_unlike 64 = .ok (.goto (-44), 3) := by decide +kernel
theorem dX12_unlike_67 : decode cX12_unlike 67 = .ok (.iload_n 2, 1) := by decide +kernel
theorem dX12_unlike_68 : decode cX12_unlike 68 = .ok (.iload 4, 2) := by decide +kernel
theorem dX12_unlike_70 : decode cX12_unlike 70 = .ok (.ifCond .eq 7, 3) := by decide +kernel
theorem dX12_unlike_73 : decode cX12_unlike 73 = .ok (.iconst 1, 1) := by decide +kernel
theorem dX12_unlike_74 : decode cX12_unlike 74 = .ok (.goto 4, 3) := by decide +kernel
theorem dX12_unlike_77 : decode cX12_unlike 77 = .ok (.iconst 0, 1) := by decide +kernel
theorem dX12_unlike_78 : decode cX12_unlike 78 = .ok (.iadd, 1) := by decide +kernel
theorem dX12_unlike_79 : decode cX12_unlike 79 = .ok (.istore_n 2, 1) := by decide +kernel
theorem dX12_unlike_80 : decode cX12_unlike 80 = .ok (.iinc 3 1, 3) := by decide +kernel
theorem dX12_unlike_83 : decode cX12_unlike 83 = .ok (.goto (-79), 3) := by decide +kernel
theorem dX12_unlike_86 : decode cX12_unlike 86 = .ok (.iload_n 2, 1) := by decide +kernel
theorem dX12_unlike_87 : decode cX12_unlike 87 = .ok (.ireturn, 1) := by decide +kernel
theorem dX12_fit_0 : decode cX12_fit 0 = .ok (.iload_n 1, 1) := by decide +kernel
theorem dX12_fit_1 : decode cX12_fit 1 = .ok (.iconst 0, 1) := by decide +kernel
theorem dX12_fit_2 : decode cX12_fit 2 = .ok (.iconst 2, 1) := by decide +kernel
theorem dX12_fit_3 : decode cX12_fit 3 = .ok (.invokestatic 69, 3) := by decide +kernel
theorem dX12_fit_6 : decode cX12_fit 6 = .ok (.ifCond .ne 5, 3) := by decide +kernel
theorem dX12_fit_9 : decode cX12_fit 9 = .ok (.iconst (-1), 1) := by decide +kernel
theorem dX12_fit_10 : decode cX12_fit 10 = .ok (.ireturn, 1) := by decide +kernel
theorem dX12_fit_11 : decode cX12_fit 11 = .ok (.iconst 0, 1) := by decide +kernel
theorem dX12_fit_12 : decode cX12_fit 12 = .ok (.istore_n 2, 1) := by decide +kernel
theorem dX12_fit_13 : decode cX12_fit 13 = .ok (.bipush (-9), 2) := by decide +kernel
theorem dX12_fit_15 : decode cX12_fit 15 = .ok (.istore_n 3, 1) := by decide +kernel
theorem dX12_fit_16 : decode cX12_fit 16 = .ok (.bipush 99, 2) := by decide +kernel
theorem dX12_fit_18 : decode cX12_fit 18 = .ok (.istore 4, 2) := by decide +kernel
theorem dX12_fit_20 : decode cX12_fit 20 = .ok (.iload 4, 2) := by decide +kernel
theorem dX12_fit_22 : decode cX12_fit 22 = .ok (.ifCond .lt 24, 3) := by decide +kernel
theorem dX12_fit_25 : decode cX12_fit 25 = .ok (.aload_n 0, 1) := by decide +kernel
theorem dX12_fit_26 : decode cX12_fit 26 = .ok (.iload 4, 2) := by decide +kernel
theorem dX12_fit_28 : decode cX12_fit 28 = .ok (.invokevirtual 176, 3) := by decide +kernel
theorem dX12_fit_31 : decode cX12_fit 31 = .ok (.ifCond .eq 9, 3) := by decide +kernel
theorem dX12_fit_34 : decode cX12_fit 34 = .ok (.iload 4, 2) := by decide +kernel
theorem dX12_fit_36 : decode cX12_fit 36 = .ok (.istore_n 3, 1) := by decide +kernel
theorem dX12_fit_37 : decode cX12_fit 37 = .ok (.iinc 2 1, 3) := by decide +kernel
theorem dX12_fit_40 : decode cX12_fit 40 = .ok (.iinc 4 (-1), 3) := by decide +kernel
theorem dX12_fit_43 : decode cX12_fit 43 = .ok (.goto (-23), 3) := by decide +kernel
theorem dX12_fit_46 : decode cX12_fit 46 = .ok (.iload_n 1, 1) := by decide +kernel
theorem dX12_fit_47 : decode cX12_fit 47 = .ok (.iconst 2, 1) := by decide +kernel
theorem dX12_fit_48 : decode cX12_fit 48 = .ok (.if_icmp .lt 7, 3) := by decide +kernel
theorem dX12_fit_51 : decode cX12_fit 51 = .ok (.iload_n 2, 1) := by decide +kernel
theorem dX12_fit_52 : decode cX12_fit 52 = .ok (.ifCond .ne 23, 3) := by decide +kernel
theorem dX12_fit_55 : decode cX12_fit 55 = .ok (.iload_n 1, 1) := by decide +kernel
theorem dX12_fit_56 : decode cX12_fit 56 = .ok (.ifCond .ne 7, 3) := by decide +kernel
theorem dX12_fit_59 : decode cX12_fit 59 = .ok (.iload_n 2, 1) := by decide +kernel
theorem dX12_fit_60 : decode cX12_fit 60 = .ok (.goto 14, 3) := by decide +kernel
theorem dX12_fit_63 : decode cX12_fit 63 = .ok (.iload_n 1, 1) := by decide +kernel
theorem dX12_fit_64 : decode cX12_fit 64 = .ok (.iconst 1, 1) := by decide +kernel
theorem dX12_fit_65 : decode cX12_fit 65 = .ok (.if_icmp .ne 7, 3) := by decide +kernel
theorem dX12_fit_68 : decode cX12_fit 68 = .ok (.iload_n 3, 1) := by decide +kernel
theorem dX12_fit_69 : decode cX12_fit 69 = .ok (.goto 5, 3) := by decide +kernel
theorem dX12_fit_72 : decode cX12_fit 72 = .ok (.bipush (-9), 2) := by decide +kernel
theorem dX12_fit_74 : decode cX12_fit 74 = .ok (.ireturn, 1) := by decide +kernel
theorem dX12_fit_75 : decode cX12_fit 75 = .ok (.iconst 0, 1) := by decide +kernel
theorem dX12_fit_76 : decode cX12_fit 76 = .ok (.istore 4, 2) := by decide +kernel
theorem dX12_fit_78 : decode cX12_fit 78 = .ok (.iconst 0, 1) := by decide +kernel
theorem dX12_fit_79 : decode cX12_fit 79 = .ok (.istore 5, 2) := by decide +kernel
theorem dX12_fit_81 : decode cX12_fit 81 = .ok (.iconst 0, 1) := by decide +kernel
theorem dX12_fit_82 : decode cX12_fit 82 = .ok (.istore 6, 2) := by decide +kernel
theorem dX12_fit_84 : decode cX12_fit 84 = .ok (.iload 6, 2) := by decide +kernel
theorem dX12_fit_86 : decode cX12_fit 86 = .ok (.bipush 100, 2) := by decide +kernel
theorem dX12_fit_88 : decode cX12_fit 88 = .ok (.if_icmp .ge 32, 3) := by decide +kernel
theorem dX12_fit_91 : decode cX12_fit 91 = .ok (.aload_n 0, 1) := by decide +kernel
theorem dX12_fit_92 : decode cX12_fit 92 = .ok (.iload 6, 2) := by decide +kernel
theorem dX12_fit_94 : decode cX12_fit 94 = .ok (.invokevirtual 179, 3) := by decide +kernel
theorem dX12_fit_97 : decode cX12_fit 97 = .ok (.istore 7, 2) := by decide +kernel
theorem dX12_fit_99 : decode cX12_fit 99 = .ok (.iload 7, 2) := by decide +kernel
theorem dX12_fit_101 : decode cX12_fit 101 = .ok (.iload 5, 2) := by decide +kernel
theorem dX12_fit_103 : decode cX12_fit 103 = .ok (.if_icmp .le 11, 3) := by decide +kernel
theorem dX12_fit_106 : decode cX12_fit 106 = .ok (.iload 6, 2) := by decide +kernel
theorem dX12_fit_108 : decode cX12_fit 108 = .ok (.istore 4, 2) := by decide +kernel
theorem dX12_fit_110 : decode cX12_fit 110 = .ok (.iload 7, 2) := by decide +kernel
theorem dX12_fit_112 : decode cX12_fit 112 = .ok (.istore 5, 2) := by decide +kernel
theorem dX12_fit_114 : decode cX12_fit 114 = .ok (.iinc 6 1, 3) := by decide +kernel
theorem dX12_fit_117 : decode cX12_fit 117 = .ok (.goto (-33), 3) := by decide +kernel
theorem dX12_fit_120 : decode cX12_fit 120 = .ok (.iload 4, 2) := by decide +kernel
theorem dX12_fit_122 : decode cX12_fit 122 = .ok (.ireturn, 1) := by decide +kernel
theorem dX12_below_0 : decode cX12_below 0 = .ok (.iload_n 1, 1) := by decide +kernel
theorem dX12_below_1 : decode cX12_below 1 = .ok (.iconst 0, 1) := by decide +kernel
theorem dX12_below_2 : decode cX12_below 2 = .ok (.bipush 10, 2) := by decide +kernel
theorem dX12_below_4 : decode cX12_below 4 = .ok (.invokestatic 69, 3) := by decide +kernel
theorem dX12_below_7 : decode cX12_below 7 = .ok (.ifCond .eq 21, 3) := by decide +kernel
theorem dX12_below_10 : decode cX12_below 10 = .ok (.iload_n 2, 1) := by decide +kernel
theorem dX12_below_11 : decode cX12_below 11 = .ok (.iconst 0, 1) := by decide +kernel
theorem dX12_below_12 : decode cX12_below 12 = .ok (.iconst 4, 1) := by decide +kernel
theorem dX12_below_13 : decode cX12_below 13 = .ok (.invokestatic 69, 3) := by decide +kernel
theorem dX12_below_16 : decode cX12_below 16 = .ok (.ifCond .eq 12, 3) := by decide +kernel
theorem dX12_below_19 : decode cX12_below 19 = .ok (.iload_n 3, 1) := by decide +kernel
theorem dX12_below_20 : decode cX12_below 20 = .ok (.iconst 0, 1) := by decide +kernel
theorem dX12_below_21 : decode cX12_below 21 = .ok (.iconst 1, 1) := by decide +kernel
theorem dX12_below_22 : decode cX12_below 22 = .ok (.invokestatic 69, 3) := by decide +kernel
theorem dX12_below_25 : decode cX12_below 25 = .ok (.ifCond .ne 5, 3) := by decide +kernel
theorem dX12_below_28 : decode cX12_below 28 = .ok (.iconst (-1), 1) := by decide +kernel
theorem dX12_below_29 : decode cX12_below 29 = .ok (.ireturn, 1) := by decide +kernel
theorem dX12_below_30 : decode cX12_below 30 = .ok (.iconst 0, 1) := by decide +kernel
theorem dX12_below_31 : decode cX12_below 31 = .ok (.istore 4, 2) := by decide +kernel
theorem dX12_below_33 : decode cX12_below 33 = .ok (.iconst 1, 1) := by decide +kernel
theorem dX12_below_34 : decode cX12_below 34 = .ok (.istore 5, 2) := by decide +kernel
theorem dX12_below_36 : decode cX12_below 36 = .ok (.iconst 0, 1) := by decide +kernel
theorem dX12_below_37 : decode cX12_below 37 = .ok (.istore 6, 2) := by decide +kernel
theorem dX12_below_39 : decode cX12_below 39 = .ok (.iload 6, 2) := by decide +kernel
theorem dX12_below_41 : decode cX12_below 41 = .ok (.aload_n 0, 1) := by decide +kernel
theorem dX12_below_42 : decode cX12_below 42 = .ok (.getfield 13, 3) := by decide +kernel
theorem dX12_below_45 : decode cX12_below 45 = .ok (.iconst 0, 1) := by decide +kernel
theorem dX12_below_46 : decode cX12_below 46 = .ok (.iaload, 1) := by decide +kernel
theorem dX12_below_47 : decode cX12_below 47 = .ok (.if_icmp .ge 23, 3) := by decide +kernel
theorem dX12_below_50 : decode cX12_below 50 = .ok (.iload 4, 2) := by decide +kernel
theorem dX12_below_52 : decode cX12_below 52 = .ok (.aload_n 0, 1) := by decide +kernel
theorem dX12_below_53 : decode cX12_below 53 = .ok (.getfield 32, 3) := by decide +kernel
theorem dX12_below_56 : decode cX12_below 56 = .ok (.iconst 0, 1) := by decide +kernel
theorem dX12_below_57 : decode cX12_below 57 = .ok (.iload 6, 2) := by decide +kernel
theorem dX12_below_59 : decode cX12_below 59 = .ok (.iadd, 1) := by decide +kernel
theorem dX12_below_60 : decode cX12_below 60 = .ok (.iaload, 1) := by decide +kernel
theorem dX12_below_61 : decode cX12_below 61 = .ok (.iadd, 1) := by decide +kernel
theorem dX12_below_62 : decode cX12_below 62 = .ok (.istore 4, 2) := by decide +kernel
theorem dX12_below_64 : decode cX12_below 64 = .ok (.iinc 6 1, 3) := by decide +kernel
theorem dX12_below_67 : decode cX12_below 67 = .ok (.goto (-28), 3) := by decide +kernel
theorem dX12_below_70 : decode cX12_below 70 = .ok (.iconst 0, 1) := by decide +kernel
theorem dX12_below_71 : decode cX12_below 71 = .ok (.istore 6, 2) := by decide +kernel
theorem dX12_below_73 : decode cX12_below 73 = .ok (.iload 6, 2) := by decide +kernel
theorem dX12_below_75 : decode cX12_below 75 = .ok (.iload_n 2, 1) := by decide +kernel
theorem dX12_below_76 : decode cX12_below 76 = .ok (.if_icmp .ge 25, 3) := by decide +kernel
theorem dX12_below_79 : decode cX12_below 79 = .ok (.iload 4, 2) := by decide +kernel
theorem dX12_below_81 : decode cX12_below 81 = .ok (.bipush 10, 2) := by decide +kernel
theorem dX12_below_83 : decode cX12_below 83 = .ok (.iload_n 1, 1) := by decide +kernel
theorem dX12_below_84 : decode cX12_below 84 = .ok (.isub, 1) := by decide +kernel
theorem dX12_below_85 : decode cX12_below 85 = .ok (.imul, 1) := by decide +kernel
theorem dX12_below_86 : decode cX12_below 86 = .ok (.istore 4, 2) := by decide +kernel
theorem dX12_below_88 : decode cX12_below 88 = .ok (.iload 5, 2) := by decide +kernel
theorem dX12_below_90 : decode cX12_below 90 = .ok (.bipush 10, 2) := by decide +kernel
theorem dX12_below_92 : decode cX12_below 92 = .ok (.imul, 1) := by decide +kernel
theorem dX12_below_93 : decode cX12_below 93 = .ok (.istore 5, 2) := by decide +kernel
theorem dX12_below_95 : decode cX12_below 95 = .ok (.iinc 6 1, 3) := by decide +kernel
theorem dX12_below_98 : decode cX12_below 98 = .ok (.goto (-25), 3) := by decide +kernel
theorem dX12_below_101 : decode cX12_below 101 = .ok (.iload 4, 2) := by decide +kernel
theorem dX12_below_103 : decode cX12_below 103 = .ok (.istore 6, 2) := by decide +kernel
theorem dX12_below_105 : decode cX12_below 105 = .ok (.iload 5, 2) := by decide +kernel
theorem dX12_below_107 : decode cX12_below 107 = .ok (.istore 7, 2) := by decide +kernel
theorem dX12_below_109 : decode cX12_below 109 = .ok (.iload 7, 2) := by decide +kernel
theorem dX12_below_111 : decode cX12_below 111 = .ok (.ifCond .eq 21, 3) := by decide +kernel
theorem dX12_below_114 : decode cX12_below 114 = .ok (.iload 6, 2) := by decide +kernel
theorem dX12_below_116 : decode cX12_below 116 = .ok (.iload 7, 2) := by decide +kernel
theorem dX12_below_118 : decode cX12_below 118 = .ok (.irem, 1) := by decide +kernel
theorem dX12_below_119 : decode cX12_below 119 = .ok (.istore 8, 2) := by decide +kernel
theorem dX12_below_121 : decode cX12_below 121 = .ok (.iload 7, 2) := by decide +kernel
theorem dX12_below_123 : decode cX12_below 123 = .ok (.istore 6, 2) := by decide +kernel
theorem dX12_below_125 : decode cX12_below 125 = .ok (.iload 8, 2) := by decide +kernel
theorem dX12_below_127 : decode cX12_below 127 = .ok (.istore 7, 2) := by decide +kernel
theorem dX12_below_129 : decode cX12_below 129 = .ok (.goto (-20), 3) := by decide +kernel
theorem dX12_below_132 : decode cX12_below 132 = .ok (.iload_n 3, 1) := by decide +kernel
theorem dX12_below_133 : decode cX12_below 133 = .ok (.ifCond .ne 11, 3) := by decide +kernel
theorem dX12_below_136 : decode cX12_below 136 = .ok (.iload 4, 2) := by decide +kernel
theorem dX12_below_138 : decode cX12_below 138 = .ok (.iload 6, 2) := by decide +kernel
theorem dX12_below_140 : decode cX12_below 140 = .ok (.idiv, 1) := by decide +kernel
theorem dX12_below_141 : decode cX12_below 141 = .ok (.goto 8, 3) := by decide +kernel
theorem dX12_below_144 : decode cX12_below 144 = .ok (.iload 5, 2) := by decide +kernel
theorem dX12_below_146 : decode cX12_below 146 = .ok (.iload 6, 2) := by decide +kernel
theorem dX12_below_148 : decode cX12_below 148 = .ok (.idiv, 1) := by decide +kernel
theorem dX12_below_149 : decode cX12_below 149 = .ok (.ireturn, 1) := by decide +kernel
theorem dX12_mark_0 : decode cX12_mark 0 = .ok (.iload_n 1, 1) := by decide +kernel
theorem dX12_mark_1 : decode cX12_mark 1 = .ok (.iconst 0, 1) := by decide +kernel
theorem dX12_mark_2 : decode cX12_mark 2 = .ok (.iconst 5, 1) := by decide +kernel
theorem dX12_mark_3 : decode cX12_mark 3 = .ok (.invokestatic 69, 3) := by decide +kernel
theorem dX12_mark_6 : decode cX12_mark 6 = .ok (.ifCond .eq 11, 3) := by decide +kernel
theorem dX12_mark_9 : decode cX12_mark 9 = .ok (.aload_n 0, 1) := by decide +kernel
theorem dX12_mark_10 : decode cX12_mark 10 = .ok (.iload_n 2, 1) := by decide +kernel
theorem dX12_mark_11 : decode cX12_mark 11 = .ok (.invokevirtual 136, 3) := by decide +kernel
theorem dX12_mark_14 : decode cX12_mark 14 = .ok (.ifCond .ne 6, 3) := by decide +kernel
theorem dX12_mark_17 : decode cX12_mark 17 = .ok (.ldc 139, 2) := by decide +kernel
theorem dX12_mark_19 : decode cX12_mark 19 = .ok (.ireturn, 1) := by decide +kernel
theorem dX12_mark_20 : decode cX12_mark 20 = .ok (.aload_n 0, 1) := by decide +kernel
theorem dX12_mark_21 : decode cX12_mark 21 = .ok (.getfield 32, 3) := by decide +kernel
theorem dX12_mark_24 : decode cX12_mark 24 = .ok (.iconst 0, 1) := by decide +kernel
theorem dX12_mark_25 : decode cX12_mark 25 = .ok (.iload_n 2, 1) := by decide +kernel
theorem dX12_mark_26 : decode cX12_mark 26 = .ok (.iadd, 1) := by decide +kernel
theorem dX12_mark_27 : decode cX12_mark 27 = .ok (.iaload, 1) := by decide +kernel
theorem dX12_mark_28 : decode cX12_mark 28 = .ok (.iconst 2, 1) := by decide +kernel
theorem dX12_mark_29 : decode cX12_mark 29 = .ok (.idiv, 1) := by decide +kernel
theorem dX12_mark_30 : decode cX12_mark 30 = .ok (.istore_n 3, 1) := by decide +kernel
theorem dX12_mark_31 : decode cX12_mark 31 = .ok (.iload_n 3, 1) := by decide +kernel
theorem dX12_mark_32 : decode cX12_mark 32 = .ok (.aload_n 0, 1) := by decide +kernel
theorem dX12_mark_33 : decode cX12_mark 33 = .ok (.getfield 32, 3) := by decide +kernel
theorem dX12_mark_36 : decode cX12_mark 36 = .ok (.bipush 6, 2) := by decide +kernel
theorem dX12_mark_38 : decode cX12_mark 38 = .ok (.iload_n 2, 1) := by decide +kernel
theorem dX12_mark_39 : decode cX12_mark 39 = .ok (.iadd, 1) := by decide +kernel
theorem dX12_mark_40 : decode cX12_mark 40 = .ok (.iaload, 1) := by decide +kernel
theorem dX12_mark_41 : decode cX12_mark 41 = .ok (.isub, 1) := by decide +kernel
theorem dX12_mark_42 : decode cX12_mark 42 = .ok (.istore 4, 2) := by decide +kernel
theorem dX12_mark_44 : decode cX12_mark 44 = .ok (.iconst 0, 1) := by decide +kernel
theorem dX12_mark_45 : decode cX12_mark 45 = .ok (.istore 5, 2) := by decide +kernel
theorem dX12_mark_47 : decode cX12_mark 47 = .ok (.iconst 0, 1) := by decide +kernel
theorem dX12_mark_48 : decode cX12_mark 48 = .ok (.istore 6, 2) := by decide +kernel
theorem dX12_mark_50 : decode cX12_mark 50 = .ok (.iload 6, 2) := by decide +kernel
theorem dX12_mark_52 : decode cX12_mark 52 = .ok (.aload_n 0, 1) := by decide +kernel
theorem dX12_mark_53 : decode cX12_mark 53 = .ok (.getfield 13, 3) := by decide +kernel
theorem dX12_mark_56 : decode cX12_mark 56 = .ok (.iconst 0, 1) := by decide +kernel
theorem dX12_mark_57 : decode cX12_mark 57 = .ok (.iaload, 1) := by decide +kernel
theorem dX12_mark_58 : decode cX12_mark 58 = .ok (.if_icmp .ge 36, 3) := by decide +kernel
theorem dX12_mark_61 : decode cX12_mark 61 = .ok (.iload 5, 2) := by decide +kernel
theorem dX12_mark_63 : decode cX12_mark 63 = .ok (.iload 6, 2) := by decide +kernel
theorem dX12_mark_65 : decode cX12_mark 65 = .ok (.iload_n 2, 1) := by decide +kernel
theorem dX12_mark_66 : decode cX12_mark 66 = .ok (.if_icmp .ne 7, 3) := by decide +kernel
theorem dX12_mark_69 : decode cX12_mark 69 = .ok (.iconst 0, 1) := by decide +kernel
theorem dX12_mark_70 : decode cX12_mark 70 = .ok (.goto 15, 3) := by decide +kernel
theorem dX12_mark_73 : decode cX12_mark 73 = .ok (.aload_n 0, 1) := by decide +kernel
theorem dX12_mark_74 : decode cX12_mark 74 = .ok (.getfield 23, 3) := by decide +kernel
theorem dX12_mark_77 : decode cX12_mark 77 = .ok (.bipush 6, 2) := by decide +kernel
theorem dX12_mark_79 : decode cX12_mark 79 = .ok (.iload_n 2, 1) := by decide +kernel
theorem dX12_mark_80 : decode cX12_mark 80 = .ok (.imul, 1) := by decide +kernel
theorem dX12_mark_81 : decode cX12_mark 81 = .ok (.iload 6, 2) := by decide +kernel
theorem dX12_mark_83 : decode cX12_mark 83 = .ok (.iadd, 1) := by decide +kernel
theorem dX12_mark_84 : decode cX12_mark 84 = .ok (.iaload, 1) := by decide +kernel
theorem dX12_mark_85 : decode cX12_mark 85 = .ok (.iadd, 1) := by decide +kernel
theorem dX12_mark_86 : decode cX12_mark 86 = .ok (.istore 5, 2) := by decide +kernel
theorem dX12_mark_88 : decode cX12_mark 88 = .ok (.iinc 6 1, 3) := by decide +kernel
theorem dX12_mark_91 : decode cX12_mark 91 = .ok (.goto (-41), 3) := by decide +kernel
theorem dX12_mark_94 : decode cX12_mark 94 = .ok (.iload_n 1, 1) := by decide +kernel
theorem dX12_mark_95 : decode cX12_mark 95 = .ok (.tableswitch 122 0 4 #[33, 45, 66, 81, 104], 33) := by decide +kernel
theorem dX12_mark_128 : decode cX12_mark 128 = .ok (.aload_n 0, 1) := by decide +kernel
theorem dX12_mark_129 : decode cX12_mark 129 = .ok (.dup, 1) := by decide +kernel
theorem dX12_mark_130 : decode cX12_mark 130 = .ok (.getfield 182, 3) := by decide +kernel
theorem dX12_mark_133 : decode cX12_mark 133 = .ok (.lconst 1, 1) := by decide +kernel
theorem dX12_mark_134 : decode cX12_mark 134 = .ok (.ladd, 1) := by decide +kernel
theorem dX12_mark_135 : decode cX12_mark 135 = .ok (.putfield 182, 3) := by decide +kernel
theorem dX12_mark_138 : decode cX12_mark 138 = .ok (.iload_n 3, 1) := by decide +kernel
theorem dX12_mark_139 : decode cX12_mark 139 = .ok (.ireturn, 1) := by decide +kernel
theorem dX12_mark_140 : decode cX12_mark 140 = .ok (.aload_n 0, 1) := by decide +kernel
theorem dX12_mark_141 : decode cX12_mark 141 = .ok (.dup, 1) := by decide +kernel
theorem dX12_mark_142 : decode cX12_mark 142 = .ok (.getfield 182, 3) := by decide +kernel
theorem dX12_mark_145 : decode cX12_mark 145 = .ok (.ldc2_w 186, 3) := by decide +kernel
theorem dX12_mark_148 : decode cX12_mark 148 = .ok (.ladd, 1) := by decide +kernel
theorem dX12_mark_149 : decode cX12_mark 149 = .ok (.putfield 182, 3) := by decide +kernel
theorem dX12_mark_152 : decode cX12_mark 152 = .ok (.iload_n 3, 1) := by decide +kernel
theorem dX12_mark_153 : decode cX12_mark 153 = .ok (.aload_n 0, 1) := by decide +kernel
theorem dX12_mark_154 : decode cX12_mark 154 = .ok (.getfield 17, 3) := by decide +kernel
theorem dX12_mark_157 : decode cX12_mark 157 = .ok (.iload_n 2, 1) := by decide +kernel
theorem dX12_mark_158 : decode cX12_mark 158 = .ok (.iaload, 1) := by decide +kernel
theorem dX12_mark_159 : decode cX12_mark 159 = .ok (.iadd, 1) := by decide +kernel
theorem dX12_mark_160 : decode cX12_mark 160 = .ok (.ireturn, 1) := by decide +kernel
theorem dX12_mark_161 : decode cX12_mark 161 = .ok (.aload_n 0, 1) := by decide +kernel
theorem dX12_mark_162 : decode cX12_mark 162 = .ok (.dup, 1) := by decide +kernel
theorem dX12_mark_163 : decode cX12_mark 163 = .ok (.getfield 182, 3) := by decide +kernel
theorem dX12_mark_166 : decode cX12_mark 166 = .ok (.ldc2_w 188, 3) := by decide +kernel
theorem dX12_mark_169 : decode cX12_mark 169 = .ok (.ladd, 1) := by decide +kernel
theorem dX12_mark_170 : decode cX12_mark 170 = .ok (.putfield 182, 3) := by decide +kernel
theorem dX12_mark_173 : decode cX12_mark 173 = .ok (.iload 4, 2) := by decide +kernel
theorem dX12_mark_175 : decode cX12_mark 175 = .ok (.ireturn, 1) := by decide +kernel
theorem dX12_mark_176 : decode cX12_mark 176 = .ok (.aload_n 0, 1) := by decide +kernel
theorem dX12_mark_177 : decode cX12_mark 177 = .ok (.dup, 1) := by decide +kernel
theorem dX12_mark_178 : decode cX12_mark 178 = .ok (.getfield 182, 3) := by decide +kernel
theorem dX12_mark_181 : decode cX12_mark 181 = .ok (.ldc2_w 190, 3) := by decide +kernel
theorem dX12_mark_184 : decode cX12_mark 184 = .ok (.ladd, 1) := by decide +kernel
theorem dX12_mark_185 : decode cX12_mark 185 = .ok (.putfield 182, 3) := by decide +kernel
theorem dX12_mark_188 : decode cX12_mark 188 = .ok (.iconst 2, 1) := by decide +kernel
theorem dX12_mark_189 : decode cX12_mark 189 = .ok (.iload_n 3, 1) := by decide +kernel
theorem dX12_mark_190 : decode cX12_mark 190 = .ok (.aload_n 0, 1) := by decide +kernel
theorem dX12_mark_191 : decode cX12_mark 191 = .ok (.getfield 17, 3) := by decide +kernel
theorem dX12_mark_194 : decode cX12_mark 194 = .ok (.iload_n 2, 1) := by decide +kernel
theorem dX12_mark_195 : decode cX12_mark 195 = .ok (.iaload, 1) := by decide +kernel
theorem dX12_mark_196 : decode cX12_mark 196 = .ok (.iadd, 1) := by decide +kernel
theorem dX12_mark_197 : decode cX12_mark 197 = .ok (.imul, 1) := by decide +kernel
theorem dX12_mark_198 : decode cX12_mark 198 = .ok (.ireturn, 1) := by decide +kernel
theorem dX12_mark_199 : decode cX12_mark 199 = .ok (.aload_n 0, 1) := by decide +kernel
theorem dX12_mark_200 : decode cX12_mark 200 = .ok (.dup, 1) := by decide +kernel
theorem dX12_mark_201 : decode cX12_mark 201 = .ok (.getfield 182, 3) := by decide +kernel
theorem dX12_mark_204 : decode cX12_mark 204 = .ok (.ldc2_w 192, 3) := by decide +kernel
theorem dX12_mark_207 : decode cX12_mark 207 = .ok (.ladd, 1) := by decide +kernel
theorem dX12_mark_208 : decode cX12_mark 208 = .ok (.putfield 182, 3) := by decide +kernel
theorem dX12_mark_211 : decode cX12_mark 211 = .ok (.iload 4, 2) := by decide +kernel
theorem dX12_mark_213 : decode cX12_mark 213 = .ok (.iload 5, 2) := by decide +kernel
theorem dX12_mark_215 : decode cX12_mark 215 = .ok (.iadd, 1) := by decide +kernel
theorem dX12_mark_216 : decode cX12_mark 216 = .ok (.ireturn, 1) := by decide +kernel
theorem dX12_mark_217 : decode cX12_mark 217 = .ok (.aload_n 0, 1) := by decide +kernel
theorem dX12_mark_218 : decode cX12_mark 218 = .ok (.dup, 1) := by decide +kernel
theorem dX12_mark_219 : decode cX12_mark 219 = .ok (.getfield 182, 3) := by decide +kernel
theorem dX12_mark_222 : decode cX12_mark 222 = .ok (.ldc2_w 194, 3) := by decide +kernel
theorem dX12_mark_225 : decode cX12_mark 225 = .ok (.ladd, 1) := by decide +kernel
theorem dX12_mark_226 : decode cX12_mark 226 = .ok (.putfield 182, 3) := by decide +kernel
theorem dX12_mark_229 : decode cX12_mark 229 = .ok (.iload_n 3, 1) := by decide +kernel
theorem dX12_mark_230 : decode cX12_mark 230 = .ok (.aload_n 0, 1) := by decide +kernel
theorem dX12_mark_231 : decode cX12_mark 231 = .ok (.getfield 32, 3) := by decide +kernel
theorem dX12_mark_234 : decode cX12_mark 234 = .ok (.bipush 13, 2) := by decide +kernel
theorem dX12_mark_236 : decode cX12_mark 236 = .ok (.iaload, 1) := by decide +kernel
theorem dX12_mark_237 : decode cX12_mark 237 = .ok (.iadd, 1) := by decide +kernel
theorem dX12_mark_238 : decode cX12_mark 238 = .ok (.ireturn, 1) := by decide +kernel
theorem dX12_keep_0 : decode cX12_keep 0 = .ok (.iload_n 1, 1) := by decide +kernel
theorem dX12_keep_1 : decode cX12_keep 1 = .ok (.iconst 0, 1) := by decide +kernel
theorem dX12_keep_2 : decode cX12_keep 2 = .ok (.iconst 1, 1) := by decide +kernel
theorem dX12_keep_3 : decode cX12_keep 3 = .ok (.invokestatic 69, 3) := by decide +kernel
theorem dX12_keep_6 : decode cX12_keep 6 = .ok (.ifCond .ne 5, 3) := by decide +kernel
theorem dX12_keep_9 : decode cX12_keep 9 = .ok (.iconst (-1), 1) := by decide +kernel
theorem dX12_keep_10 : decode cX12_keep 10 = .ok (.ireturn, 1) := by decide +kernel
theorem dX12_keep_11 : decode cX12_keep 11 = .ok (.iconst 0, 1) := by decide +kernel
theorem dX12_keep_12 : decode cX12_keep 12 = .ok (.istore_n 2, 1) := by decide +kernel
theorem dX12_keep_13 : decode cX12_keep 13 = .ok (.iload_n 2, 1) := by decide +kernel
theorem dX12_keep_14 : decode cX12_keep 14 = .ok (.sipush 155, 3) := by decide +kernel
theorem dX12_keep_17 : decode cX12_keep 17 = .ok (.if_icmp .ge 29, 3) := by decide +kernel
theorem dX12_keep_20 : decode cX12_keep 20 = .ok (.aload_n 0, 1) := by decide +kernel
theorem dX12_keep_21 : decode cX12_keep 21 = .ok (.getfield 32, 3) := by decide +kernel
theorem dX12_keep_24 : decode cX12_keep 24 = .ok (.sipush 155, 3) := by decide +kernel
theorem dX12_keep_27 : decode cX12_keep 27 = .ok (.iconst 1, 1) := by decide +kernel
theorem dX12_keep_28 : decode cX12_keep 28 = .ok (.iload_n 1, 1) := by decide +kernel
theorem dX12_keep_29 : decode cX12_keep 29 = .ok (.iadd, 1) := by decide +kernel
theorem dX12_keep_30 : decode cX12_keep 30 = .ok (.imul, 1) := by decide +kernel
theorem dX12_keep_31 : decode cX12_keep 31 = .ok (.iload_n 2, 1) := by decide +kernel
theorem dX12_keep_32 : decode cX12_keep 32 = .ok (.iadd, 1) := by decide +kernel
theorem dX12_keep_33 : decode cX12_keep 33 = .ok (.aload_n 0, 1) := by decide +kernel
theorem dX12_keep_34 : decode cX12_keep 34 = .ok (.getfield 32, 3) := by decide +kernel
theorem dX12_keep_37 : decode cX12_keep 37 = .ok (.iload_n 2, 1) := by decide +kernel
theorem dX12_keep_38 : decode cX12_keep 38 = .ok (.iaload, 1) := by decide +kernel
theorem dX12_keep_39 : decode cX12_keep 39 = .ok (.iastore, 1) := by decide +kernel
theorem dX12_keep_40 : decode cX12_keep 40 = .ok (.iinc 2 1, 3) := by decide +kernel
theorem dX12_keep_43 : decode cX12_keep 43 = .ok (.goto (-30), 3) := by decide +kernel
theorem dX12_keep_46 : decode cX12_keep 46 = .ok (.aload_n 0, 1) := by decide +kernel
theorem dX12_keep_47 : decode cX12_keep 47 = .ok (.getfield 35, 3) := by decide +kernel
theorem dX12_keep_50 : decode cX12_keep 50 = .ok (.iload_n 1, 1) := by decide +kernel
theorem dX12_keep_51 : decode cX12_keep 51 = .ok (.iconst 1, 1) := by decide +kernel
theorem dX12_keep_52 : decode cX12_keep 52 = .ok (.bastore, 1) := by decide +kernel
theorem dX12_keep_53 : decode cX12_keep 53 = .ok (.aload_n 0, 1) := by decide +kernel
theorem dX12_keep_54 : decode cX12_keep 54 = .ok (.getfield 32, 3) := by decide +kernel
theorem dX12_keep_57 : decode cX12_keep 57 = .ok (.bipush 13, 2) := by decide +kernel
theorem dX12_keep_59 : decode cX12_keep 59 = .ok (.iaload, 1) := by decide +kernel
theorem dX12_keep_60 : decode cX12_keep 60 = .ok (.ireturn, 1) := by decide +kernel
theorem dX12_back_0 : decode cX12_back 0 = .ok (.iload_n 1, 1) := by decide +kernel
theorem dX12_back_1 : decode cX12_back 1 = .ok (.iconst 0, 1) := by decide +kernel
theorem dX12_back_2 : decode cX12_back 2 = .ok (.iconst 1, 1) := by decide +kernel
theorem dX12_back_3 : decode cX12_back 3 = .ok (.invokestatic 69, 3) := by decide +kernel
theorem dX12_back_6 : decode cX12_back 6 = .ok (.ifCond .ne 5, 3) := by decide +kernel
theorem dX12_back_9 : decode cX12_back 9 = .ok (.iconst (-1), 1) := by decide +kernel
theorem dX12_back_10 : decode cX12_back 10 = .ok (.ireturn, 1) := by decide +kernel
theorem dX12_back_11 : decode cX12_back 11 = .ok (.aload_n 0, 1) := by decide +kernel
theorem dX12_back_12 : decode cX12_back 12 = .ok (.getfield 35, 3) := by decide +kernel
theorem dX12_back_15 : decode cX12_back 15 = .ok (.iload_n 1, 1) := by decide +kernel
theorem dX12_back_16 : decode cX12_back 16 = .ok (.baload, 1) := by decide +kernel
theorem dX12_back_17 : decode cX12_back 17 = .ok (.ifCond .ne 6, 3) := by decide +kernel
theorem dX12_back_20 : decode cX12_back 20 = .ok (.bipush (-2), 2) := by decide +kernel
theorem dX12_back_22 : decode cX12_back 22 = .ok (.ireturn, 1) := by decide +kernel
theorem dX12_back_23 : decode cX12_back 23 = .ok (.iconst 0, 1) := by decide +kernel
theorem dX12_back_24 : decode cX12_back 24 = .ok (.istore_n 2, 1) := by decide +kernel
theorem dX12_back_25 : decode cX12_back 25 = .ok (.iload_n 2, 1) := by decide +kernel
theorem dX12_back_26 : decode cX12_back 26 = .ok (.sipush 155, 3) := by decide +kernel
theorem dX12_back_29 : decode cX12_back 29 = .ok (.if_icmp .ge 29, 3) := by decide +kernel
theorem dX12_back_32 : decode cX12_back 32 = .ok (.aload_n 0, 1) := by decide +kernel
theorem dX12_back_33 : decode cX12_back 33 = .ok (.getfield 32, 3) := by decide +kernel
theorem dX12_back_36 : decode cX12_back 36 = .ok (.iload_n 2, 1) := by decide +kernel
theorem dX12_back_37 : decode cX12_back 37 = .ok (.aload_n 0, 1) := by decide +kernel
theorem dX12_back_38 : decode cX12_back 38 = .ok (.getfield 32, 3) := by decide +kernel
theorem dX12_back_41 : decode cX12_back 41 = .ok (.sipush 155, 3) := by decide +kernel
theorem dX12_back_44 : decode cX12_back 44 = .ok (.iconst 1, 1) := by decide +kernel
theorem dX12_back_45 : decode cX12_back 45 = .ok (.iload_n 1, 1) := by decide +kernel
theorem dX12_back_46 : decode cX12_back 46 = .ok (.iadd, 1) := by decide +kernel
theorem dX12_back_47 : decode cX12_back 47 = .ok (.imul, 1) := by decide +kernel
theorem dX12_back_48 : decode cX12_back 48 = .ok (.iload_n 2, 1) := by decide +kernel
theorem dX12_back_49 : decode cX12_back 49 = .ok (.iadd, 1) := by decide +kernel
theorem dX12_back_50 : decode cX12_back 50 = .ok (.iaload, 1) := by decide +kernel
theorem dX12_back_51 : decode cX12_back 51 = .ok (.iastore, 1) := by decide +kernel
theorem dX12_back_52 : decode cX12_back 52 = .ok (.iinc 2 1, 3) := by decide +kernel
theorem dX12_back_55 : decode cX12_back 55 = .ok (.goto (-30), 3) := by decide +kernel
theorem dX12_back_58 : decode cX12_back 58 = .ok (.aload_n 0, 1) := by decide +kernel
theorem dX12_back_59 : decode cX12_back 59 = .ok (.getfield 32, 3) := by decide +kernel
theorem dX12_back_62 : decode cX12_back 62 = .ok (.bipush 13, 2) := by decide +kernel
theorem dX12_back_64 : decode cX12_back 64 = .ok (.iaload, 1) := by decide +kernel
theorem dX12_back_65 : decode cX12_back 65 = .ok (.ireturn, 1) := by decide +kernel
theorem dX12_count_0 : decode cX12_count 0 = .ok (.iload_n 1, 1) := by decide +kernel
theorem dX12_count_1 : decode cX12_count 1 = .ok (.tableswitch 87 0 6 #[43, 50, 57, 64, 69, 74, 82], 43) := by decide +kernel
theorem dX12_count_44 : decode cX12_count 44 = .ok (.aload_n 0, 1) := by decide +kernel
theorem dX12_count_45 : decode cX12_count 45 = .ok (.getfield 13, 3) := by decide +kernel
theorem dX12_count_48 : decode cX12_count 48 = .ok (.iconst 0, 1) := by decide +kernel
theorem dX12_count_49 : decode cX12_count 49 = .ok (.iaload, 1) := by decide +kernel
theorem dX12_count_50 : decode cX12_count 50 = .ok (.ireturn, 1) := by decide +kernel
theorem dX12_count_51 : decode cX12_count 51 = .ok (.aload_n 0, 1) := by decide +kernel
theorem dX12_count_52 : decode cX12_count 52 = .ok (.getfield 26, 3) := by decide +kernel
theorem dX12_count_55 : decode cX12_count 55 = .ok (.iconst 0, 1) := by decide +kernel
theorem dX12_count_56 : decode cX12_count 56 = .ok (.iaload, 1) := by decide +kernel
theorem dX12_count_57 : decode cX12_count 57 = .ok (.ireturn, 1) := by decide +kernel
theorem dX12_count_58 : decode cX12_count 58 = .ok (.aload_n 0, 1) := by decide +kernel
theorem dX12_count_59 : decode cX12_count 59 = .ok (.getfield 29, 3) := by decide +kernel
theorem dX12_count_62 : decode cX12_count 62 = .ok (.iconst 0, 1) := by decide +kernel
theorem dX12_count_63 : decode cX12_count 63 = .ok (.iaload, 1) := by decide +kernel
theorem dX12_count_64 : decode cX12_count 64 = .ok (.ireturn, 1) := by decide +kernel
theorem dX12_count_65 : decode cX12_count 65 = .ok (.aload_n 0, 1) := by decide +kernel
theorem dX12_count_66 : decode cX12_count 66 = .ok (.getfield 118, 3) := by decide +kernel
theorem dX12_count_69 : decode cX12_count 69 = .ok (.ireturn, 1) := by decide +kernel
theorem dX12_count_70 : decode cX12_count 70 = .ok (.aload_n 0, 1) := by decide +kernel
theorem dX12_count_71 : decode cX12_count 71 = .ok (.getfield 121, 3) := by decide +kernel
theorem dX12_count_74 : decode cX12_count 74 = .ok (.ireturn, 1) := by decide +kernel
theorem dX12_count_75 : decode cX12_count 75 = .ok (.aload_n 0, 1) := by decide +kernel
theorem dX12_count_76 : decode cX12_count 76 = .ok (.getfield 32, 3) := by decide +kernel
theorem dX12_count_79 : decode cX12_count 79 = .ok (.bipush 14, 2) := by decide +kernel
theorem dX12_count_81 : decode cX12_count 81 = .ok (.iaload, 1) := by decide +kernel
theorem dX12_count_82 : decode cX12_count 82 = .ok (.ireturn, 1) := by decide +kernel
theorem dX12_count_83 : decode cX12_count 83 = .ok (.aload_n 0, 1) := by decide +kernel
theorem dX12_count_84 : decode cX12_count 84 = .ok (.getfield 73, 3) := by decide +kernel
theorem dX12_count_87 : decode cX12_count 87 = .ok (.ireturn, 1) := by decide +kernel
theorem dX12_count_88 : decode cX12_count 88 = .ok (.iconst (-1), 1) := by decide +kernel
theorem dX12_count_89 : decode cX12_count 89 = .ok (.ireturn, 1) := by decide +kernel
theorem dX12_trace_0 : decode cX12_trace 0 = .ok (.aload_n 0, 1) := by decide +kernel
theorem dX12_trace_1 : decode cX12_trace 1 = .ok (.getfield 182, 3) := by decide +kernel
theorem dX12_trace_4 : decode cX12_trace 4 = .ok (.lreturn, 1) := by decide +kernel
