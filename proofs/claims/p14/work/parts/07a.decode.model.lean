-- decode rows (printed by wip/whole/names.py)
theorem d_Mo_init_0 : decode b_Mo_init 0 = .ok (.aload_n 0, 1) := by decide +kernel
theorem d_Mo_init_1 : decode b_Mo_init 1 = .ok (.invokespecial 1, 3) := by decide +kernel
theorem d_Mo_init_4 : decode b_Mo_init 4 = .ok (.aload_n 0, 1) := by decide +kernel
theorem d_Mo_init_5 : decode b_Mo_init 5 = .ok (.sipush 400, 3) := by decide +kernel
theorem d_Mo_init_8 : decode b_Mo_init 8 = .ok (.newarray .int, 2) := by decide +kernel
theorem d_Mo_init_10 : decode b_Mo_init 10 = .ok (.putfield 7, 3) := by decide +kernel
theorem d_Mo_init_13 : decode b_Mo_init 13 = .ok (.aload_n 0, 1) := by decide +kernel
theorem d_Mo_init_14 : decode b_Mo_init 14 = .ok (.iconst (-1), 1) := by decide +kernel
theorem d_Mo_init_15 : decode b_Mo_init 15 = .ok (.putfield 13, 3) := by decide +kernel
theorem d_Mo_init_18 : decode b_Mo_init 18 = .ok (.aload_n 0, 1) := by decide +kernel
theorem d_Mo_init_19 : decode b_Mo_init 19 = .ok (.sipush 610, 3) := by decide +kernel
theorem d_Mo_init_22 : decode b_Mo_init 22 = .ok (.newarray .boolean, 2) := by decide +kernel
theorem d_Mo_init_24 : decode b_Mo_init 24 = .ok (.putfield 17, 3) := by decide +kernel
theorem d_Mo_init_27 : decode b_Mo_init 27 = .ok (.aload_n 0, 1) := by decide +kernel
theorem d_Mo_init_28 : decode b_Mo_init 28 = .ok (.sipush 610, 3) := by decide +kernel
theorem d_Mo_init_31 : decode b_Mo_init 31 = .ok (.newarray .boolean, 2) := by decide +kernel
theorem d_Mo_init_33 : decode b_Mo_init 33 = .ok (.putfield 21, 3) := by decide +kernel
theorem d_Mo_init_36 : decode b_Mo_init 36 = .ok (.aload_n 0, 1) := by decide +kernel
theorem d_Mo_init_37 : decode b_Mo_init 37 = .ok (.sipush 610, 3) := by decide +kernel
theorem d_Mo_init_40 : decode b_Mo_init 40 = .ok (.newarray .int, 2) := by decide +kernel
theorem d_Mo_init_42 : decode b_Mo_init 42 = .ok (.putfield 24, 3) := by decide +kernel
theorem d_Mo_init_45 : decode b_Mo_init 45 = .ok (.aload_n 0, 1) := by decide +kernel
theorem d_Mo_init_46 : decode b_Mo_init 46 = .ok (.sipush 610, 3) := by decide +kernel
theorem d_Mo_init_49 : decode b_Mo_init 49 = .ok (.newarray .int, 2) := by decide +kernel
theorem d_Mo_init_51 : decode b_Mo_init 51 = .ok (.putfield 27, 3) := by decide +kernel
theorem d_Mo_init_54 : decode b_Mo_init 54 = .ok (.aload_n 0, 1) := by decide +kernel
theorem d_Mo_init_55 : decode b_Mo_init 55 = .ok (.sipush 1220, 3) := by decide +kernel
theorem d_Mo_init_58 : decode b_Mo_init 58 = .ok (.newarray .int, 2) := by decide +kernel
theorem d_Mo_init_60 : decode b_Mo_init 60 = .ok (.putfield 30, 3) := by decide +kernel
theorem d_Mo_init_63 : decode b_Mo_init 63 = .ok (.aload_n 0, 1) := by decide +kernel
theorem d_Mo_init_64 : decode b_Mo_init 64 = .ok (.sipush 14640, 3) := by decide +kernel
theorem d_Mo_init_67 : decode b_Mo_init 67 = .ok (.newarray .int, 2) := by decide +kernel
theorem d_Mo_init_69 : decode b_Mo_init 69 = .ok (.putfield 33, 3) := by decide +kernel
theorem d_Mo_init_72 : decode b_Mo_init 72 = .ok (.aload_n 0, 1) := by decide +kernel
theorem d_Mo_init_73 : decode b_Mo_init 73 = .ok (.sipush 610, 3) := by decide +kernel
theorem d_Mo_init_76 : decode b_Mo_init 76 = .ok (.newarray .int, 2) := by decide +kernel
theorem d_Mo_init_78 : decode b_Mo_init 78 = .ok (.putfield 36, 3) := by decide +kernel
theorem d_Mo_init_81 : decode b_Mo_init 81 = .ok (.aload_n 0, 1) := by decide +kernel
theorem d_Mo_init_82 : decode b_Mo_init 82 = .ok (.sipush 14640, 3) := by decide +kernel
theorem d_Mo_init_85 : decode b_Mo_init 85 = .ok (.newarray .int, 2) := by decide +kernel
theorem d_Mo_init_87 : decode b_Mo_init 87 = .ok (.putfield 39, 3) := by decide +kernel
theorem d_Mo_init_90 : decode b_Mo_init 90 = .ok (.aload_n 0, 1) := by decide +kernel
theorem d_Mo_init_91 : decode b_Mo_init 91 = .ok (.bipush 100, 2) := by decide +kernel
theorem d_Mo_init_93 : decode b_Mo_init 93 = .ok (.newarray .int, 2) := by decide +kernel
theorem d_Mo_init_95 : decode b_Mo_init 95 = .ok (.putfield 42, 3) := by decide +kernel
theorem d_Mo_init_98 : decode b_Mo_init 98 = .ok (.aload_n 0, 1) := by decide +kernel
theorem d_Mo_init_99 : decode b_Mo_init 99 = .ok (.bipush 100, 2) := by decide +kernel
theorem d_Mo_init_101 : decode b_Mo_init 101 = .ok (.newarray .int, 2) := by decide +kernel
theorem d_Mo_init_103 : decode b_Mo_init 103 = .ok (.putfield 45, 3) := by decide +kernel
theorem d_Mo_init_106 : decode b_Mo_init 106 = .ok (.aload_n 0, 1) := by decide +kernel
theorem d_Mo_init_107 : decode b_Mo_init 107 = .ok (.bipush 100, 2) := by decide +kernel
theorem d_Mo_init_109 : decode b_Mo_init 109 = .ok (.newarray .int, 2) := by decide +kernel
theorem d_Mo_init_111 : decode b_Mo_init 111 = .ok (.putfield 48, 3) := by decide +kernel
theorem d_Mo_init_114 : decode b_Mo_init 114 = .ok (.aload_n 0, 1) := by decide +kernel
theorem d_Mo_init_115 : decode b_Mo_init 115 = .ok (.sipush 8400, 3) := by decide +kernel
theorem d_Mo_init_118 : decode b_Mo_init 118 = .ok (.newarray .int, 2) := by decide +kernel
theorem d_Mo_init_120 : decode b_Mo_init 120 = .ok (.putfield 51, 3) := by decide +kernel
theorem d_Mo_init_123 : decode b_Mo_init 123 = .ok (.aload_n 0, 1) := by decide +kernel
theorem d_Mo_init_124 : decode b_Mo_init 124 = .ok (.bipush 61, 2) := by decide +kernel
theorem d_Mo_init_126 : decode b_Mo_init 126 = .ok (.newarray .boolean, 2) := by decide +kernel
theorem d_Mo_init_128 : decode b_Mo_init 128 = .ok (.putfield 54, 3) := by decide +kernel
theorem d_Mo_init_131 : decode b_Mo_init 131 = .ok (.aload_n 0, 1) := by decide +kernel
theorem d_Mo_init_132 : decode b_Mo_init 132 = .ok (.bipush 10, 2) := by decide +kernel
theorem d_Mo_init_134 : decode b_Mo_init 134 = .ok (.newarray .boolean, 2) := by decide +kernel
theorem d_Mo_init_136 : decode b_Mo_init 136 = .ok (.putfield 57, 3) := by decide +kernel
theorem d_Mo_init_139 : decode b_Mo_init 139 = .ok (.aload_n 0, 1) := by decide +kernel
theorem d_Mo_init_140 : decode b_Mo_init 140 = .ok (.bipush 40, 2) := by decide +kernel
theorem d_Mo_init_142 : decode b_Mo_init 142 = .ok (.newarray .int, 2) := by decide +kernel
theorem d_Mo_init_144 : decode b_Mo_init 144 = .ok (.putfield 60, 3) := by decide +kernel
theorem d_Mo_init_147 : decode b_Mo_init 147 = .ok (.aload_n 0, 1) := by decide +kernel
theorem d_Mo_init_148 : decode b_Mo_init 148 = .ok (.bipush 61, 2) := by decide +kernel
theorem d_Mo_init_150 : decode b_Mo_init 150 = .ok (.newarray .int, 2) := by decide +kernel
theorem d_Mo_init_152 : decode b_Mo_init 152 = .ok (.putfield 63, 3) := by decide +kernel
theorem d_Mo_init_155 : decode b_Mo_init 155 = .ok (.aload_n 0, 1) := by decide +kernel
theorem d_Mo_init_156 : decode b_Mo_init 156 = .ok (.bipush 61, 2) := by decide +kernel
theorem d_Mo_init_158 : decode b_Mo_init 158 = .ok (.newarray .boolean, 2) := by decide +kernel
theorem d_Mo_init_160 : decode b_Mo_init 160 = .ok (.putfield 66, 3) := by decide +kernel
theorem d_Mo_init_163 : decode b_Mo_init 163 = .ok (.return_, 1) := by decide +kernel
theorem d_Mo_thrown_0 : decode b_Mo_thrown 0 = .ok (.aload_n 0, 1) := by decide +kernel
theorem d_Mo_thrown_1 : decode b_Mo_thrown 1 = .ok (.getfield 69, 3) := by decide +kernel
theorem d_Mo_thrown_4 : decode b_Mo_thrown 4 = .ok (.ireturn, 1) := by decide +kernel
theorem d_Mo_in_0 : decode b_Mo_in 0 = .ok (.iload_n 0, 1) := by decide +kernel
theorem d_Mo_in_1 : decode b_Mo_in 1 = .ok (.iload_n 1, 1) := by decide +kernel
theorem d_Mo_in_2 : decode b_Mo_in 2 = .ok (.if_icmp .lt 12, 3) := by decide +kernel
theorem d_Mo_in_5 : decode b_Mo_in 5 = .ok (.iload_n 0, 1) := by decide +kernel
theorem d_Mo_in_6 : decode b_Mo_in 6 = .ok (.iload_n 2, 1) := by decide +kernel
theorem d_Mo_in_7 : decode b_Mo_in 7 = .ok (.if_icmp .gt 7, 3) := by decide +kernel
theorem d_Mo_in_10 : decode b_Mo_in 10 = .ok (.iconst 1, 1) := by decide +kernel
theorem d_Mo_in_11 : decode b_Mo_in 11 = .ok (.goto 4, 3) := by decide +kernel
theorem d_Mo_in_14 : decode b_Mo_in 14 = .ok (.iconst 0, 1) := by decide +kernel
theorem d_Mo_in_15 : decode b_Mo_in 15 = .ok (.ireturn, 1) := by decide +kernel
theorem d_Mo_says_0 : decode b_Mo_says 0 = .ok (.aload_n 0, 1) := by decide +kernel
theorem d_Mo_says_1 : decode b_Mo_says 1 = .ok (.iload_n 1, 1) := by decide +kernel
theorem d_Mo_says_2 : decode b_Mo_says 2 = .ok (.ifCond .eq 7, 3) := by decide +kernel
theorem d_Mo_says_5 : decode b_Mo_says 5 = .ok (.iconst 0, 1) := by decide +kernel
theorem d_Mo_says_6 : decode b_Mo_says 6 = .ok (.goto 4, 3) := by decide +kernel
theorem d_Mo_says_9 : decode b_Mo_says 9 = .ok (.iconst 1, 1) := by decide +kernel
theorem d_Mo_says_10 : decode b_Mo_says 10 = .ok (.putfield 69, 3) := by decide +kernel
theorem d_Mo_says_13 : decode b_Mo_says 13 = .ok (.iload_n 1, 1) := by decide +kernel
theorem d_Mo_says_14 : decode b_Mo_says 14 = .ok (.ireturn, 1) := by decide +kernel
theorem d_Mo_sign_0 : decode b_Mo_sign 0 = .ok (.aload_n 0, 1) := by decide +kernel
theorem d_Mo_sign_1 : decode b_Mo_sign 1 = .ok (.iload_n 3, 1) := by decide +kernel
theorem d_Mo_sign_2 : decode b_Mo_sign 2 = .ok (.iconst 1, 1) := by decide +kernel
theorem d_Mo_sign_3 : decode b_Mo_sign 3 = .ok (.bipush 8, 2) := by decide +kernel
theorem d_Mo_sign_5 : decode b_Mo_sign 5 = .ok (.invokestatic 72, 3) := by decide +kernel
theorem d_Mo_sign_8 : decode b_Mo_sign 8 = .ok (.ifCond .ne 7, 3) := by decide +kernel
theorem d_Mo_sign_11 : decode b_Mo_sign 11 = .ok (.iconst 1, 1) := by decide +kernel
theorem d_Mo_sign_12 : decode b_Mo_sign 12 = .ok (.goto 20, 3) := by decide +kernel
theorem d_Mo_sign_15 : decode b_Mo_sign 15 = .ok (.aload_n 0, 1) := by decide +kernel
theorem d_Mo_sign_16 : decode b_Mo_sign 16 = .ok (.getfield 76, 3) := by decide +kernel
theorem d_Mo_sign_19 : decode b_Mo_sign 19 = .ok (.iload_n 3, 1) := by decide +kernel
theorem d_Mo_sign_20 : decode b_Mo_sign 20 = .ok (.iadd, 1) := by decide +kernel
theorem d_Mo_sign_21 : decode b_Mo_sign 21 = .ok (.sipush 400, 3) := by decide +kernel
theorem d_Mo_sign_24 : decode b_Mo_sign 24 = .ok (.if_icmp .le 7, 3) := by decide +kernel
theorem d_Mo_sign_27 : decode b_Mo_sign 27 = .ok (.iconst 2, 1) := by decide +kernel
theorem d_Mo_sign_28 : decode b_Mo_sign 28 = .ok (.goto 4, 3) := by decide +kernel
theorem d_Mo_sign_31 : decode b_Mo_sign 31 = .ok (.iconst 0, 1) := by decide +kernel
theorem d_Mo_sign_32 : decode b_Mo_sign 32 = .ok (.putfield 69, 3) := by decide +kernel
theorem d_Mo_sign_35 : decode b_Mo_sign 35 = .ok (.aload_n 0, 1) := by decide +kernel
theorem d_Mo_sign_36 : decode b_Mo_sign 36 = .ok (.getfield 69, 3) := by decide +kernel
theorem d_Mo_sign_39 : decode b_Mo_sign 39 = .ok (.ifCond .le 5, 3) := by decide +kernel
theorem d_Mo_sign_42 : decode b_Mo_sign 42 = .ok (.iconst 0, 1) := by decide +kernel
theorem d_Mo_sign_43 : decode b_Mo_sign 43 = .ok (.ireturn, 1) := by decide +kernel
theorem d_Mo_sign_44 : decode b_Mo_sign 44 = .ok (.iload_n 3, 1) := by decide +kernel
theorem d_Mo_sign_45 : decode b_Mo_sign 45 = .ok (.iconst 1, 1) := by decide +kernel
theorem d_Mo_sign_46 : decode b_Mo_sign 46 = .ok (.isub, 1) := by decide +kernel
theorem d_Mo_sign_47 : decode b_Mo_sign 47 = .ok (.istore 4, 2) := by decide +kernel
theorem d_Mo_sign_49 : decode b_Mo_sign 49 = .ok (.iload 4, 2) := by decide +kernel
theorem d_Mo_sign_51 : decode b_Mo_sign 51 = .ok (.ifCond .lt 40, 3) := by decide +kernel
theorem d_Mo_sign_54 : decode b_Mo_sign 54 = .ok (.aload_n 0, 1) := by decide +kernel
theorem d_Mo_sign_55 : decode b_Mo_sign 55 = .ok (.getfield 7, 3) := by decide +kernel
theorem d_Mo_sign_58 : decode b_Mo_sign 58 = .ok (.aload_n 0, 1) := by decide +kernel
theorem d_Mo_sign_59 : decode b_Mo_sign 59 = .ok (.getfield 76, 3) := by decide +kernel
theorem d_Mo_sign_62 : decode b_Mo_sign 62 = .ok (.lload_n 1, 1) := by decide +kernel
theorem d_Mo_sign_63 : decode b_Mo_sign 63 = .ok (.bipush 8, 2) := by decide +kernel
theorem d_Mo_sign_65 : decode b_Mo_sign 65 = .ok (.iload 4, 2) := by decide +kernel
theorem d_Mo_sign_67 : decode b_Mo_sign 67 = .ok (.imul, 1) := by decide +kernel
theorem d_Mo_sign_68 : decode b_Mo_sign 68 = .ok (.lshr, 1) := by decide +kernel
theorem d_Mo_sign_69 : decode b_Mo_sign 69 = .ok (.l2i, 1) := by decide +kernel
theorem d_Mo_sign_70 : decode b_Mo_sign 70 = .ok (.sipush 255, 3) := by decide +kernel
theorem d_Mo_sign_73 : decode b_Mo_sign 73 = .ok (.iand, 1) := by decide +kernel
theorem d_Mo_sign_74 : decode b_Mo_sign 74 = .ok (.iastore, 1) := by decide +kernel
theorem d_Mo_sign_75 : decode b_Mo_sign 75 = .ok (.aload_n 0, 1) := by decide +kernel
theorem d_Mo_sign_76 : decode b_Mo_sign 76 = .ok (.dup, 1) := by decide +kernel
theorem d_Mo_sign_77 : decode b_Mo_sign 77 = .ok (.getfield 76, 3) := by decide +kernel
theorem d_Mo_sign_80 : decode b_Mo_sign 80 = .ok (.iconst 1, 1) := by decide +kernel
theorem d_Mo_sign_81 : decode b_Mo_sign 81 = .ok (.iadd, 1) := by decide +kernel
theorem d_Mo_sign_82 : decode b_Mo_sign 82 = .ok (.putfield 76, 3) := by decide +kernel
theorem d_Mo_sign_85 : decode b_Mo_sign 85 = .ok (.iinc 4 (-1), 3) := by decide +kernel
theorem d_Mo_sign_88 : decode b_Mo_sign 88 = .ok (.goto (-39), 3) := by decide +kernel
theorem d_Mo_sign_91 : decode b_Mo_sign 91 = .ok (.aload_n 0, 1) := by decide +kernel
theorem d_Mo_sign_92 : decode b_Mo_sign 92 = .ok (.getfield 76, 3) := by decide +kernel
theorem d_Mo_sign_95 : decode b_Mo_sign 95 = .ok (.ireturn, 1) := by decide +kernel
theorem d_Mo_here_0 : decode b_Mo_here 0 = .ok (.aload_n 0, 1) := by decide +kernel
theorem d_Mo_here_1 : decode b_Mo_here 1 = .ok (.getfield 79, 3) := by decide +kernel
theorem d_Mo_here_4 : decode b_Mo_here 4 = .ok (.aload_n 0, 1) := by decide +kernel
theorem d_Mo_here_5 : decode b_Mo_here 5 = .ok (.getfield 76, 3) := by decide +kernel
theorem d_Mo_here_8 : decode b_Mo_here 8 = .ok (.if_icmp .ge 15, 3) := by decide +kernel
theorem d_Mo_here_11 : decode b_Mo_here 11 = .ok (.aload_n 0, 1) := by decide +kernel
theorem d_Mo_here_12 : decode b_Mo_here 12 = .ok (.getfield 7, 3) := by decide +kernel
theorem d_Mo_here_15 : decode b_Mo_here 15 = .ok (.aload_n 0, 1) := by decide +kernel
theorem d_Mo_here_16 : decode b_Mo_here 16 = .ok (.getfield 79, 3) := by decide +kernel
theorem d_Mo_here_19 : decode b_Mo_here 19 = .ok (.iaload, 1) := by decide +kernel
theorem d_Mo_here_20 : decode b_Mo_here 20 = .ok (.goto 4, 3) := by decide +kernel
theorem d_Mo_here_23 : decode b_Mo_here 23 = .ok (.iconst (-1), 1) := by decide +kernel
theorem d_Mo_here_24 : decode b_Mo_here 24 = .ok (.ireturn, 1) := by decide +kernel
theorem d_Mo_see_0 : decode b_Mo_see 0 = .ok (.aload_n 0, 1) := by decide +kernel
theorem d_Mo_see_1 : decode b_Mo_see 1 = .ok (.invokevirtual 82, 3) := by decide +kernel
theorem d_Mo_see_4 : decode b_Mo_see 4 = .ok (.bipush 32, 2) := by decide +kernel
theorem d_Mo_see_6 : decode b_Mo_see 6 = .ok (.if_icmp .ne 16, 3) := by decide +kernel
theorem d_Mo_see_9 : decode b_Mo_see 9 = .ok (.aload_n 0, 1) := by decide +kernel
theorem d_Mo_see_10 : decode b_Mo_see 10 = .ok (.dup, 1) := by decide +kernel
theorem d_Mo_see_11 : decode b_Mo_see 11 = .ok (.getfield 79, 3) := by decide +kernel
theorem d_Mo_see_14 : decode b_Mo_see 14 = .ok (.iconst 1, 1) := by decide +kernel
theorem d_Mo_see_15 : decode b_Mo_see 15 = .ok (.iadd, 1) := by decide +kernel
theorem d_Mo_see_16 : decode b_Mo_see 16 = .ok (.putfield 79, 3) := by decide +kernel
theorem d_Mo_see_19 : decode b_Mo_see 19 = .ok (.goto (-19), 3) := by decide +kernel
theorem d_Mo_see_22 : decode b_Mo_see 22 = .ok (.aload_n 0, 1) := by decide +kernel
theorem d_Mo_see_23 : decode b_Mo_see 23 = .ok (.invokevirtual 82, 3) := by decide +kernel
theorem d_Mo_see_26 : decode b_Mo_see 26 = .ok (.ireturn, 1) := by decide +kernel
theorem d_Mo_fail_0 : decode b_Mo_fail 0 = .ok (.aload_n 0, 1) := by decide +kernel
theorem d_Mo_fail_1 : decode b_Mo_fail 1 = .ok (.getfield 86, 3) := by decide +kernel
theorem d_Mo_fail_4 : decode b_Mo_fail 4 = .ok (.ifCond .ge 8, 3) := by decide +kernel
theorem d_Mo_fail_7 : decode b_Mo_fail 7 = .ok (.aload_n 0, 1) := by decide +kernel
theorem d_Mo_fail_8 : decode b_Mo_fail 8 = .ok (.iload_n 1, 1) := by decide +kernel
theorem d_Mo_fail_9 : decode b_Mo_fail 9 = .ok (.putfield 86, 3) := by decide +kernel
theorem d_Mo_fail_12 : decode b_Mo_fail 12 = .ok (.return_, 1) := by decide +kernel
theorem d_Mo_take_0 : decode b_Mo_take 0 = .ok (.aload_n 0, 1) := by decide +kernel
theorem d_Mo_take_1 : decode b_Mo_take 1 = .ok (.getfield 86, 3) := by decide +kernel
theorem d_Mo_take_4 : decode b_Mo_take 4 = .ok (.ifCond .lt 4, 3) := by decide +kernel
theorem d_Mo_take_7 : decode b_Mo_take 7 = .ok (.return_, 1) := by decide +kernel
theorem d_Mo_take_8 : decode b_Mo_take 8 = .ok (.aload_n 0, 1) := by decide +kernel
theorem d_Mo_take_9 : decode b_Mo_take 9 = .ok (.invokevirtual 89, 3) := by decide +kernel
theorem d_Mo_take_12 : decode b_Mo_take 12 = .ok (.iload_n 1, 1) := by decide +kernel
theorem d_Mo_take_13 : decode b_Mo_take 13 = .ok (.if_icmp .eq 14, 3) := by decide +kernel
theorem d_Mo_take_16 : decode b_Mo_take 16 = .ok (.aload_n 0, 1) := by decide +kernel
theorem d_Mo_take_17 : decode b_Mo_take 17 = .ok (.aload_n 0, 1) := by decide +kernel
theorem d_Mo_take_18 : decode b_Mo_take 18 = .ok (.getfield 79, 3) := by decide +kernel
theorem d_Mo_take_21 : decode b_Mo_take 21 = .ok (.invokevirtual 92, 3) := by decide +kernel
theorem d_Mo_take_24 : decode b_Mo_take 24 = .ok (.goto 13, 3) := by decide +kernel
theorem d_Mo_take_27 : decode b_Mo_take 27 = .ok (.aload_n 0, 1) := by decide +kernel
theorem d_Mo_take_28 : decode b_Mo_take 28 = .ok (.dup, 1) := by decide +kernel
theorem d_Mo_take_29 : decode b_Mo_take 29 = .ok (.getfield 79, 3) := by decide +kernel
theorem d_Mo_take_32 : decode b_Mo_take 32 = .ok (.iconst 1, 1) := by decide +kernel
theorem d_Mo_take_33 : decode b_Mo_take 33 = .ok (.iadd, 1) := by decide +kernel
theorem d_Mo_take_34 : decode b_Mo_take 34 = .ok (.putfield 79, 3) := by decide +kernel
theorem d_Mo_take_37 : decode b_Mo_take 37 = .ok (.return_, 1) := by decide +kernel
theorem d_Mo_isDigit_0 : decode b_Mo_isDigit 0 = .ok (.aload_n 0, 1) := by decide +kernel
theorem d_Mo_isDigit_1 : decode b_Mo_isDigit 1 = .ok (.invokevirtual 82, 3) := by decide +kernel
theorem d_Mo_isDigit_4 : decode b_Mo_isDigit 4 = .ok (.bipush 48, 2) := by decide +kernel
theorem d_Mo_isDigit_6 : decode b_Mo_isDigit 6 = .ok (.bipush 57, 2) := by decide +kernel
theorem d_Mo_isDigit_8 : decode b_Mo_isDigit 8 = .ok (.invokestatic 72, 3) := by decide +kernel
theorem d_Mo_isDigit_11 : decode b_Mo_isDigit 11 = .ok (.ireturn, 1) := by decide +kernel
theorem d_Mo_number_0 : decode b_Mo_number 0 = .ok (.aload_n 0, 1) := by decide +kernel
theorem d_Mo_number_1 : decode b_Mo_number 1 = .ok (.getfield 86, 3) := by decide +kernel
theorem d_Mo_number_4 : decode b_Mo_number 4 = .ok (.ifCond .lt 5, 3) := by decide +kernel
theorem d_Mo_number_7 : decode b_Mo_number 7 = .ok (.iload_n 1, 1) := by decide +kernel
theorem d_Mo_number_8 : decode b_Mo_number 8 = .ok (.ireturn, 1) := by decide +kernel
theorem d_Mo_number_9 : decode b_Mo_number 9 = .ok (.aload_n 0, 1) := by decide +kernel
theorem d_Mo_number_10 : decode b_Mo_number 10 = .ok (.invokevirtual 89, 3) := by decide +kernel
theorem d_Mo_number_13 : decode b_Mo_number 13 = .ok (.pop, 1) := by decide +kernel
theorem d_Mo_number_14 : decode b_Mo_number 14 = .ok (.aload_n 0, 1) := by decide +kernel
theorem d_Mo_number_15 : decode b_Mo_number 15 = .ok (.invokevirtual 96, 3) := by decide +kernel
theorem d_Mo_number_18 : decode b_Mo_number 18 = .ok (.ifCond .ne 11, 3) := by decide +kernel
theorem d_Mo_number_21 : decode b_Mo_number 21 = .ok (.aload_n 0, 1) := by decide +kernel
theorem d_Mo_number_22 : decode b_Mo_number 22 = .ok (.aload_n 0, 1) := by decide +kernel
theorem d_Mo_number_23 : decode b_Mo_number 23 = .ok (.getfield 79, 3) := by decide +kernel
theorem d_Mo_number_26 : decode b_Mo_number 26 = .ok (.invokevirtual 92, 3) := by decide +kernel
theorem d_Mo_number_29 : decode b_Mo_number 29 = .ok (.iconst 0, 1) := by decide +kernel
theorem d_Mo_number_30 : decode b_Mo_number 30 = .ok (.istore_n 3, 1) := by decide +kernel
theorem d_Mo_number_31 : decode b_Mo_number 31 = .ok (.aload_n 0, 1) := by decide +kernel
theorem d_Mo_number_32 : decode b_Mo_number 32 = .ok (.iconst 0, 1) := by decide +kernel
theorem d_Mo_number_33 : decode b_Mo_number 33 = .ok (.putfield 100, 3) := by decide +kernel
theorem d_Mo_number_36 : decode b_Mo_number 36 = .ok (.aload_n 0, 1) := by decide +kernel
theorem d_Mo_number_37 : decode b_Mo_number 37 = .ok (.invokevirtual 96, 3) := by decide +kernel
theorem d_Mo_number_40 : decode b_Mo_number 40 = .ok (.ifCond .eq 58, 3) := by decide +kernel
theorem d_Mo_number_43 : decode b_Mo_number 43 = .ok (.aload_n 0, 1) := by decide +kernel
theorem d_Mo_number_44 : decode b_Mo_number 44 = .ok (.getfield 100, 3) := by decide +kernel
theorem d_Mo_number_47 : decode b_Mo_number 47 = .ok (.iconst 4, 1) := by decide +kernel
theorem d_Mo_number_48 : decode b_Mo_number 48 = .ok (.if_icmp .ge 50, 3) := by decide +kernel
theorem d_Mo_number_51 : decode b_Mo_number 51 = .ok (.aload_n 0, 1) := by decide +kernel
theorem d_Mo_number_52 : decode b_Mo_number 52 = .ok (.getfield 100, 3) := by decide +kernel
theorem d_Mo_number_55 : decode b_Mo_number 55 = .ok (.ifCond .eq 7, 3) := by decide +kernel
theorem d_Mo_number_58 : decode b_Mo_number 58 = .ok (.iload_n 3, 1) := by decide +kernel
theorem d_Mo_number_59 : decode b_Mo_number 59 = .ok (.ifCond .le 39, 3) := by decide +kernel
theorem d_Mo_number_62 : decode b_Mo_number 62 = .ok (.bipush 10, 2) := by decide +kernel
theorem d_Mo_number_64 : decode b_Mo_number 64 = .ok (.iload_n 3, 1) := by decide +kernel
theorem d_Mo_number_65 : decode b_Mo_number 65 = .ok (.imul, 1) := by decide +kernel
theorem d_Mo_number_66 : decode b_Mo_number 66 = .ok (.aload_n 0, 1) := by decide +kernel
theorem d_Mo_number_67 : decode b_Mo_number 67 = .ok (.invokevirtual 82, 3) := by decide +kernel
theorem d_Mo_number_70 : decode b_Mo_number 70 = .ok (.iadd, 1) := by decide +kernel
theorem d_Mo_number_71 : decode b_Mo_number 71 = .ok (.bipush 48, 2) := by decide +kernel
theorem d_Mo_number_73 : decode b_Mo_number 73 = .ok (.isub, 1) := by decide +kernel
theorem d_Mo_number_74 : decode b_Mo_number 74 = .ok (.istore_n 3, 1) := by decide +kernel
theorem d_Mo_number_75 : decode b_Mo_number 75 = .ok (.aload_n 0, 1) := by decide +kernel
theorem d_Mo_number_76 : decode b_Mo_number 76 = .ok (.dup, 1) := by decide +kernel
theorem d_Mo_number_77 : decode b_Mo_number 77 = .ok (.getfield 100, 3) := by decide +kernel
theorem d_Mo_number_80 : decode b_Mo_number 80 = .ok (.iconst 1, 1) := by decide +kernel
theorem d_Mo_number_81 : decode b_Mo_number 81 = .ok (.iadd, 1) := by decide +kernel
theorem d_Mo_number_82 : decode b_Mo_number 82 = .ok (.putfield 100, 3) := by decide +kernel
theorem d_Mo_number_85 : decode b_Mo_number 85 = .ok (.aload_n 0, 1) := by decide +kernel
theorem d_Mo_number_86 : decode b_Mo_number 86 = .ok (.dup, 1) := by decide +kernel
theorem d_Mo_number_87 : decode b_Mo_number 87 = .ok (.getfield 79, 3) := by decide +kernel
theorem d_Mo_number_90 : decode b_Mo_number 90 = .ok (.iconst 1, 1) := by decide +kernel
theorem d_Mo_number_91 : decode b_Mo_number 91 = .ok (.iadd, 1) := by decide +kernel
theorem d_Mo_number_92 : decode b_Mo_number 92 = .ok (.putfield 79, 3) := by decide +kernel
theorem d_Mo_number_95 : decode b_Mo_number 95 = .ok (.goto (-59), 3) := by decide +kernel
theorem d_Mo_number_98 : decode b_Mo_number 98 = .ok (.aload_n 0, 1) := by decide +kernel
theorem d_Mo_number_99 : decode b_Mo_number 99 = .ok (.getfield 100, 3) := by decide +kernel
theorem d_Mo_number_102 : decode b_Mo_number 102 = .ok (.iconst 4, 1) := by decide +kernel
theorem d_Mo_number_103 : decode b_Mo_number 103 = .ok (.if_icmp .ne 18, 3) := by decide +kernel
theorem d_Mo_number_106 : decode b_Mo_number 106 = .ok (.aload_n 0, 1) := by decide +kernel
theorem d_Mo_number_107 : decode b_Mo_number 107 = .ok (.invokevirtual 96, 3) := by decide +kernel
theorem d_Mo_number_110 : decode b_Mo_number 110 = .ok (.ifCond .eq 11, 3) := by decide +kernel
theorem d_Mo_number_113 : decode b_Mo_number 113 = .ok (.aload_n 0, 1) := by decide +kernel
theorem d_Mo_number_114 : decode b_Mo_number 114 = .ok (.aload_n 0, 1) := by decide +kernel
theorem d_Mo_number_115 : decode b_Mo_number 115 = .ok (.getfield 79, 3) := by decide +kernel
theorem d_Mo_number_118 : decode b_Mo_number 118 = .ok (.invokevirtual 92, 3) := by decide +kernel
theorem d_Mo_number_121 : decode b_Mo_number 121 = .ok (.iload_n 3, 1) := by decide +kernel
theorem d_Mo_number_122 : decode b_Mo_number 122 = .ok (.iload_n 1, 1) := by decide +kernel
theorem d_Mo_number_123 : decode b_Mo_number 123 = .ok (.iload_n 2, 1) := by decide +kernel
theorem d_Mo_number_124 : decode b_Mo_number 124 = .ok (.invokestatic 72, 3) := by decide +kernel
theorem d_Mo_number_127 : decode b_Mo_number 127 = .ok (.ifCond .ne 13, 3) := by decide +kernel
theorem d_Mo_number_130 : decode b_Mo_number 130 = .ok (.aload_n 0, 1) := by decide +kernel
theorem d_Mo_number_131 : decode b_Mo_number 131 = .ok (.aload_n 0, 1) := by decide +kernel
theorem d_Mo_number_132 : decode b_Mo_number 132 = .ok (.getfield 79, 3) := by decide +kernel
theorem d_Mo_number_135 : decode b_Mo_number 135 = .ok (.iconst 1, 1) := by decide +kernel
theorem d_Mo_number_136 : decode b_Mo_number 136 = .ok (.isub, 1) := by decide +kernel
theorem d_Mo_number_137 : decode b_Mo_number 137 = .ok (.invokevirtual 92, 3) := by decide +kernel
theorem d_Mo_number_140 : decode b_Mo_number 140 = .ok (.aload_n 0, 1) := by decide +kernel
theorem d_Mo_number_141 : decode b_Mo_number 141 = .ok (.getfield 86, 3) := by decide +kernel
theorem d_Mo_number_144 : decode b_Mo_number 144 = .ok (.ifCond .ge 7, 3) := by decide +kernel
theorem d_Mo_number_147 : decode b_Mo_number 147 = .ok (.iload_n 3, 1) := by decide +kernel
theorem d_Mo_number_148 : decode b_Mo_number 148 = .ok (.goto 4, 3) := by decide +kernel
theorem d_Mo_number_151 : decode b_Mo_number 151 = .ok (.iload_n 1, 1) := by decide +kernel
theorem d_Mo_number_152 : decode b_Mo_number 152 = .ok (.ireturn, 1) := by decide +kernel
theorem d_Mo_words_0 : decode b_Mo_words 0 = .ok (.aload_n 0, 1) := by decide +kernel
theorem d_Mo_words_1 : decode b_Mo_words 1 = .ok (.bipush 34, 2) := by decide +kernel
theorem d_Mo_words_3 : decode b_Mo_words 3 = .ok (.invokevirtual 103, 3) := by decide +kernel
theorem d_Mo_words_6 : decode b_Mo_words 6 = .ok (.aload_n 0, 1) := by decide +kernel
theorem d_Mo_words_7 : decode b_Mo_words 7 = .ok (.getfield 106, 3) := by decide +kernel
theorem d_Mo_words_10 : decode b_Mo_words 10 = .ok (.bipush 61, 2) := by decide +kernel
theorem d_Mo_words_12 : decode b_Mo_words 12 = .ok (.imul, 1) := by decide +kernel
theorem d_Mo_words_13 : decode b_Mo_words 13 = .ok (.iload_n 1, 1) := by decide +kernel
theorem d_Mo_words_14 : decode b_Mo_words 14 = .ok (.iadd, 1) := by decide +kernel
theorem d_Mo_words_15 : decode b_Mo_words 15 = .ok (.iconst 2, 1) := by decide +kernel
theorem d_Mo_words_16 : decode b_Mo_words 16 = .ok (.imul, 1) := by decide +kernel
theorem d_Mo_words_17 : decode b_Mo_words 17 = .ok (.iload_n 2, 1) := by decide +kernel
theorem d_Mo_words_18 : decode b_Mo_words 18 = .ok (.iadd, 1) := by decide +kernel
theorem d_Mo_words_19 : decode b_Mo_words 19 = .ok (.istore_n 3, 1) := by decide +kernel
theorem d_Mo_words_20 : decode b_Mo_words 20 = .ok (.iconst 0, 1) := by decide +kernel
theorem d_Mo_words_21 : decode b_Mo_words 21 = .ok (.istore 4, 2) := by decide +kernel
theorem d_Mo_words_23 : decode b_Mo_words 23 = .ok (.aload_n 0, 1) := by decide +kernel
theorem d_Mo_words_24 : decode b_Mo_words 24 = .ok (.getfield 86, 3) := by decide +kernel
theorem d_Mo_words_27 : decode b_Mo_words 27 = .ok (.ifCond .ge 74, 3) := by decide +kernel
theorem d_Mo_words_30 : decode b_Mo_words 30 = .ok (.aload_n 0, 1) := by decide +kernel
theorem d_Mo_words_31 : decode b_Mo_words 31 = .ok (.invokevirtual 82, 3) := by decide +kernel
theorem d_Mo_words_34 : decode b_Mo_words 34 = .ok (.bipush 34, 2) := by decide +kernel
theorem d_Mo_words_36 : decode b_Mo_words 36 = .ok (.if_icmp .eq 65, 3) := by decide +kernel
theorem d_Mo_words_39 : decode b_Mo_words 39 = .ok (.aload_n 0, 1) := by decide +kernel
theorem d_Mo_words_40 : decode b_Mo_words 40 = .ok (.invokevirtual 82, 3) := by decide +kernel
theorem d_Mo_words_43 : decode b_Mo_words 43 = .ok (.bipush 32, 2) := by decide +kernel
theorem d_Mo_words_45 : decode b_Mo_words 45 = .ok (.bipush 126, 2) := by decide +kernel
theorem d_Mo_words_47 : decode b_Mo_words 47 = .ok (.invokestatic 72, 3) := by decide +kernel
theorem d_Mo_words_50 : decode b_Mo_words 50 = .ok (.ifCond .eq 10, 3) := by decide +kernel
theorem d_Mo_words_53 : decode b_Mo_words 53 = .ok (.iload 4, 2) := by decide +kernel
theorem d_Mo_words_55 : decode b_Mo_words 55 = .ok (.bipush 12, 2) := by decide +kernel
theorem d_Mo_words_57 : decode b_Mo_words 57 = .ok (.if_icmp .ne 12, 3) := by decide +kernel
theorem d_Mo_words_60 : decode b_Mo_words 60 = .ok (.aload_n 0, 1) := by decide +kernel
theorem d_Mo_words_61 : decode b_Mo_words 61 = .ok (.aload_n 0, 1) := by decide +kernel
theorem d_Mo_words_62 : decode b_Mo_words 62 = .ok (.getfield 79, 3) := by decide +kernel
theorem d_Mo_words_65 : decode b_Mo_words 65 = .ok (.invokevirtual 92, 3) := by decide +kernel
theorem d_Mo_words_68 : decode b_Mo_words 68 = .ok (.return_, 1) := by decide +kernel
theorem d_Mo_words_69 : decode b_Mo_words 69 = .ok (.aload_n 0, 1) := by decide +kernel
theorem d_Mo_words_70 : decode b_Mo_words 70 = .ok (.getfield 33, 3) := by decide +kernel
theorem d_Mo_words_73 : decode b_Mo_words 73 = .ok (.iload_n 3, 1) := by decide +kernel
theorem d_Mo_words_74 : decode b_Mo_words 74 = .ok (.bipush 12, 2) := by decide +kernel
theorem d_Mo_words_76 : decode b_Mo_words 76 = .ok (.imul, 1) := by decide +kernel
theorem d_Mo_words_77 : decode b_Mo_words 77 = .ok (.iload 4, 2) := by decide +kernel
theorem d_Mo_words_79 : decode b_Mo_words 79 = .ok (.iadd, 1) := by decide +kernel
theorem d_Mo_words_80 : decode b_Mo_words 80 = .ok (.aload_n 0, 1) := by decide +kernel
theorem d_Mo_words_81 : decode b_Mo_words 81 = .ok (.invokevirtual 82, 3) := by decide +kernel
theorem d_Mo_words_84 : decode b_Mo_words 84 = .ok (.iastore, 1) := by decide +kernel
theorem d_Mo_words_85 : decode b_Mo_words 85 = .ok (.iinc 4 1, 3) := by decide +kernel
theorem d_Mo_words_88 : decode b_Mo_words 88 = .ok (.aload_n 0, 1) := by decide +kernel
theorem d_Mo_words_89 : decode b_Mo_words 89 = .ok (.dup, 1) := by decide +kernel
theorem d_Mo_words_90 : decode b_Mo_words 90 = .ok (.getfield 79, 3) := by decide +kernel
theorem d_Mo_words_93 : decode b_Mo_words 93 = .ok (.iconst 1, 1) := by decide +kernel
theorem d_Mo_words_94 : decode b_Mo_words 94 = .ok (.iadd, 1) := by decide +kernel
theorem d_Mo_words_95 : decode b_Mo_words 95 = .ok (.putfield 79, 3) := by decide +kernel
theorem d_Mo_words_98 : decode b_Mo_words 98 = .ok (.goto (-75), 3) := by decide +kernel
theorem d_Mo_words_101 : decode b_Mo_words 101 = .ok (.iload 4, 2) := by decide +kernel
theorem d_Mo_words_103 : decode b_Mo_words 103 = .ok (.ifCond .ne 11, 3) := by decide +kernel
theorem d_Mo_words_106 : decode b_Mo_words 106 = .ok (.aload_n 0, 1) := by decide +kernel
theorem d_Mo_words_107 : decode b_Mo_words 107 = .ok (.aload_n 0, 1) := by decide +kernel
theorem d_Mo_words_108 : decode b_Mo_words 108 = .ok (.getfield 79, 3) := by decide +kernel
theorem d_Mo_words_111 : decode b_Mo_words 111 = .ok (.invokevirtual 92, 3) := by decide +kernel
theorem d_Mo_words_114 : decode b_Mo_words 114 = .ok (.aload_n 0, 1) := by decide +kernel
theorem d_Mo_words_115 : decode b_Mo_words 115 = .ok (.getfield 86, 3) := by decide +kernel
theorem d_Mo_words_118 : decode b_Mo_words 118 = .ok (.ifCond .ge 13, 3) := by decide +kernel
theorem d_Mo_words_121 : decode b_Mo_words 121 = .ok (.aload_n 0, 1) := by decide +kernel
theorem d_Mo_words_122 : decode b_Mo_words 122 = .ok (.dup, 1) := by decide +kernel
theorem d_Mo_words_123 : decode b_Mo_words 123 = .ok (.getfield 79, 3) := by decide +kernel
theorem d_Mo_words_126 : decode b_Mo_words 126 = .ok (.iconst 1, 1) := by decide +kernel
theorem d_Mo_words_127 : decode b_Mo_words 127 = .ok (.iadd, 1) := by decide +kernel
theorem d_Mo_words_128 : decode b_Mo_words 128 = .ok (.putfield 79, 3) := by decide +kernel
theorem d_Mo_words_131 : decode b_Mo_words 131 = .ok (.aload_n 0, 1) := by decide +kernel
theorem d_Mo_words_132 : decode b_Mo_words 132 = .ok (.getfield 30, 3) := by decide +kernel
theorem d_Mo_words_135 : decode b_Mo_words 135 = .ok (.iload_n 3, 1) := by decide +kernel
theorem d_Mo_words_136 : decode b_Mo_words 136 = .ok (.iload 4, 2) := by decide +kernel
theorem d_Mo_words_138 : decode b_Mo_words 138 = .ok (.iastore, 1) := by decide +kernel
theorem d_Mo_words_139 : decode b_Mo_words 139 = .ok (.return_, 1) := by decide +kernel
theorem d_Mo_question_0 : decode b_Mo_question 0 = .ok (.aload_n 0, 1) := by decide +kernel
theorem d_Mo_question_1 : decode b_Mo_question 1 = .ok (.iconst 1, 1) := by decide +kernel
theorem d_Mo_question_2 : decode b_Mo_question 2 = .ok (.bipush 60, 2) := by decide +kernel
theorem d_Mo_question_4 : decode b_Mo_question 4 = .ok (.invokevirtual 109, 3) := by decide +kernel
theorem d_Mo_question_7 : decode b_Mo_question 7 = .ok (.istore_n 1, 1) := by decide +kernel
theorem d_Mo_question_8 : decode b_Mo_question 8 = .ok (.aload_n 0, 1) := by decide +kernel
theorem d_Mo_question_9 : decode b_Mo_question 9 = .ok (.getfield 86, 3) := by decide +kernel
theorem d_Mo_question_12 : decode b_Mo_question 12 = .ok (.ifCond .ge 22, 3) := by decide +kernel
theorem d_Mo_question_15 : decode b_Mo_question 15 = .ok (.aload_n 0, 1) := by decide +kernel
theorem d_Mo_question_16 : decode b_Mo_question 16 = .ok (.getfield 54, 3) := by decide +kernel
theorem d_Mo_question_19 : decode b_Mo_question 19 = .ok (.iload_n 1, 1) := by decide +kernel
theorem d_Mo_question_20 : decode b_Mo_question 20 = .ok (.baload, 1) := by decide +kernel
theorem d_Mo_question_21 : decode b_Mo_question 21 = .ok (.ifCond .eq 13, 3) := by decide +kernel
theorem d_Mo_question_24 : decode b_Mo_question 24 = .ok (.aload_n 0, 1) := by decide +kernel
theorem d_Mo_question_25 : decode b_Mo_question 25 = .ok (.aload_n 0, 1) := by decide +kernel
theorem d_Mo_question_26 : decode b_Mo_question 26 = .ok (.getfield 79, 3) := by decide +kernel
theorem d_Mo_question_29 : decode b_Mo_question 29 = .ok (.iconst 1, 1) := by decide +kernel
theorem d_Mo_question_30 : decode b_Mo_question 30 = .ok (.isub, 1) := by decide +kernel
theorem d_Mo_question_31 : decode b_Mo_question 31 = .ok (.invokevirtual 92, 3) := by decide +kernel
theorem d_Mo_question_34 : decode b_Mo_question 34 = .ok (.aload_n 0, 1) := by decide +kernel
theorem d_Mo_question_35 : decode b_Mo_question 35 = .ok (.getfield 86, 3) := by decide +kernel
theorem d_Mo_question_38 : decode b_Mo_question 38 = .ok (.ifCond .lt 4, 3) := by decide +kernel
theorem d_Mo_question_41 : decode b_Mo_question 41 = .ok (.return_, 1) := by decide +kernel
theorem d_Mo_question_42 : decode b_Mo_question 42 = .ok (.aload_n 0, 1) := by decide +kernel
theorem d_Mo_question_43 : decode b_Mo_question 43 = .ok (.getfield 54, 3) := by decide +kernel
theorem d_Mo_question_46 : decode b_Mo_question 46 = .ok (.iload_n 1, 1) := by decide +kernel
theorem d_Mo_question_47 : decode b_Mo_question 47 = .ok (.iconst 1, 1) := by decide +kernel
theorem d_Mo_question_48 : decode b_Mo_question 48 = .ok (.bastore, 1) := by decide +kernel
theorem d_Mo_question_49 : decode b_Mo_question 49 = .ok (.aload_n 0, 1) := by decide +kernel
theorem d_Mo_question_50 : decode b_Mo_question 50 = .ok (.getfield 106, 3) := by decide +kernel
theorem d_Mo_question_53 : decode b_Mo_question 53 = .ok (.bipush 61, 2) := by decide +kernel
theorem d_Mo_question_55 : decode b_Mo_question 55 = .ok (.imul, 1) := by decide +kernel
theorem d_Mo_question_56 : decode b_Mo_question 56 = .ok (.iload_n 1, 1) := by decide +kernel
theorem d_Mo_question_57 : decode b_Mo_question 57 = .ok (.iadd, 1) := by decide +kernel
theorem d_Mo_question_58 : decode b_Mo_question 58 = .ok (.istore_n 2, 1) := by decide +kernel
theorem d_Mo_question_59 : decode b_Mo_question 59 = .ok (.aload_n 0, 1) := by decide +kernel
theorem d_Mo_question_60 : decode b_Mo_question 60 = .ok (.invokevirtual 89, 3) := by decide +kernel
theorem d_Mo_question_63 : decode b_Mo_question 63 = .ok (.istore_n 3, 1) := by decide +kernel
theorem d_Mo_question_64 : decode b_Mo_question 64 = .ok (.iload_n 3, 1) := by decide +kernel
theorem d_Mo_question_65 : decode b_Mo_question 65 = .ok (.bipush 33, 2) := by decide +kernel
theorem d_Mo_question_67 : decode b_Mo_question 67 = .ok (.if_icmp .eq 17, 3) := by decide +kernel
theorem d_Mo_question_70 : decode b_Mo_question 70 = .ok (.iload_n 3, 1) := by decide +kernel
theorem d_Mo_question_71 : decode b_Mo_question 71 = .ok (.bipush 63, 2) := by decide +kernel
theorem d_Mo_question_73 : decode b_Mo_question 73 = .ok (.if_icmp .eq 11, 3) := by decide +kernel
theorem d_Mo_question_76 : decode b_Mo_question 76 = .ok (.aload_n 0, 1) := by decide +kernel
theorem d_Mo_question_77 : decode b_Mo_question 77 = .ok (.aload_n 0, 1) := by decide +kernel
theorem d_Mo_question_78 : decode b_Mo_question 78 = .ok (.getfield 79, 3) := by decide +kernel
theorem d_Mo_question_81 : decode b_Mo_question 81 = .ok (.invokevirtual 92, 3) := by decide +kernel
theorem d_Mo_question_84 : decode b_Mo_question 84 = .ok (.aload_n 0, 1) := by decide +kernel
theorem d_Mo_question_85 : decode b_Mo_question 85 = .ok (.dup, 1) := by decide +kernel
theorem d_Mo_question_86 : decode b_Mo_question 86 = .ok (.getfield 79, 3) := by decide +kernel
theorem d_Mo_question_89 : decode b_Mo_question 89 = .ok (.iconst 1, 1) := by decide +kernel
theorem d_Mo_question_90 : decode b_Mo_question 90 = .ok (.iadd, 1) := by decide +kernel
theorem d_Mo_question_91 : decode b_Mo_question 91 = .ok (.putfield 79, 3) := by decide +kernel
theorem d_Mo_question_94 : decode b_Mo_question 94 = .ok (.aload_n 0, 1) := by decide +kernel
theorem d_Mo_question_95 : decode b_Mo_question 95 = .ok (.getfield 17, 3) := by decide +kernel
theorem d_Mo_question_98 : decode b_Mo_question 98 = .ok (.iload_n 2, 1) := by decide +kernel
theorem d_Mo_question_99 : decode b_Mo_question 99 = .ok (.iconst 1, 1) := by decide +kernel
theorem d_Mo_question_100 : decode b_Mo_question 100 = .ok (.bastore, 1) := by decide +kernel
theorem d_Mo_question_101 : decode b_Mo_question 101 = .ok (.aload_n 0, 1) := by decide +kernel
theorem d_Mo_question_102 : decode b_Mo_question 102 = .ok (.getfield 21, 3) := by decide +kernel
theorem d_Mo_question_105 : decode b_Mo_question 105 = .ok (.iload_n 2, 1) := by decide +kernel
theorem d_Mo_question_106 : decode b_Mo_question 106 = .ok (.iload_n 3, 1) := by decide +kernel
theorem d_Mo_question_107 : decode b_Mo_question 107 = .ok (.bipush 33, 2) := by decide +kernel
theorem d_Mo_question_109 : decode b_Mo_question 109 = .ok (.if_icmp .ne 7, 3) := by decide +kernel
theorem d_Mo_question_112 : decode b_Mo_question 112 = .ok (.iconst 1, 1) := by decide +kernel
theorem d_Mo_question_113 : decode b_Mo_question 113 = .ok (.goto 4, 3) := by decide +kernel
theorem d_Mo_question_116 : decode b_Mo_question 116 = .ok (.iconst 0, 1) := by decide +kernel
theorem d_Mo_question_117 : decode b_Mo_question 117 = .ok (.bastore, 1) := by decide +kernel
theorem d_Mo_question_118 : decode b_Mo_question 118 = .ok (.aload_n 0, 1) := by decide +kernel
theorem d_Mo_question_119 : decode b_Mo_question 119 = .ok (.getfield 24, 3) := by decide +kernel
theorem d_Mo_question_122 : decode b_Mo_question 122 = .ok (.iload_n 2, 1) := by decide +kernel
theorem d_Mo_question_123 : decode b_Mo_question 123 = .ok (.aload_n 0, 1) := by decide +kernel
theorem d_Mo_question_124 : decode b_Mo_question 124 = .ok (.iconst 0, 1) := by decide +kernel
theorem d_Mo_question_125 : decode b_Mo_question 125 = .ok (.sipush 9999, 3) := by decide +kernel
theorem d_Mo_question_128 : decode b_Mo_question 128 = .ok (.invokevirtual 109, 3) := by decide +kernel
theorem d_Mo_question_131 : decode b_Mo_question 131 = .ok (.iastore, 1) := by decide +kernel
theorem d_Mo_question_132 : decode b_Mo_question 132 = .ok (.aload_n 0, 1) := by decide +kernel
theorem d_Mo_question_133 : decode b_Mo_question 133 = .ok (.bipush 45, 2) := by decide +kernel
theorem d_Mo_question_135 : decode b_Mo_question 135 = .ok (.invokevirtual 103, 3) := by decide +kernel
theorem d_Mo_question_138 : decode b_Mo_question 138 = .ok (.aload_n 0, 1) := by decide +kernel
theorem d_Mo_question_139 : decode b_Mo_question 139 = .ok (.getfield 27, 3) := by decide +kernel
theorem d_Mo_question_142 : decode b_Mo_question 142 = .ok (.iload_n 2, 1) := by decide +kernel
theorem d_Mo_question_143 : decode b_Mo_question 143 = .ok (.aload_n 0, 1) := by decide +kernel
theorem d_Mo_question_144 : decode b_Mo_question 144 = .ok (.aload_n 0, 1) := by decide +kernel
theorem d_Mo_question_145 : decode b_Mo_question 145 = .ok (.getfield 24, 3) := by decide +kernel
theorem d_Mo_question_148 : decode b_Mo_question 148 = .ok (.iload_n 2, 1) := by decide +kernel
theorem d_Mo_question_149 : decode b_Mo_question 149 = .ok (.iaload, 1) := by decide +kernel
theorem d_Mo_question_150 : decode b_Mo_question 150 = .ok (.sipush 9999, 3) := by decide +kernel
theorem d_Mo_question_153 : decode b_Mo_question 153 = .ok (.invokevirtual 109, 3) := by decide +kernel
theorem d_Mo_question_156 : decode b_Mo_question 156 = .ok (.iastore, 1) := by decide +kernel
theorem d_Mo_question_157 : decode b_Mo_question 157 = .ok (.aload_n 0, 1) := by decide +kernel
theorem d_Mo_question_158 : decode b_Mo_question 158 = .ok (.iload_n 1, 1) := by decide +kernel
theorem d_Mo_question_159 : decode b_Mo_question 159 = .ok (.iconst 0, 1) := by decide +kernel
theorem d_Mo_question_160 : decode b_Mo_question 160 = .ok (.invokevirtual 113, 3) := by decide +kernel
theorem d_Mo_question_163 : decode b_Mo_question 163 = .ok (.aload_n 0, 1) := by decide +kernel
theorem d_Mo_question_164 : decode b_Mo_question 164 = .ok (.getfield 30, 3) := by decide +kernel
theorem d_Mo_question_167 : decode b_Mo_question 167 = .ok (.iconst 2, 1) := by decide +kernel
theorem d_Mo_question_168 : decode b_Mo_question 168 = .ok (.iload_n 2, 1) := by decide +kernel
theorem d_Mo_question_169 : decode b_Mo_question 169 = .ok (.imul, 1) := by decide +kernel
theorem d_Mo_question_170 : decode b_Mo_question 170 = .ok (.iconst 1, 1) := by decide +kernel
theorem d_Mo_question_171 : decode b_Mo_question 171 = .ok (.iadd, 1) := by decide +kernel
theorem d_Mo_question_172 : decode b_Mo_question 172 = .ok (.iconst 0, 1) := by decide +kernel
theorem d_Mo_question_173 : decode b_Mo_question 173 = .ok (.iastore, 1) := by decide +kernel
theorem d_Mo_question_174 : decode b_Mo_question 174 = .ok (.aload_n 0, 1) := by decide +kernel
theorem d_Mo_question_175 : decode b_Mo_question 175 = .ok (.getfield 86, 3) := by decide +kernel
theorem d_Mo_question_178 : decode b_Mo_question 178 = .ok (.ifCond .ge 18, 3) := by decide +kernel
theorem d_Mo_question_181 : decode b_Mo_question 181 = .ok (.aload_n 0, 1) := by decide +kernel
theorem d_Mo_question_182 : decode b_Mo_question 182 = .ok (.invokevirtual 89, 3) := by decide +kernel
theorem d_Mo_question_185 : decode b_Mo_question 185 = .ok (.bipush 34, 2) := by decide +kernel
theorem d_Mo_question_187 : decode b_Mo_question 187 = .ok (.if_icmp .ne 9, 3) := by decide +kernel
theorem d_Mo_question_190 : decode b_Mo_question 190 = .ok (.aload_n 0, 1) := by decide +kernel
theorem d_Mo_question_191 : decode b_Mo_question 191 = .ok (.iload_n 1, 1) := by decide +kernel
theorem d_Mo_question_192 : decode b_Mo_question 192 = .ok (.iconst 1, 1) := by decide +kernel
theorem d_Mo_question_193 : decode b_Mo_question 193 = .ok (.invokevirtual 113, 3) := by decide +kernel
theorem d_Mo_question_196 : decode b_Mo_question 196 = .ok (.aload_n 0, 1) := by decide +kernel
theorem d_Mo_question_197 : decode b_Mo_question 197 = .ok (.bipush 58, 2) := by decide +kernel
theorem d_Mo_question_199 : decode b_Mo_question 199 = .ok (.invokevirtual 103, 3) := by decide +kernel
theorem d_Mo_question_202 : decode b_Mo_question 202 = .ok (.aload_n 0, 1) := by decide +kernel
theorem d_Mo_question_203 : decode b_Mo_question 203 = .ok (.getfield 36, 3) := by decide +kernel
theorem d_Mo_question_206 : decode b_Mo_question 206 = .ok (.iload_n 2, 1) := by decide +kernel
theorem d_Mo_question_207 : decode b_Mo_question 207 = .ok (.iconst 0, 1) := by decide +kernel
theorem d_Mo_question_208 : decode b_Mo_question 208 = .ok (.iastore, 1) := by decide +kernel
theorem d_Mo_question_209 : decode b_Mo_question 209 = .ok (.iconst 1, 1) := by decide +kernel
theorem d_Mo_question_210 : decode b_Mo_question 210 = .ok (.istore 4, 2) := by decide +kernel
theorem d_Mo_question_212 : decode b_Mo_question 212 = .ok (.iload 4, 2) := by decide +kernel
theorem d_Mo_question_214 : decode b_Mo_question 214 = .ok (.ifCond .eq 47, 3) := by decide +kernel
theorem d_Mo_question_217 : decode b_Mo_question 217 = .ok (.aload_n 0, 1) := by decide +kernel
theorem d_Mo_question_218 : decode b_Mo_question 218 = .ok (.getfield 86, 3) := by decide +kernel
theorem d_Mo_question_221 : decode b_Mo_question 221 = .ok (.ifCond .ge 40, 3) := by decide +kernel
theorem d_Mo_question_224 : decode b_Mo_question 224 = .ok (.aload_n 0, 1) := by decide +kernel
theorem d_Mo_question_225 : decode b_Mo_question 225 = .ok (.iload_n 2, 1) := by decide +kernel
theorem d_Mo_question_226 : decode b_Mo_question 226 = .ok (.aload_n 0, 1) := by decide +kernel
theorem d_Mo_question_227 : decode b_Mo_question 227 = .ok (.getfield 36, 3) := by decide +kernel
theorem d_Mo_question_230 : decode b_Mo_question 230 = .ok (.iload_n 2, 1) := by decide +kernel
theorem d_Mo_question_231 : decode b_Mo_question 231 = .ok (.iaload, 1) := by decide +kernel
theorem d_Mo_question_232 : decode b_Mo_question 232 = .ok (.invokevirtual 117, 3) := by decide +kernel
theorem d_Mo_question_235 : decode b_Mo_question 235 = .ok (.istore 4, 2) := by decide +kernel
theorem d_Mo_question_237 : decode b_Mo_question 237 = .ok (.aload_n 0, 1) := by decide +kernel
theorem d_Mo_question_238 : decode b_Mo_question 238 = .ok (.getfield 36, 3) := by decide +kernel
theorem d_Mo_question_241 : decode b_Mo_question 241 = .ok (.iload_n 2, 1) := by decide +kernel
theorem d_Mo_question_242 : decode b_Mo_question 242 = .ok (.dup2, 1) := by decide +kernel
theorem d_Mo_question_243 : decode b_Mo_question 243 = .ok (.iaload, 1) := by decide +kernel
theorem d_Mo_question_244 : decode b_Mo_question 244 = .ok (.iconst 1, 1) := by decide +kernel
theorem d_Mo_question_245 : decode b_Mo_question 245 = .ok (.iadd, 1) := by decide +kernel
theorem d_Mo_question_246 : decode b_Mo_question 246 = .ok (.iastore, 1) := by decide +kernel
theorem d_Mo_question_247 : decode b_Mo_question 247 = .ok (.iload 4, 2) := by decide +kernel
theorem d_Mo_question_249 : decode b_Mo_question 249 = .ok (.ifCond .eq (-37), 3) := by decide +kernel
theorem d_Mo_question_252 : decode b_Mo_question 252 = .ok (.aload_n 0, 1) := by decide +kernel
theorem d_Mo_question_253 : decode b_Mo_question 253 = .ok (.bipush 44, 2) := by decide +kernel
theorem d_Mo_question_255 : decode b_Mo_question 255 = .ok (.invokevirtual 103, 3) := by decide +kernel
theorem d_Mo_question_258 : decode b_Mo_question 258 = .ok (.goto (-46), 3) := by decide +kernel
theorem d_Mo_question_261 : decode b_Mo_question 261 = .ok (.aload_n 0, 1) := by decide +kernel
theorem d_Mo_question_262 : decode b_Mo_question 262 = .ok (.bipush 59, 2) := by decide +kernel
theorem d_Mo_question_264 : decode b_Mo_question 264 = .ok (.invokevirtual 103, 3) := by decide +kernel
theorem d_Mo_question_267 : decode b_Mo_question 267 = .ok (.return_, 1) := by decide +kernel
theorem d_Mo_jump_0 : decode b_Mo_jump 0 = .ok (.iload_n 1, 1) := by decide +kernel
theorem d_Mo_jump_1 : decode b_Mo_jump 1 = .ok (.bipush 6, 2) := by decide +kernel
theorem d_Mo_jump_3 : decode b_Mo_jump 3 = .ok (.imul, 1) := by decide +kernel
theorem d_Mo_jump_4 : decode b_Mo_jump 4 = .ok (.iload_n 2, 1) := by decide +kernel
theorem d_Mo_jump_5 : decode b_Mo_jump 5 = .ok (.iadd, 1) := by decide +kernel
theorem d_Mo_jump_6 : decode b_Mo_jump 6 = .ok (.iconst 4, 1) := by decide +kernel
theorem d_Mo_jump_7 : decode b_Mo_jump 7 = .ok (.imul, 1) := by decide +kernel
theorem d_Mo_jump_8 : decode b_Mo_jump 8 = .ok (.istore_n 3, 1) := by decide +kernel
theorem d_Mo_jump_9 : decode b_Mo_jump 9 = .ok (.aload_n 0, 1) := by decide +kernel
theorem d_Mo_jump_10 : decode b_Mo_jump 10 = .ok (.invokevirtual 89, 3) := by decide +kernel
theorem d_Mo_jump_13 : decode b_Mo_jump 13 = .ok (.pop, 1) := by decide +kernel
theorem d_Mo_jump_14 : decode b_Mo_jump 14 = .ok (.aload_n 0, 1) := by decide +kernel
theorem d_Mo_jump_15 : decode b_Mo_jump 15 = .ok (.invokevirtual 96, 3) := by decide +kernel
theorem d_Mo_jump_18 : decode b_Mo_jump 18 = .ok (.ifCond .eq 12, 3) := by decide +kernel
theorem d_Mo_jump_21 : decode b_Mo_jump 21 = .ok (.iload_n 2, 1) := by decide +kernel
theorem d_Mo_jump_22 : decode b_Mo_jump 22 = .ok (.iconst 5, 1) := by decide +kernel
theorem d_Mo_jump_23 : decode b_Mo_jump 23 = .ok (.if_icmp .ge 7, 3) := by decide +kernel
theorem d_Mo_jump_26 : decode b_Mo_jump 26 = .ok (.iconst 1, 1) := by decide +kernel
theorem d_Mo_jump_27 : decode b_Mo_jump 27 = .ok (.goto 4, 3) := by decide +kernel
theorem d_Mo_jump_30 : decode b_Mo_jump 30 = .ok (.iconst 0, 1) := by decide +kernel
theorem d_Mo_jump_31 : decode b_Mo_jump 31 = .ok (.istore 4, 2) := by decide +kernel
theorem d_Mo_jump_33 : decode b_Mo_jump 33 = .ok (.aload_n 0, 1) := by decide +kernel
theorem d_Mo_jump_34 : decode b_Mo_jump 34 = .ok (.getfield 39, 3) := by decide +kernel
theorem d_Mo_jump_37 : decode b_Mo_jump 37 = .ok (.iload_n 3, 1) := by decide +kernel
theorem d_Mo_jump_38 : decode b_Mo_jump 38 = .ok (.iconst (-1), 1) := by decide +kernel
theorem d_Mo_jump_39 : decode b_Mo_jump 39 = .ok (.iastore, 1) := by decide +kernel
theorem d_Mo_jump_40 : decode b_Mo_jump 40 = .ok (.iload 4, 2) := by decide +kernel
theorem d_Mo_jump_42 : decode b_Mo_jump 42 = .ok (.ifCond .eq 44, 3) := by decide +kernel
theorem d_Mo_jump_45 : decode b_Mo_jump 45 = .ok (.aload_n 0, 1) := by decide +kernel
theorem d_Mo_jump_46 : decode b_Mo_jump 46 = .ok (.getfield 39, 3) := by decide +kernel
theorem d_Mo_jump_49 : decode b_Mo_jump 49 = .ok (.iload_n 3, 1) := by decide +kernel
theorem d_Mo_jump_50 : decode b_Mo_jump 50 = .ok (.aload_n 0, 1) := by decide +kernel
theorem d_Mo_jump_51 : decode b_Mo_jump 51 = .ok (.iconst 0, 1) := by decide +kernel
theorem d_Mo_jump_52 : decode b_Mo_jump 52 = .ok (.sipush 9999, 3) := by decide +kernel
theorem d_Mo_jump_55 : decode b_Mo_jump 55 = .ok (.invokevirtual 109, 3) := by decide +kernel
theorem d_Mo_jump_58 : decode b_Mo_jump 58 = .ok (.iastore, 1) := by decide +kernel
theorem d_Mo_jump_59 : decode b_Mo_jump 59 = .ok (.aload_n 0, 1) := by decide +kernel
theorem d_Mo_jump_60 : decode b_Mo_jump 60 = .ok (.bipush 45, 2) := by decide +kernel
theorem d_Mo_jump_62 : decode b_Mo_jump 62 = .ok (.invokevirtual 103, 3) := by decide +kernel
theorem d_Mo_jump_65 : decode b_Mo_jump 65 = .ok (.aload_n 0, 1) := by decide +kernel
theorem d_Mo_jump_66 : decode b_Mo_jump 66 = .ok (.getfield 39, 3) := by decide +kernel
theorem d_Mo_jump_69 : decode b_Mo_jump 69 = .ok (.iload_n 3, 1) := by decide +kernel
theorem d_Mo_jump_70 : decode b_Mo_jump 70 = .ok (.iconst 1, 1) := by decide +kernel
theorem d_Mo_jump_71 : decode b_Mo_jump 71 = .ok (.iadd, 1) := by decide +kernel
theorem d_Mo_jump_72 : decode b_Mo_jump 72 = .ok (.aload_n 0, 1) := by decide +kernel
theorem d_Mo_jump_73 : decode b_Mo_jump 73 = .ok (.aload_n 0, 1) := by decide +kernel
theorem d_Mo_jump_74 : decode b_Mo_jump 74 = .ok (.getfield 39, 3) := by decide +kernel
theorem d_Mo_jump_77 : decode b_Mo_jump 77 = .ok (.iload_n 3, 1) := by decide +kernel
theorem d_Mo_jump_78 : decode b_Mo_jump 78 = .ok (.iaload, 1) := by decide +kernel
theorem d_Mo_jump_79 : decode b_Mo_jump 79 = .ok (.sipush 9999, 3) := by decide +kernel
theorem d_Mo_jump_82 : decode b_Mo_jump 82 = .ok (.invokevirtual 109, 3) := by decide +kernel
theorem d_Mo_jump_85 : decode b_Mo_jump 85 = .ok (.iastore, 1) := by decide +kernel
theorem d_Mo_jump_86 : decode b_Mo_jump 86 = .ok (.aload_n 0, 1) := by decide +kernel
theorem d_Mo_jump_87 : decode b_Mo_jump 87 = .ok (.bipush 62, 2) := by decide +kernel
theorem d_Mo_jump_89 : decode b_Mo_jump 89 = .ok (.invokevirtual 103, 3) := by decide +kernel
theorem d_Mo_jump_92 : decode b_Mo_jump 92 = .ok (.aload_n 0, 1) := by decide +kernel
theorem d_Mo_jump_93 : decode b_Mo_jump 93 = .ok (.getfield 39, 3) := by decide +kernel
theorem d_Mo_jump_96 : decode b_Mo_jump 96 = .ok (.iload_n 3, 1) := by decide +kernel
theorem d_Mo_jump_97 : decode b_Mo_jump 97 = .ok (.iconst 2, 1) := by decide +kernel
theorem d_Mo_jump_98 : decode b_Mo_jump 98 = .ok (.iadd, 1) := by decide +kernel
theorem d_Mo_jump_99 : decode b_Mo_jump 99 = .ok (.aload_n 0, 1) := by decide +kernel
theorem d_Mo_jump_100 : decode b_Mo_jump 100 = .ok (.iconst 0, 1) := by decide +kernel
theorem d_Mo_jump_101 : decode b_Mo_jump 101 = .ok (.bipush 60, 2) := by decide +kernel
theorem d_Mo_jump_103 : decode b_Mo_jump 103 = .ok (.invokevirtual 109, 3) := by decide +kernel
theorem d_Mo_jump_106 : decode b_Mo_jump 106 = .ok (.iastore, 1) := by decide +kernel
theorem d_Mo_jump_107 : decode b_Mo_jump 107 = .ok (.aload_n 0, 1) := by decide +kernel
theorem d_Mo_jump_108 : decode b_Mo_jump 108 = .ok (.getfield 39, 3) := by decide +kernel
theorem d_Mo_jump_111 : decode b_Mo_jump 111 = .ok (.iload_n 3, 1) := by decide +kernel
theorem d_Mo_jump_112 : decode b_Mo_jump 112 = .ok (.iconst 3, 1) := by decide +kernel
theorem d_Mo_jump_113 : decode b_Mo_jump 113 = .ok (.iadd, 1) := by decide +kernel
theorem d_Mo_jump_114 : decode b_Mo_jump 114 = .ok (.iconst 0, 1) := by decide +kernel
theorem d_Mo_jump_115 : decode b_Mo_jump 115 = .ok (.iastore, 1) := by decide +kernel
theorem d_Mo_jump_116 : decode b_Mo_jump 116 = .ok (.aload_n 0, 1) := by decide +kernel
theorem d_Mo_jump_117 : decode b_Mo_jump 117 = .ok (.getfield 86, 3) := by decide +kernel
theorem d_Mo_jump_120 : decode b_Mo_jump 120 = .ok (.ifCond .ge 38, 3) := by decide +kernel
theorem d_Mo_jump_123 : decode b_Mo_jump 123 = .ok (.aload_n 0, 1) := by decide +kernel
theorem d_Mo_jump_124 : decode b_Mo_jump 124 = .ok (.invokevirtual 89, 3) := by decide +kernel
theorem d_Mo_jump_127 : decode b_Mo_jump 127 = .ok (.bipush 43, 2) := by decide +kernel
theorem d_Mo_jump_129 : decode b_Mo_jump 129 = .ok (.if_icmp .ne 29, 3) := by decide +kernel
theorem d_Mo_jump_132 : decode b_Mo_jump 132 = .ok (.aload_n 0, 1) := by decide +kernel
theorem d_Mo_jump_133 : decode b_Mo_jump 133 = .ok (.dup, 1) := by decide +kernel
theorem d_Mo_jump_134 : decode b_Mo_jump 134 = .ok (.getfield 79, 3) := by decide +kernel
theorem d_Mo_jump_137 : decode b_Mo_jump 137 = .ok (.iconst 1, 1) := by decide +kernel
theorem d_Mo_jump_138 : decode b_Mo_jump 138 = .ok (.iadd, 1) := by decide +kernel
theorem d_Mo_jump_139 : decode b_Mo_jump 139 = .ok (.putfield 79, 3) := by decide +kernel
theorem d_Mo_jump_142 : decode b_Mo_jump 142 = .ok (.aload_n 0, 1) := by decide +kernel
theorem d_Mo_jump_143 : decode b_Mo_jump 143 = .ok (.getfield 39, 3) := by decide +kernel
theorem d_Mo_jump_146 : decode b_Mo_jump 146 = .ok (.iload_n 3, 1) := by decide +kernel
theorem d_Mo_jump_147 : decode b_Mo_jump 147 = .ok (.iconst 3, 1) := by decide +kernel
theorem d_Mo_jump_148 : decode b_Mo_jump 148 = .ok (.iadd, 1) := by decide +kernel
theorem d_Mo_jump_149 : decode b_Mo_jump 149 = .ok (.aload_n 0, 1) := by decide +kernel
theorem d_Mo_jump_150 : decode b_Mo_jump 150 = .ok (.iconst 0, 1) := by decide +kernel
theorem d_Mo_jump_151 : decode b_Mo_jump 151 = .ok (.sipush 999, 3) := by decide +kernel
theorem d_Mo_jump_154 : decode b_Mo_jump 154 = .ok (.invokevirtual 109, 3) := by decide +kernel
theorem d_Mo_jump_157 : decode b_Mo_jump 157 = .ok (.iastore, 1) := by decide +kernel
theorem d_Mo_jump_158 : decode b_Mo_jump 158 = .ok (.iload 4, 2) := by decide +kernel
theorem d_Mo_jump_160 : decode b_Mo_jump 160 = .ok (.ireturn, 1) := by decide +kernel
theorem d_Mo_kindRow_0 : decode b_Mo_kindRow 0 = .ok (.aload_n 0, 1) := by decide +kernel
theorem d_Mo_kindRow_1 : decode b_Mo_kindRow 1 = .ok (.iconst 1, 1) := by decide +kernel
theorem d_Mo_kindRow_2 : decode b_Mo_kindRow 2 = .ok (.bipush 9, 2) := by decide +kernel
theorem d_Mo_kindRow_4 : decode b_Mo_kindRow 4 = .ok (.invokevirtual 109, 3) := by decide +kernel
theorem d_Mo_kindRow_7 : decode b_Mo_kindRow 7 = .ok (.istore_n 1, 1) := by decide +kernel
theorem d_Mo_kindRow_8 : decode b_Mo_kindRow 8 = .ok (.aload_n 0, 1) := by decide +kernel
theorem d_Mo_kindRow_9 : decode b_Mo_kindRow 9 = .ok (.getfield 86, 3) := by decide +kernel
theorem d_Mo_kindRow_12 : decode b_Mo_kindRow 12 = .ok (.ifCond .ge 22, 3) := by decide +kernel
theorem d_Mo_kindRow_15 : decode b_Mo_kindRow 15 = .ok (.aload_n 0, 1) := by decide +kernel
theorem d_Mo_kindRow_16 : decode b_Mo_kindRow 16 = .ok (.getfield 57, 3) := by decide +kernel
theorem d_Mo_kindRow_19 : decode b_Mo_kindRow 19 = .ok (.iload_n 1, 1) := by decide +kernel
theorem d_Mo_kindRow_20 : decode b_Mo_kindRow 20 = .ok (.baload, 1) := by decide +kernel
theorem d_Mo_kindRow_21 : decode b_Mo_kindRow 21 = .ok (.ifCond .eq 13, 3) := by decide +kernel
theorem d_Mo_kindRow_24 : decode b_Mo_kindRow 24 = .ok (.aload_n 0, 1) := by decide +kernel
theorem d_Mo_kindRow_25 : decode b_Mo_kindRow 25 = .ok (.aload_n 0, 1) := by decide +kernel
theorem d_Mo_kindRow_26 : decode b_Mo_kindRow 26 = .ok (.getfield 79, 3) := by decide +kernel
theorem d_Mo_kindRow_29 : decode b_Mo_kindRow 29 = .ok (.iconst 1, 1) := by decide +kernel
theorem d_Mo_kindRow_30 : decode b_Mo_kindRow 30 = .ok (.isub, 1) := by decide +kernel
theorem d_Mo_kindRow_31 : decode b_Mo_kindRow 31 = .ok (.invokevirtual 92, 3) := by decide +kernel
theorem d_Mo_kindRow_34 : decode b_Mo_kindRow 34 = .ok (.aload_n 0, 1) := by decide +kernel
theorem d_Mo_kindRow_35 : decode b_Mo_kindRow 35 = .ok (.getfield 86, 3) := by decide +kernel
theorem d_Mo_kindRow_38 : decode b_Mo_kindRow 38 = .ok (.ifCond .lt 4, 3) := by decide +kernel
theorem d_Mo_kindRow_41 : decode b_Mo_kindRow 41 = .ok (.return_, 1) := by decide +kernel
theorem d_Mo_kindRow_42 : decode b_Mo_kindRow 42 = .ok (.aload_n 0, 1) := by decide +kernel
theorem d_Mo_kindRow_43 : decode b_Mo_kindRow 43 = .ok (.getfield 57, 3) := by decide +kernel
theorem d_Mo_kindRow_46 : decode b_Mo_kindRow 46 = .ok (.iload_n 1, 1) := by decide +kernel
theorem d_Mo_kindRow_47 : decode b_Mo_kindRow 47 = .ok (.iconst 1, 1) := by decide +kernel
theorem d_Mo_kindRow_48 : decode b_Mo_kindRow 48 = .ok (.bastore, 1) := by decide +kernel
theorem d_Mo_kindRow_49 : decode b_Mo_kindRow 49 = .ok (.aload_n 0, 1) := by decide +kernel
theorem d_Mo_kindRow_50 : decode b_Mo_kindRow 50 = .ok (.getfield 106, 3) := by decide +kernel
theorem d_Mo_kindRow_53 : decode b_Mo_kindRow 53 = .ok (.bipush 10, 2) := by decide +kernel
theorem d_Mo_kindRow_55 : decode b_Mo_kindRow 55 = .ok (.imul, 1) := by decide +kernel
theorem d_Mo_kindRow_56 : decode b_Mo_kindRow 56 = .ok (.iload_n 1, 1) := by decide +kernel
theorem d_Mo_kindRow_57 : decode b_Mo_kindRow 57 = .ok (.iadd, 1) := by decide +kernel
theorem d_Mo_kindRow_58 : decode b_Mo_kindRow 58 = .ok (.istore_n 2, 1) := by decide +kernel
theorem d_Mo_kindRow_59 : decode b_Mo_kindRow 59 = .ok (.aload_n 0, 1) := by decide +kernel
theorem d_Mo_kindRow_60 : decode b_Mo_kindRow 60 = .ok (.bipush 61, 2) := by decide +kernel
theorem d_Mo_kindRow_62 : decode b_Mo_kindRow 62 = .ok (.invokevirtual 103, 3) := by decide +kernel
theorem d_Mo_kindRow_65 : decode b_Mo_kindRow 65 = .ok (.aload_n 0, 1) := by decide +kernel
theorem d_Mo_kindRow_66 : decode b_Mo_kindRow 66 = .ok (.getfield 42, 3) := by decide +kernel
theorem d_Mo_kindRow_69 : decode b_Mo_kindRow 69 = .ok (.iload_n 2, 1) := by decide +kernel
theorem d_Mo_kindRow_70 : decode b_Mo_kindRow 70 = .ok (.aload_n 0, 1) := by decide +kernel
theorem d_Mo_kindRow_71 : decode b_Mo_kindRow 71 = .ok (.iconst 1, 1) := by decide +kernel
theorem d_Mo_kindRow_72 : decode b_Mo_kindRow 72 = .ok (.bipush 60, 2) := by decide +kernel
theorem d_Mo_kindRow_74 : decode b_Mo_kindRow 74 = .ok (.invokevirtual 109, 3) := by decide +kernel
theorem d_Mo_kindRow_77 : decode b_Mo_kindRow 77 = .ok (.iastore, 1) := by decide +kernel
theorem d_Mo_kindRow_78 : decode b_Mo_kindRow 78 = .ok (.aload_n 0, 1) := by decide +kernel
theorem d_Mo_kindRow_79 : decode b_Mo_kindRow 79 = .ok (.bipush 58, 2) := by decide +kernel
theorem d_Mo_kindRow_81 : decode b_Mo_kindRow 81 = .ok (.invokevirtual 103, 3) := by decide +kernel
theorem d_Mo_kindRow_84 : decode b_Mo_kindRow 84 = .ok (.aload_n 0, 1) := by decide +kernel
theorem d_Mo_kindRow_85 : decode b_Mo_kindRow 85 = .ok (.getfield 45, 3) := by decide +kernel
theorem d_Mo_kindRow_88 : decode b_Mo_kindRow 88 = .ok (.iload_n 2, 1) := by decide +kernel
theorem d_Mo_kindRow_89 : decode b_Mo_kindRow 89 = .ok (.aload_n 0, 1) := by decide +kernel
theorem d_Mo_kindRow_90 : decode b_Mo_kindRow 90 = .ok (.iconst 0, 1) := by decide +kernel
theorem d_Mo_kindRow_91 : decode b_Mo_kindRow 91 = .ok (.bipush 9, 2) := by decide +kernel
theorem d_Mo_kindRow_93 : decode b_Mo_kindRow 93 = .ok (.invokevirtual 109, 3) := by decide +kernel
theorem d_Mo_kindRow_96 : decode b_Mo_kindRow 96 = .ok (.iastore, 1) := by decide +kernel
theorem d_Mo_kindRow_97 : decode b_Mo_kindRow 97 = .ok (.aload_n 0, 1) := by decide +kernel
theorem d_Mo_kindRow_98 : decode b_Mo_kindRow 98 = .ok (.getfield 48, 3) := by decide +kernel
theorem d_Mo_kindRow_101 : decode b_Mo_kindRow 101 = .ok (.iload_n 2, 1) := by decide +kernel
theorem d_Mo_kindRow_102 : decode b_Mo_kindRow 102 = .ok (.iconst 0, 1) := by decide +kernel
theorem d_Mo_kindRow_103 : decode b_Mo_kindRow 103 = .ok (.iastore, 1) := by decide +kernel
theorem d_Mo_kindRow_104 : decode b_Mo_kindRow 104 = .ok (.aload_n 0, 1) := by decide +kernel
theorem d_Mo_kindRow_105 : decode b_Mo_kindRow 105 = .ok (.getfield 86, 3) := by decide +kernel
theorem d_Mo_kindRow_108 : decode b_Mo_kindRow 108 = .ok (.ifCond .ge 64, 3) := by decide +kernel
theorem d_Mo_kindRow_111 : decode b_Mo_kindRow 111 = .ok (.aload_n 0, 1) := by decide +kernel
theorem d_Mo_kindRow_112 : decode b_Mo_kindRow 112 = .ok (.getfield 48, 3) := by decide +kernel
theorem d_Mo_kindRow_115 : decode b_Mo_kindRow 115 = .ok (.iload_n 2, 1) := by decide +kernel
theorem d_Mo_kindRow_116 : decode b_Mo_kindRow 116 = .ok (.iaload, 1) := by decide +kernel
theorem d_Mo_kindRow_117 : decode b_Mo_kindRow 117 = .ok (.bipush 6, 2) := by decide +kernel
theorem d_Mo_kindRow_119 : decode b_Mo_kindRow 119 = .ok (.if_icmp .ge 53, 3) := by decide +kernel
theorem d_Mo_kindRow_122 : decode b_Mo_kindRow 122 = .ok (.aload_n 0, 1) := by decide +kernel
theorem d_Mo_kindRow_123 : decode b_Mo_kindRow 123 = .ok (.invokevirtual 89, 3) := by decide +kernel
theorem d_Mo_kindRow_126 : decode b_Mo_kindRow 126 = .ok (.bipush 40, 2) := by decide +kernel
theorem d_Mo_kindRow_128 : decode b_Mo_kindRow 128 = .ok (.if_icmp .ne 44, 3) := by decide +kernel
theorem d_Mo_kindRow_131 : decode b_Mo_kindRow 131 = .ok (.aload_n 0, 1) := by decide +kernel
theorem d_Mo_kindRow_132 : decode b_Mo_kindRow 132 = .ok (.dup, 1) := by decide +kernel
theorem d_Mo_kindRow_133 : decode b_Mo_kindRow 133 = .ok (.getfield 79, 3) := by decide +kernel
theorem d_Mo_kindRow_136 : decode b_Mo_kindRow 136 = .ok (.iconst 1, 1) := by decide +kernel
theorem d_Mo_kindRow_137 : decode b_Mo_kindRow 137 = .ok (.iadd, 1) := by decide +kernel
theorem d_Mo_kindRow_138 : decode b_Mo_kindRow 138 = .ok (.putfield 79, 3) := by decide +kernel
theorem d_Mo_kindRow_141 : decode b_Mo_kindRow 141 = .ok (.aload_n 0, 1) := by decide +kernel
theorem d_Mo_kindRow_142 : decode b_Mo_kindRow 142 = .ok (.iload_n 2, 1) := by decide +kernel
theorem d_Mo_kindRow_143 : decode b_Mo_kindRow 143 = .ok (.bipush 6, 2) := by decide +kernel
theorem d_Mo_kindRow_145 : decode b_Mo_kindRow 145 = .ok (.imul, 1) := by decide +kernel
theorem d_Mo_kindRow_146 : decode b_Mo_kindRow 146 = .ok (.aload_n 0, 1) := by decide +kernel
theorem d_Mo_kindRow_147 : decode b_Mo_kindRow 147 = .ok (.getfield 48, 3) := by decide +kernel
theorem d_Mo_kindRow_150 : decode b_Mo_kindRow 150 = .ok (.iload_n 2, 1) := by decide +kernel
theorem d_Mo_kindRow_151 : decode b_Mo_kindRow 151 = .ok (.iaload, 1) := by decide +kernel
theorem d_Mo_kindRow_152 : decode b_Mo_kindRow 152 = .ok (.iadd, 1) := by decide +kernel
theorem d_Mo_kindRow_153 : decode b_Mo_kindRow 153 = .ok (.bipush 14, 2) := by decide +kernel
theorem d_Mo_kindRow_155 : decode b_Mo_kindRow 155 = .ok (.imul, 1) := by decide +kernel
theorem d_Mo_kindRow_156 : decode b_Mo_kindRow 156 = .ok (.invokevirtual 120, 3) := by decide +kernel
theorem d_Mo_kindRow_159 : decode b_Mo_kindRow 159 = .ok (.aload_n 0, 1) := by decide +kernel
theorem d_Mo_kindRow_160 : decode b_Mo_kindRow 160 = .ok (.getfield 48, 3) := by decide +kernel
theorem d_Mo_kindRow_163 : decode b_Mo_kindRow 163 = .ok (.iload_n 2, 1) := by decide +kernel
theorem d_Mo_kindRow_164 : decode b_Mo_kindRow 164 = .ok (.dup2, 1) := by decide +kernel
theorem d_Mo_kindRow_165 : decode b_Mo_kindRow 165 = .ok (.iaload, 1) := by decide +kernel
theorem d_Mo_kindRow_166 : decode b_Mo_kindRow 166 = .ok (.iconst 1, 1) := by decide +kernel
theorem d_Mo_kindRow_167 : decode b_Mo_kindRow 167 = .ok (.iadd, 1) := by decide +kernel
theorem d_Mo_kindRow_168 : decode b_Mo_kindRow 168 = .ok (.iastore, 1) := by decide +kernel
theorem d_Mo_kindRow_169 : decode b_Mo_kindRow 169 = .ok (.goto (-65), 3) := by decide +kernel
theorem d_Mo_kindRow_172 : decode b_Mo_kindRow 172 = .ok (.aload_n 0, 1) := by decide +kernel
theorem d_Mo_kindRow_173 : decode b_Mo_kindRow 173 = .ok (.bipush 59, 2) := by decide +kernel
theorem d_Mo_kindRow_175 : decode b_Mo_kindRow 175 = .ok (.invokevirtual 103, 3) := by decide +kernel
theorem d_Mo_kindRow_178 : decode b_Mo_kindRow 178 = .ok (.return_, 1) := by decide +kernel
theorem d_Mo_conditionRow_0 : decode b_Mo_conditionRow 0 = .ok (.iconst 0, 1) := by decide +kernel
theorem d_Mo_conditionRow_1 : decode b_Mo_conditionRow 1 = .ok (.istore_n 2, 1) := by decide +kernel
theorem d_Mo_conditionRow_2 : decode b_Mo_conditionRow 2 = .ok (.iconst 1, 1) := by decide +kernel
theorem d_Mo_conditionRow_3 : decode b_Mo_conditionRow 3 = .ok (.istore_n 3, 1) := by decide +kernel
theorem d_Mo_conditionRow_4 : decode b_Mo_conditionRow 4 = .ok (.iload_n 3, 1) := by decide +kernel
theorem d_Mo_conditionRow_5 : decode b_Mo_conditionRow 5 = .ok (.ifCond .eq 68, 3) := by decide +kernel
theorem d_Mo_conditionRow_8 : decode b_Mo_conditionRow 8 = .ok (.aload_n 0, 1) := by decide +kernel
theorem d_Mo_conditionRow_9 : decode b_Mo_conditionRow 9 = .ok (.getfield 86, 3) := by decide +kernel
theorem d_Mo_conditionRow_12 : decode b_Mo_conditionRow 12 = .ok (.ifCond .ge 61, 3) := by decide +kernel
theorem d_Mo_conditionRow_15 : decode b_Mo_conditionRow 15 = .ok (.aload_n 0, 1) := by decide +kernel
theorem d_Mo_conditionRow_16 : decode b_Mo_conditionRow 16 = .ok (.iload_n 1, 1) := by decide +kernel
theorem d_Mo_conditionRow_17 : decode b_Mo_conditionRow 17 = .ok (.iconst 2, 1) := by decide +kernel
theorem d_Mo_conditionRow_18 : decode b_Mo_conditionRow 18 = .ok (.iadd, 1) := by decide +kernel
theorem d_Mo_conditionRow_19 : decode b_Mo_conditionRow 19 = .ok (.iconst 3, 1) := by decide +kernel
theorem d_Mo_conditionRow_20 : decode b_Mo_conditionRow 20 = .ok (.iload_n 2, 1) := by decide +kernel
theorem d_Mo_conditionRow_21 : decode b_Mo_conditionRow 21 = .ok (.imul, 1) := by decide +kernel
theorem d_Mo_conditionRow_22 : decode b_Mo_conditionRow 22 = .ok (.iadd, 1) := by decide +kernel
theorem d_Mo_conditionRow_23 : decode b_Mo_conditionRow 23 = .ok (.invokevirtual 123, 3) := by decide +kernel
theorem d_Mo_conditionRow_26 : decode b_Mo_conditionRow 26 = .ok (.iinc 2 1, 3) := by decide +kernel
theorem d_Mo_conditionRow_29 : decode b_Mo_conditionRow 29 = .ok (.aload_n 0, 1) := by decide +kernel
theorem d_Mo_conditionRow_30 : decode b_Mo_conditionRow 30 = .ok (.getfield 86, 3) := by decide +kernel
theorem d_Mo_conditionRow_33 : decode b_Mo_conditionRow 33 = .ok (.ifCond .ge 21, 3) := by decide +kernel
theorem d_Mo_conditionRow_36 : decode b_Mo_conditionRow 36 = .ok (.iload_n 2, 1) := by decide +kernel
theorem d_Mo_conditionRow_37 : decode b_Mo_conditionRow 37 = .ok (.iconst 4, 1) := by decide +kernel
theorem d_Mo_conditionRow_38 : decode b_Mo_conditionRow 38 = .ok (.if_icmp .ge 16, 3) := by decide +kernel
theorem d_Mo_conditionRow_41 : decode b_Mo_conditionRow 41 = .ok (.aload_n 0, 1) := by decide +kernel
theorem d_Mo_conditionRow_42 : decode b_Mo_conditionRow 42 = .ok (.invokevirtual 89, 3) := by decide +kernel
theorem d_Mo_conditionRow_45 : decode b_Mo_conditionRow 45 = .ok (.bipush 38, 2) := by decide +kernel
theorem d_Mo_conditionRow_47 : decode b_Mo_conditionRow 47 = .ok (.if_icmp .ne 7, 3) := by decide +kernel
theorem d_Mo_conditionRow_50 : decode b_Mo_conditionRow 50 = .ok (.iconst 1, 1) := by decide +kernel
theorem d_Mo_conditionRow_51 : decode b_Mo_conditionRow 51 = .ok (.goto 4, 3) := by decide +kernel
theorem d_Mo_conditionRow_54 : decode b_Mo_conditionRow 54 = .ok (.iconst 0, 1) := by decide +kernel
theorem d_Mo_conditionRow_55 : decode b_Mo_conditionRow 55 = .ok (.istore_n 3, 1) := by decide +kernel
theorem d_Mo_conditionRow_56 : decode b_Mo_conditionRow 56 = .ok (.iload_n 3, 1) := by decide +kernel
theorem d_Mo_conditionRow_57 : decode b_Mo_conditionRow 57 = .ok (.ifCond .eq (-53), 3) := by decide +kernel
theorem d_Mo_conditionRow_60 : decode b_Mo_conditionRow 60 = .ok (.aload_n 0, 1) := by decide +kernel
theorem d_Mo_conditionRow_61 : decode b_Mo_conditionRow 61 = .ok (.dup, 1) := by decide +kernel
theorem d_Mo_conditionRow_62 : decode b_Mo_conditionRow 62 = .ok (.getfield 79, 3) := by decide +kernel
theorem d_Mo_conditionRow_65 : decode b_Mo_conditionRow 65 = .ok (.iconst 1, 1) := by decide +kernel
theorem d_Mo_conditionRow_66 : decode b_Mo_conditionRow 66 = .ok (.iadd, 1) := by decide +kernel
theorem d_Mo_conditionRow_67 : decode b_Mo_conditionRow 67 = .ok (.putfield 79, 3) := by decide +kernel
theorem d_Mo_conditionRow_70 : decode b_Mo_conditionRow 70 = .ok (.goto (-66), 3) := by decide +kernel
theorem d_Mo_conditionRow_73 : decode b_Mo_conditionRow 73 = .ok (.aload_n 0, 1) := by decide +kernel
theorem d_Mo_conditionRow_74 : decode b_Mo_conditionRow 74 = .ok (.getfield 51, 3) := by decide +kernel
theorem d_Mo_conditionRow_77 : decode b_Mo_conditionRow 77 = .ok (.iload_n 1, 1) := by decide +kernel
theorem d_Mo_conditionRow_78 : decode b_Mo_conditionRow 78 = .ok (.iconst 1, 1) := by decide +kernel
theorem d_Mo_conditionRow_79 : decode b_Mo_conditionRow 79 = .ok (.iadd, 1) := by decide +kernel
theorem d_Mo_conditionRow_80 : decode b_Mo_conditionRow 80 = .ok (.iload_n 2, 1) := by decide +kernel
theorem d_Mo_conditionRow_81 : decode b_Mo_conditionRow 81 = .ok (.iastore, 1) := by decide +kernel
theorem d_Mo_conditionRow_82 : decode b_Mo_conditionRow 82 = .ok (.aload_n 0, 1) := by decide +kernel
theorem d_Mo_conditionRow_83 : decode b_Mo_conditionRow 83 = .ok (.bipush 58, 2) := by decide +kernel
theorem d_Mo_conditionRow_85 : decode b_Mo_conditionRow 85 = .ok (.invokevirtual 103, 3) := by decide +kernel
theorem d_Mo_conditionRow_88 : decode b_Mo_conditionRow 88 = .ok (.aload_n 0, 1) := by decide +kernel
theorem d_Mo_conditionRow_89 : decode b_Mo_conditionRow 89 = .ok (.getfield 51, 3) := by decide +kernel
theorem d_Mo_conditionRow_92 : decode b_Mo_conditionRow 92 = .ok (.iload_n 1, 1) := by decide +kernel
theorem d_Mo_conditionRow_93 : decode b_Mo_conditionRow 93 = .ok (.aload_n 0, 1) := by decide +kernel
theorem d_Mo_conditionRow_94 : decode b_Mo_conditionRow 94 = .ok (.iconst 0, 1) := by decide +kernel
theorem d_Mo_conditionRow_95 : decode b_Mo_conditionRow 95 = .ok (.bipush 9, 2) := by decide +kernel
theorem d_Mo_conditionRow_97 : decode b_Mo_conditionRow 97 = .ok (.invokevirtual 109, 3) := by decide +kernel
theorem d_Mo_conditionRow_100 : decode b_Mo_conditionRow 100 = .ok (.iastore, 1) := by decide +kernel
theorem d_Mo_conditionRow_101 : decode b_Mo_conditionRow 101 = .ok (.aload_n 0, 1) := by decide +kernel
theorem d_Mo_conditionRow_102 : decode b_Mo_conditionRow 102 = .ok (.bipush 41, 2) := by decide +kernel
theorem d_Mo_conditionRow_104 : decode b_Mo_conditionRow 104 = .ok (.invokevirtual 103, 3) := by decide +kernel
theorem d_Mo_conditionRow_107 : decode b_Mo_conditionRow 107 = .ok (.return_, 1) := by decide +kernel
theorem d_Mo_term_0 : decode b_Mo_term 0 = .ok (.aload_n 0, 1) := by decide +kernel
theorem d_Mo_term_1 : decode b_Mo_term 1 = .ok (.invokevirtual 89, 3) := by decide +kernel
theorem d_Mo_term_4 : decode b_Mo_term 4 = .ok (.istore_n 2, 1) := by decide +kernel
theorem d_Mo_term_5 : decode b_Mo_term 5 = .ok (.iload_n 2, 1) := by decide +kernel
theorem d_Mo_term_6 : decode b_Mo_term 6 = .ok (.bipush 113, 2) := by decide +kernel
theorem d_Mo_term_8 : decode b_Mo_term 8 = .ok (.if_icmp .eq 17, 3) := by decide +kernel
theorem d_Mo_term_11 : decode b_Mo_term 11 = .ok (.iload_n 2, 1) := by decide +kernel
theorem d_Mo_term_12 : decode b_Mo_term 12 = .ok (.bipush 112, 2) := by decide +kernel
theorem d_Mo_term_14 : decode b_Mo_term 14 = .ok (.if_icmp .eq 11, 3) := by decide +kernel
theorem d_Mo_term_17 : decode b_Mo_term 17 = .ok (.aload_n 0, 1) := by decide +kernel
theorem d_Mo_term_18 : decode b_Mo_term 18 = .ok (.aload_n 0, 1) := by decide +kernel
theorem d_Mo_term_19 : decode b_Mo_term 19 = .ok (.getfield 79, 3) := by decide +kernel
theorem d_Mo_term_22 : decode b_Mo_term 22 = .ok (.invokevirtual 92, 3) := by decide +kernel
theorem d_Mo_term_25 : decode b_Mo_term 25 = .ok (.aload_n 0, 1) := by decide +kernel
theorem d_Mo_term_26 : decode b_Mo_term 26 = .ok (.getfield 86, 3) := by decide +kernel
theorem d_Mo_term_29 : decode b_Mo_term 29 = .ok (.ifCond .lt 4, 3) := by decide +kernel
theorem d_Mo_term_32 : decode b_Mo_term 32 = .ok (.return_, 1) := by decide +kernel
theorem d_Mo_term_33 : decode b_Mo_term 33 = .ok (.aload_n 0, 1) := by decide +kernel
theorem d_Mo_term_34 : decode b_Mo_term 34 = .ok (.dup, 1) := by decide +kernel
theorem d_Mo_term_35 : decode b_Mo_term 35 = .ok (.getfield 79, 3) := by decide +kernel
theorem d_Mo_term_38 : decode b_Mo_term 38 = .ok (.iconst 1, 1) := by decide +kernel
theorem d_Mo_term_39 : decode b_Mo_term 39 = .ok (.iadd, 1) := by decide +kernel
theorem d_Mo_term_40 : decode b_Mo_term 40 = .ok (.putfield 79, 3) := by decide +kernel
theorem d_Mo_term_43 : decode b_Mo_term 43 = .ok (.aload_n 0, 1) := by decide +kernel
theorem d_Mo_term_44 : decode b_Mo_term 44 = .ok (.getfield 51, 3) := by decide +kernel
theorem d_Mo_term_47 : decode b_Mo_term 47 = .ok (.iload_n 1, 1) := by decide +kernel
theorem d_Mo_term_48 : decode b_Mo_term 48 = .ok (.iload_n 2, 1) := by decide +kernel
theorem d_Mo_term_49 : decode b_Mo_term 49 = .ok (.bipush 113, 2) := by decide +kernel
theorem d_Mo_term_51 : decode b_Mo_term 51 = .ok (.if_icmp .ne 13, 3) := by decide +kernel
theorem d_Mo_term_54 : decode b_Mo_term 54 = .ok (.aload_n 0, 1) := by decide +kernel
theorem d_Mo_term_55 : decode b_Mo_term 55 = .ok (.iconst 1, 1) := by decide +kernel
theorem d_Mo_term_56 : decode b_Mo_term 56 = .ok (.bipush 60, 2) := by decide +kernel
theorem d_Mo_term_58 : decode b_Mo_term 58 = .ok (.invokevirtual 109, 3) := by decide +kernel
theorem d_Mo_term_61 : decode b_Mo_term 61 = .ok (.goto 4, 3) := by decide +kernel
theorem d_Mo_term_64 : decode b_Mo_term 64 = .ok (.iconst 0, 1) := by decide +kernel
theorem d_Mo_term_65 : decode b_Mo_term 65 = .ok (.iastore, 1) := by decide +kernel
theorem d_Mo_term_66 : decode b_Mo_term 66 = .ok (.aload_n 0, 1) := by decide +kernel
theorem d_Mo_term_67 : decode b_Mo_term 67 = .ok (.getfield 86, 3) := by decide +kernel
theorem d_Mo_term_70 : decode b_Mo_term 70 = .ok (.ifCond .lt 4, 3) := by decide +kernel
theorem d_Mo_term_73 : decode b_Mo_term 73 = .ok (.return_, 1) := by decide +kernel
theorem d_Mo_term_74 : decode b_Mo_term 74 = .ok (.aload_n 0, 1) := by decide +kernel
theorem d_Mo_term_75 : decode b_Mo_term 75 = .ok (.invokevirtual 89, 3) := by decide +kernel
theorem d_Mo_term_78 : decode b_Mo_term 78 = .ok (.istore_n 3, 1) := by decide +kernel
theorem d_Mo_term_79 : decode b_Mo_term 79 = .ok (.iload_n 3, 1) := by decide +kernel
theorem d_Mo_term_80 : decode b_Mo_term 80 = .ok (.bipush 60, 2) := by decide +kernel
theorem d_Mo_term_82 : decode b_Mo_term 82 = .ok (.if_icmp .eq 29, 3) := by decide +kernel
theorem d_Mo_term_85 : decode b_Mo_term 85 = .ok (.iload_n 3, 1) := by decide +kernel
theorem d_Mo_term_86 : decode b_Mo_term 86 = .ok (.bipush 62, 2) := by decide +kernel
theorem d_Mo_term_88 : decode b_Mo_term 88 = .ok (.if_icmp .eq 23, 3) := by decide +kernel
theorem d_Mo_term_91 : decode b_Mo_term 91 = .ok (.iload_n 3, 1) := by decide +kernel
theorem d_Mo_term_92 : decode b_Mo_term 92 = .ok (.bipush 61, 2) := by decide +kernel
theorem d_Mo_term_94 : decode b_Mo_term 94 = .ok (.if_icmp .ne 9, 3) := by decide +kernel
theorem d_Mo_term_97 : decode b_Mo_term 97 = .ok (.iload_n 2, 1) := by decide +kernel
theorem d_Mo_term_98 : decode b_Mo_term 98 = .ok (.bipush 112, 2) := by decide +kernel
theorem d_Mo_term_100 : decode b_Mo_term 100 = .ok (.if_icmp .ne 11, 3) := by decide +kernel
theorem d_Mo_term_103 : decode b_Mo_term 103 = .ok (.aload_n 0, 1) := by decide +kernel
theorem d_Mo_term_104 : decode b_Mo_term 104 = .ok (.aload_n 0, 1) := by decide +kernel
theorem d_Mo_term_105 : decode b_Mo_term 105 = .ok (.getfield 79, 3) := by decide +kernel
theorem d_Mo_term_108 : decode b_Mo_term 108 = .ok (.invokevirtual 92, 3) := by decide +kernel
theorem d_Mo_term_111 : decode b_Mo_term 111 = .ok (.aload_n 0, 1) := by decide +kernel
theorem d_Mo_term_112 : decode b_Mo_term 112 = .ok (.getfield 86, 3) := by decide +kernel
theorem d_Mo_term_115 : decode b_Mo_term 115 = .ok (.ifCond .lt 4, 3) := by decide +kernel
theorem d_Mo_term_118 : decode b_Mo_term 118 = .ok (.return_, 1) := by decide +kernel
theorem d_Mo_term_119 : decode b_Mo_term 119 = .ok (.aload_n 0, 1) := by decide +kernel
theorem d_Mo_term_120 : decode b_Mo_term 120 = .ok (.dup, 1) := by decide +kernel
theorem d_Mo_term_121 : decode b_Mo_term 121 = .ok (.getfield 79, 3) := by decide +kernel
theorem d_Mo_term_124 : decode b_Mo_term 124 = .ok (.iconst 1, 1) := by decide +kernel
theorem d_Mo_term_125 : decode b_Mo_term 125 = .ok (.iadd, 1) := by decide +kernel
theorem d_Mo_term_126 : decode b_Mo_term 126 = .ok (.putfield 79, 3) := by decide +kernel
theorem d_Mo_term_129 : decode b_Mo_term 129 = .ok (.aload_n 0, 1) := by decide +kernel
theorem d_Mo_term_130 : decode b_Mo_term 130 = .ok (.getfield 51, 3) := by decide +kernel
theorem d_Mo_term_133 : decode b_Mo_term 133 = .ok (.iload_n 1, 1) := by decide +kernel
theorem d_Mo_term_134 : decode b_Mo_term 134 = .ok (.iconst 1, 1) := by decide +kernel
theorem d_Mo_term_135 : decode b_Mo_term 135 = .ok (.iadd, 1) := by decide +kernel
theorem d_Mo_term_136 : decode b_Mo_term 136 = .ok (.iload_n 3, 1) := by decide +kernel
theorem d_Mo_term_137 : decode b_Mo_term 137 = .ok (.iastore, 1) := by decide +kernel
theorem d_Mo_term_138 : decode b_Mo_term 138 = .ok (.aload_n 0, 1) := by decide +kernel
theorem d_Mo_term_139 : decode b_Mo_term 139 = .ok (.getfield 51, 3) := by decide +kernel
theorem d_Mo_term_142 : decode b_Mo_term 142 = .ok (.iload_n 1, 1) := by decide +kernel
theorem d_Mo_term_143 : decode b_Mo_term 143 = .ok (.iconst 2, 1) := by decide +kernel
theorem d_Mo_term_144 : decode b_Mo_term 144 = .ok (.iadd, 1) := by decide +kernel
theorem d_Mo_term_145 : decode b_Mo_term 145 = .ok (.aload_n 0, 1) := by decide +kernel
theorem d_Mo_term_146 : decode b_Mo_term 146 = .ok (.iconst 0, 1) := by decide +kernel
theorem d_Mo_term_147 : decode b_Mo_term 147 = .ok (.sipush 9999, 3) := by decide +kernel
theorem d_Mo_term_150 : decode b_Mo_term 150 = .ok (.invokevirtual 109, 3) := by decide +kernel
theorem d_Mo_term_153 : decode b_Mo_term 153 = .ok (.iastore, 1) := by decide +kernel
theorem d_Mo_term_154 : decode b_Mo_term 154 = .ok (.return_, 1) := by decide +kernel
