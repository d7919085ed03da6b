-- decode rows (printed by wip/whole/names.py)
theorem d_TR_init_0 : decode b_TR_init 0 = .ok (.aload_n 0, 1) := by decide +kernel
theorem d_TR_init_1 : decode b_TR_init 1 = .ok (.invokespecial 3, 3) := by decide +kernel
theorem d_TR_init_4 : decode b_TR_init 4 = .ok (.aload_n 0, 1) := by decide +kernel
theorem d_TR_init_5 : decode b_TR_init 5 = .ok (.sipush 400, 3) := by decide +kernel
theorem d_TR_init_8 : decode b_TR_init 8 = .ok (.newarray .int, 2) := by decide +kernel
theorem d_TR_init_10 : decode b_TR_init 10 = .ok (.putfield 9, 3) := by decide +kernel
theorem d_TR_init_13 : decode b_TR_init 13 = .ok (.aload_n 0, 1) := by decide +kernel
theorem d_TR_init_14 : decode b_TR_init 14 = .ok (.bipush 61, 2) := by decide +kernel
theorem d_TR_init_16 : decode b_TR_init 16 = .ok (.anewarray 15, 3) := by decide +kernel
theorem d_TR_init_19 : decode b_TR_init 19 = .ok (.putfield 17, 3) := by decide +kernel
theorem d_TR_init_22 : decode b_TR_init 22 = .ok (.aload_n 0, 1) := by decide +kernel
theorem d_TR_init_23 : decode b_TR_init 23 = .ok (.bipush 10, 2) := by decide +kernel
theorem d_TR_init_25 : decode b_TR_init 25 = .ok (.anewarray 21, 3) := by decide +kernel
theorem d_TR_init_28 : decode b_TR_init 28 = .ok (.putfield 23, 3) := by decide +kernel
theorem d_TR_init_31 : decode b_TR_init 31 = .ok (.aload_n 0, 1) := by decide +kernel
theorem d_TR_init_32 : decode b_TR_init 32 = .ok (.iconst 0, 1) := by decide +kernel
theorem d_TR_init_33 : decode b_TR_init 33 = .ok (.putfield 27, 3) := by decide +kernel
theorem d_TR_init_36 : decode b_TR_init 36 = .ok (.aload_n 0, 1) := by decide +kernel
theorem d_TR_init_37 : decode b_TR_init 37 = .ok (.iconst 0, 1) := by decide +kernel
theorem d_TR_init_38 : decode b_TR_init 38 = .ok (.putfield 31, 3) := by decide +kernel
theorem d_TR_init_41 : decode b_TR_init 41 = .ok (.return_, 1) := by decide +kernel
theorem d_TR_add_0 : decode b_TR_add 0 = .ok (.aload_n 0, 1) := by decide +kernel
theorem d_TR_add_1 : decode b_TR_add 1 = .ok (.getfield 27, 3) := by decide +kernel
theorem d_TR_add_4 : decode b_TR_add 4 = .ok (.sipush 400, 3) := by decide +kernel
theorem d_TR_add_7 : decode b_TR_add 7 = .ok (.if_icmp .ge 23, 3) := by decide +kernel
theorem d_TR_add_10 : decode b_TR_add 10 = .ok (.aload_n 0, 1) := by decide +kernel
theorem d_TR_add_11 : decode b_TR_add 11 = .ok (.getfield 9, 3) := by decide +kernel
theorem d_TR_add_14 : decode b_TR_add 14 = .ok (.aload_n 0, 1) := by decide +kernel
theorem d_TR_add_15 : decode b_TR_add 15 = .ok (.getfield 27, 3) := by decide +kernel
theorem d_TR_add_18 : decode b_TR_add 18 = .ok (.iload_n 1, 1) := by decide +kernel
theorem d_TR_add_19 : decode b_TR_add 19 = .ok (.iastore, 1) := by decide +kernel
theorem d_TR_add_20 : decode b_TR_add 20 = .ok (.aload_n 0, 1) := by decide +kernel
theorem d_TR_add_21 : decode b_TR_add 21 = .ok (.dup, 1) := by decide +kernel
theorem d_TR_add_22 : decode b_TR_add 22 = .ok (.getfield 27, 3) := by decide +kernel
theorem d_TR_add_25 : decode b_TR_add 25 = .ok (.iconst 1, 1) := by decide +kernel
theorem d_TR_add_26 : decode b_TR_add 26 = .ok (.iadd, 1) := by decide +kernel
theorem d_TR_add_27 : decode b_TR_add 27 = .ok (.putfield 27, 3) := by decide +kernel
theorem d_TR_add_30 : decode b_TR_add 30 = .ok (.return_, 1) := by decide +kernel
theorem d_TR_readTape_0 : decode b_TR_readTape 0 = .ok (.aload_n 0, 1) := by decide +kernel
theorem d_TR_readTape_1 : decode b_TR_readTape 1 = .ok (.invokevirtual 34, 3) := by decide +kernel
theorem d_TR_readTape_4 : decode b_TR_readTape 4 = .ok (.aload_n 0, 1) := by decide +kernel
theorem d_TR_readTape_5 : decode b_TR_readTape 5 = .ok (.iconst 0, 1) := by decide +kernel
theorem d_TR_readTape_6 : decode b_TR_readTape 6 = .ok (.putfield 31, 3) := by decide +kernel
theorem d_TR_readTape_9 : decode b_TR_readTape 9 = .ok (.iconst (-1), 1) := by decide +kernel
theorem d_TR_readTape_10 : decode b_TR_readTape 10 = .ok (.istore_n 1, 1) := by decide +kernel
theorem d_TR_readTape_11 : decode b_TR_readTape 11 = .ok (.iconst 0, 1) := by decide +kernel
theorem d_TR_readTape_12 : decode b_TR_readTape 12 = .ok (.istore_n 2, 1) := by decide +kernel
theorem d_TR_readTape_13 : decode b_TR_readTape 13 = .ok (.iload_n 2, 1) := by decide +kernel
theorem d_TR_readTape_14 : decode b_TR_readTape 14 = .ok (.sipush 400, 3) := by decide +kernel
theorem d_TR_readTape_17 : decode b_TR_readTape 17 = .ok (.if_icmp .ge 43, 3) := by decide +kernel
theorem d_TR_readTape_20 : decode b_TR_readTape 20 = .ok (.aload_n 0, 1) := by decide +kernel
theorem d_TR_readTape_21 : decode b_TR_readTape 21 = .ok (.invokevirtual 37, 3) := by decide +kernel
theorem d_TR_readTape_24 : decode b_TR_readTape 24 = .ok (.iconst (-1), 1) := by decide +kernel
theorem d_TR_readTape_25 : decode b_TR_readTape 25 = .ok (.if_icmp .eq 35, 3) := by decide +kernel
theorem d_TR_readTape_28 : decode b_TR_readTape 28 = .ok (.aload_n 0, 1) := by decide +kernel
theorem d_TR_readTape_29 : decode b_TR_readTape 29 = .ok (.bipush 113, 2) := by decide +kernel
theorem d_TR_readTape_31 : decode b_TR_readTape 31 = .ok (.invokevirtual 41, 3) := by decide +kernel
theorem d_TR_readTape_34 : decode b_TR_readTape 34 = .ok (.ifCond .eq 10, 3) := by decide +kernel
theorem d_TR_readTape_37 : decode b_TR_readTape 37 = .ok (.aload_n 0, 1) := by decide +kernel
theorem d_TR_readTape_38 : decode b_TR_readTape 38 = .ok (.invokevirtual 45, 3) := by decide +kernel
theorem d_TR_readTape_41 : decode b_TR_readTape 41 = .ok (.goto 13, 3) := by decide +kernel
theorem d_TR_readTape_44 : decode b_TR_readTape 44 = .ok (.aload_n 0, 1) := by decide +kernel
theorem d_TR_readTape_45 : decode b_TR_readTape 45 = .ok (.bipush 107, 2) := by decide +kernel
theorem d_TR_readTape_47 : decode b_TR_readTape 47 = .ok (.invokevirtual 48, 3) := by decide +kernel
theorem d_TR_readTape_50 : decode b_TR_readTape 50 = .ok (.aload_n 0, 1) := by decide +kernel
theorem d_TR_readTape_51 : decode b_TR_readTape 51 = .ok (.invokevirtual 52, 3) := by decide +kernel
theorem d_TR_readTape_54 : decode b_TR_readTape 54 = .ok (.iinc 2 1, 3) := by decide +kernel
theorem d_TR_readTape_57 : decode b_TR_readTape 57 = .ok (.goto (-44), 3) := by decide +kernel
theorem d_TR_readTape_60 : decode b_TR_readTape 60 = .ok (.goto 9, 3) := by decide +kernel
theorem d_TR_readTape_63 : decode b_TR_readTape 63 = .ok (.astore_n 2, 1) := by decide +kernel
theorem d_TR_readTape_64 : decode b_TR_readTape 64 = .ok (.aload_n 0, 1) := by decide +kernel
theorem d_TR_readTape_65 : decode b_TR_readTape 65 = .ok (.getfield 31, 3) := by decide +kernel
theorem d_TR_readTape_68 : decode b_TR_readTape 68 = .ok (.istore_n 1, 1) := by decide +kernel
theorem d_TR_readTape_69 : decode b_TR_readTape 69 = .ok (.aload_n 0, 1) := by decide +kernel
theorem d_TR_readTape_70 : decode b_TR_readTape 70 = .ok (.iconst 0, 1) := by decide +kernel
theorem d_TR_readTape_71 : decode b_TR_readTape 71 = .ok (.putfield 27, 3) := by decide +kernel
theorem d_TR_readTape_74 : decode b_TR_readTape 74 = .ok (.iload_n 1, 1) := by decide +kernel
theorem d_TR_readTape_75 : decode b_TR_readTape 75 = .ok (.ireturn, 1) := by decide +kernel
theorem d_TR_forgetRows_0 : decode b_TR_forgetRows 0 = .ok (.iconst 0, 1) := by decide +kernel
theorem d_TR_forgetRows_1 : decode b_TR_forgetRows 1 = .ok (.istore_n 1, 1) := by decide +kernel
theorem d_TR_forgetRows_2 : decode b_TR_forgetRows 2 = .ok (.iload_n 1, 1) := by decide +kernel
theorem d_TR_forgetRows_3 : decode b_TR_forgetRows 3 = .ok (.bipush 60, 2) := by decide +kernel
theorem d_TR_forgetRows_5 : decode b_TR_forgetRows 5 = .ok (.if_icmp .gt 16, 3) := by decide +kernel
theorem d_TR_forgetRows_8 : decode b_TR_forgetRows 8 = .ok (.aload_n 0, 1) := by decide +kernel
theorem d_TR_forgetRows_9 : decode b_TR_forgetRows 9 = .ok (.getfield 17, 3) := by decide +kernel
theorem d_TR_forgetRows_12 : decode b_TR_forgetRows 12 = .ok (.iload_n 1, 1) := by decide +kernel
theorem d_TR_forgetRows_13 : decode b_TR_forgetRows 13 = .ok (.aconst_null, 1) := by decide +kernel
theorem d_TR_forgetRows_14 : decode b_TR_forgetRows 14 = .ok (.aastore, 1) := by decide +kernel
theorem d_TR_forgetRows_15 : decode b_TR_forgetRows 15 = .ok (.iinc 1 1, 3) := by decide +kernel
theorem d_TR_forgetRows_18 : decode b_TR_forgetRows 18 = .ok (.goto (-16), 3) := by decide +kernel
theorem d_TR_forgetRows_21 : decode b_TR_forgetRows 21 = .ok (.iconst 0, 1) := by decide +kernel
theorem d_TR_forgetRows_22 : decode b_TR_forgetRows 22 = .ok (.istore_n 1, 1) := by decide +kernel
theorem d_TR_forgetRows_23 : decode b_TR_forgetRows 23 = .ok (.iload_n 1, 1) := by decide +kernel
theorem d_TR_forgetRows_24 : decode b_TR_forgetRows 24 = .ok (.bipush 9, 2) := by decide +kernel
theorem d_TR_forgetRows_26 : decode b_TR_forgetRows 26 = .ok (.if_icmp .gt 16, 3) := by decide +kernel
theorem d_TR_forgetRows_29 : decode b_TR_forgetRows 29 = .ok (.aload_n 0, 1) := by decide +kernel
theorem d_TR_forgetRows_30 : decode b_TR_forgetRows 30 = .ok (.getfield 23, 3) := by decide +kernel
theorem d_TR_forgetRows_33 : decode b_TR_forgetRows 33 = .ok (.iload_n 1, 1) := by decide +kernel
theorem d_TR_forgetRows_34 : decode b_TR_forgetRows 34 = .ok (.aconst_null, 1) := by decide +kernel
theorem d_TR_forgetRows_35 : decode b_TR_forgetRows 35 = .ok (.aastore, 1) := by decide +kernel
theorem d_TR_forgetRows_36 : decode b_TR_forgetRows 36 = .ok (.iinc 1 1, 3) := by decide +kernel
theorem d_TR_forgetRows_39 : decode b_TR_forgetRows 39 = .ok (.goto (-16), 3) := by decide +kernel
theorem d_TR_forgetRows_42 : decode b_TR_forgetRows 42 = .ok (.return_, 1) := by decide +kernel
theorem d_TR_readQuestion_0 : decode b_TR_readQuestion 0 = .ok (.aload_n 0, 1) := by decide +kernel
theorem d_TR_readQuestion_1 : decode b_TR_readQuestion 1 = .ok (.iconst 1, 1) := by decide +kernel
theorem d_TR_readQuestion_2 : decode b_TR_readQuestion 2 = .ok (.bipush 60, 2) := by decide +kernel
theorem d_TR_readQuestion_4 : decode b_TR_readQuestion 4 = .ok (.invokevirtual 57, 3) := by decide +kernel
theorem d_TR_readQuestion_7 : decode b_TR_readQuestion 7 = .ok (.istore_n 1, 1) := by decide +kernel
theorem d_TR_readQuestion_8 : decode b_TR_readQuestion 8 = .ok (.aload_n 0, 1) := by decide +kernel
theorem d_TR_readQuestion_9 : decode b_TR_readQuestion 9 = .ok (.getfield 17, 3) := by decide +kernel
theorem d_TR_readQuestion_12 : decode b_TR_readQuestion 12 = .ok (.iload_n 1, 1) := by decide +kernel
theorem d_TR_readQuestion_13 : decode b_TR_readQuestion 13 = .ok (.aaload, 1) := by decide +kernel
theorem d_TR_readQuestion_14 : decode b_TR_readQuestion 14 = .ok (.ifnull 13, 3) := by decide +kernel
theorem d_TR_readQuestion_17 : decode b_TR_readQuestion 17 = .ok (.aload_n 0, 1) := by decide +kernel
theorem d_TR_readQuestion_18 : decode b_TR_readQuestion 18 = .ok (.aload_n 0, 1) := by decide +kernel
theorem d_TR_readQuestion_19 : decode b_TR_readQuestion 19 = .ok (.getfield 31, 3) := by decide +kernel
theorem d_TR_readQuestion_22 : decode b_TR_readQuestion 22 = .ok (.iconst 1, 1) := by decide +kernel
theorem d_TR_readQuestion_23 : decode b_TR_readQuestion 23 = .ok (.isub, 1) := by decide +kernel
theorem d_TR_readQuestion_24 : decode b_TR_readQuestion 24 = .ok (.invokevirtual 61, 3) := by decide +kernel
theorem d_TR_readQuestion_27 : decode b_TR_readQuestion 27 = .ok (.aload_n 0, 1) := by decide +kernel
theorem d_TR_readQuestion_28 : decode b_TR_readQuestion 28 = .ok (.bipush 33, 2) := by decide +kernel
theorem d_TR_readQuestion_30 : decode b_TR_readQuestion 30 = .ok (.invokevirtual 41, 3) := by decide +kernel
theorem d_TR_readQuestion_33 : decode b_TR_readQuestion 33 = .ok (.istore_n 2, 1) := by decide +kernel
theorem d_TR_readQuestion_34 : decode b_TR_readQuestion 34 = .ok (.iload_n 2, 1) := by decide +kernel
theorem d_TR_readQuestion_35 : decode b_TR_readQuestion 35 = .ok (.ifCond .ne 9, 3) := by decide +kernel
theorem d_TR_readQuestion_38 : decode b_TR_readQuestion 38 = .ok (.aload_n 0, 1) := by decide +kernel
theorem d_TR_readQuestion_39 : decode b_TR_readQuestion 39 = .ok (.bipush 63, 2) := by decide +kernel
theorem d_TR_readQuestion_41 : decode b_TR_readQuestion 41 = .ok (.invokevirtual 48, 3) := by decide +kernel
theorem d_TR_readQuestion_44 : decode b_TR_readQuestion 44 = .ok (.aload_n 0, 1) := by decide +kernel
theorem d_TR_readQuestion_45 : decode b_TR_readQuestion 45 = .ok (.invokevirtual 64, 3) := by decide +kernel
theorem d_TR_readQuestion_48 : decode b_TR_readQuestion 48 = .ok (.astore_n 3, 1) := by decide +kernel
theorem d_TR_readQuestion_49 : decode b_TR_readQuestion 49 = .ok (.aload_n 0, 1) := by decide +kernel
theorem d_TR_readQuestion_50 : decode b_TR_readQuestion 50 = .ok (.invokevirtual 68, 3) := by decide +kernel
theorem d_TR_readQuestion_53 : decode b_TR_readQuestion 53 = .ok (.astore 4, 2) := by decide +kernel
theorem d_TR_readQuestion_55 : decode b_TR_readQuestion 55 = .ok (.aload_n 0, 1) := by decide +kernel
theorem d_TR_readQuestion_56 : decode b_TR_readQuestion 56 = .ok (.invokevirtual 37, 3) := by decide +kernel
theorem d_TR_readQuestion_59 : decode b_TR_readQuestion 59 = .ok (.bipush 34, 2) := by decide +kernel
theorem d_TR_readQuestion_61 : decode b_TR_readQuestion 61 = .ok (.if_icmp .ne 10, 3) := by decide +kernel
theorem d_TR_readQuestion_64 : decode b_TR_readQuestion 64 = .ok (.aload_n 0, 1) := by decide +kernel
theorem d_TR_readQuestion_65 : decode b_TR_readQuestion 65 = .ok (.invokevirtual 68, 3) := by decide +kernel
theorem d_TR_readQuestion_68 : decode b_TR_readQuestion 68 = .ok (.goto 5, 3) := by decide +kernel
theorem d_TR_readQuestion_71 : decode b_TR_readQuestion 71 = .ok (.aload 4, 2) := by decide +kernel
theorem d_TR_readQuestion_73 : decode b_TR_readQuestion 73 = .ok (.astore 5, 2) := by decide +kernel
theorem d_TR_readQuestion_75 : decode b_TR_readQuestion 75 = .ok (.aload_n 0, 1) := by decide +kernel
theorem d_TR_readQuestion_76 : decode b_TR_readQuestion 76 = .ok (.bipush 58, 2) := by decide +kernel
theorem d_TR_readQuestion_78 : decode b_TR_readQuestion 78 = .ok (.invokevirtual 48, 3) := by decide +kernel
theorem d_TR_readQuestion_81 : decode b_TR_readQuestion 81 = .ok (.new 72, 3) := by decide +kernel
theorem d_TR_readQuestion_84 : decode b_TR_readQuestion 84 = .ok (.dup, 1) := by decide +kernel
theorem d_TR_readQuestion_85 : decode b_TR_readQuestion 85 = .ok (.invokespecial 74, 3) := by decide +kernel
theorem d_TR_readQuestion_88 : decode b_TR_readQuestion 88 = .ok (.astore 6, 2) := by decide +kernel
theorem d_TR_readQuestion_90 : decode b_TR_readQuestion 90 = .ok (.iconst 1, 1) := by decide +kernel
theorem d_TR_readQuestion_91 : decode b_TR_readQuestion 91 = .ok (.istore 7, 2) := by decide +kernel
theorem d_TR_readQuestion_93 : decode b_TR_readQuestion 93 = .ok (.iload 7, 2) := by decide +kernel
theorem d_TR_readQuestion_95 : decode b_TR_readQuestion 95 = .ok (.bipush 6, 2) := by decide +kernel
theorem d_TR_readQuestion_97 : decode b_TR_readQuestion 97 = .ok (.if_icmp .ge 41, 3) := by decide +kernel
theorem d_TR_readQuestion_100 : decode b_TR_readQuestion 100 = .ok (.aload_n 0, 1) := by decide +kernel
theorem d_TR_readQuestion_101 : decode b_TR_readQuestion 101 = .ok (.invokevirtual 37, 3) := by decide +kernel
theorem d_TR_readQuestion_104 : decode b_TR_readQuestion 104 = .ok (.invokestatic 75, 3) := by decide +kernel
theorem d_TR_readQuestion_107 : decode b_TR_readQuestion 107 = .ok (.ifCond .eq 31, 3) := by decide +kernel
theorem d_TR_readQuestion_110 : decode b_TR_readQuestion 110 = .ok (.aload 6, 2) := by decide +kernel
theorem d_TR_readQuestion_112 : decode b_TR_readQuestion 112 = .ok (.aload_n 0, 1) := by decide +kernel
theorem d_TR_readQuestion_113 : decode b_TR_readQuestion 113 = .ok (.aload_n 0, 1) := by decide +kernel
theorem d_TR_readQuestion_114 : decode b_TR_readQuestion 114 = .ok (.invokevirtual 64, 3) := by decide +kernel
theorem d_TR_readQuestion_117 : decode b_TR_readQuestion 117 = .ok (.invokevirtual 78, 3) := by decide +kernel
theorem d_TR_readQuestion_120 : decode b_TR_readQuestion 120 = .ok (.invokeinterface 82 2, 5) := by decide +kernel
theorem d_TR_readQuestion_125 : decode b_TR_readQuestion 125 = .ok (.pop, 1) := by decide +kernel
theorem d_TR_readQuestion_126 : decode b_TR_readQuestion 126 = .ok (.aload_n 0, 1) := by decide +kernel
theorem d_TR_readQuestion_127 : decode b_TR_readQuestion 127 = .ok (.bipush 44, 2) := by decide +kernel
theorem d_TR_readQuestion_129 : decode b_TR_readQuestion 129 = .ok (.invokevirtual 48, 3) := by decide +kernel
theorem d_TR_readQuestion_132 : decode b_TR_readQuestion 132 = .ok (.iinc 7 1, 3) := by decide +kernel
theorem d_TR_readQuestion_135 : decode b_TR_readQuestion 135 = .ok (.goto (-42), 3) := by decide +kernel
theorem d_TR_readQuestion_138 : decode b_TR_readQuestion 138 = .ok (.aload_n 0, 1) := by decide +kernel
theorem d_TR_readQuestion_139 : decode b_TR_readQuestion 139 = .ok (.new 88, 3) := by decide +kernel
theorem d_TR_readQuestion_142 : decode b_TR_readQuestion 142 = .ok (.dup, 1) := by decide +kernel
theorem d_TR_readQuestion_143 : decode b_TR_readQuestion 143 = .ok (.iconst (-1), 1) := by decide +kernel
theorem d_TR_readQuestion_144 : decode b_TR_readQuestion 144 = .ok (.sipush 9999, 3) := by decide +kernel
theorem d_TR_readQuestion_147 : decode b_TR_readQuestion 147 = .ok (.invokespecial 90, 3) := by decide +kernel
theorem d_TR_readQuestion_150 : decode b_TR_readQuestion 150 = .ok (.invokevirtual 78, 3) := by decide +kernel
theorem d_TR_readQuestion_153 : decode b_TR_readQuestion 153 = .ok (.astore 7, 2) := by decide +kernel
theorem d_TR_readQuestion_155 : decode b_TR_readQuestion 155 = .ok (.aload_n 0, 1) := by decide +kernel
theorem d_TR_readQuestion_156 : decode b_TR_readQuestion 156 = .ok (.bipush 59, 2) := by decide +kernel
theorem d_TR_readQuestion_158 : decode b_TR_readQuestion 158 = .ok (.invokevirtual 48, 3) := by decide +kernel
theorem d_TR_readQuestion_161 : decode b_TR_readQuestion 161 = .ok (.aload_n 0, 1) := by decide +kernel
theorem d_TR_readQuestion_162 : decode b_TR_readQuestion 162 = .ok (.getfield 17, 3) := by decide +kernel
theorem d_TR_readQuestion_165 : decode b_TR_readQuestion 165 = .ok (.iload_n 1, 1) := by decide +kernel
theorem d_TR_readQuestion_166 : decode b_TR_readQuestion 166 = .ok (.new 15, 3) := by decide +kernel
theorem d_TR_readQuestion_169 : decode b_TR_readQuestion 169 = .ok (.dup, 1) := by decide +kernel
theorem d_TR_readQuestion_170 : decode b_TR_readQuestion 170 = .ok (.iload_n 2, 1) := by decide +kernel
theorem d_TR_readQuestion_171 : decode b_TR_readQuestion 171 = .ok (.aload_n 3, 1) := by decide +kernel
theorem d_TR_readQuestion_172 : decode b_TR_readQuestion 172 = .ok (.aload 4, 2) := by decide +kernel
theorem d_TR_readQuestion_174 : decode b_TR_readQuestion 174 = .ok (.aload 5, 2) := by decide +kernel
theorem d_TR_readQuestion_176 : decode b_TR_readQuestion 176 = .ok (.aload 6, 2) := by decide +kernel
theorem d_TR_readQuestion_178 : decode b_TR_readQuestion 178 = .ok (.aload 7, 2) := by decide +kernel
theorem d_TR_readQuestion_180 : decode b_TR_readQuestion 180 = .ok (.invokespecial 93, 3) := by decide +kernel
theorem d_TR_readQuestion_183 : decode b_TR_readQuestion 183 = .ok (.aastore, 1) := by decide +kernel
theorem d_TR_readQuestion_184 : decode b_TR_readQuestion 184 = .ok (.return_, 1) := by decide +kernel
theorem d_TR_readSpan_0 : decode b_TR_readSpan 0 = .ok (.aload_n 0, 1) := by decide +kernel
theorem d_TR_readSpan_1 : decode b_TR_readSpan 1 = .ok (.iconst 0, 1) := by decide +kernel
theorem d_TR_readSpan_2 : decode b_TR_readSpan 2 = .ok (.sipush 9999, 3) := by decide +kernel
theorem d_TR_readSpan_5 : decode b_TR_readSpan 5 = .ok (.invokevirtual 57, 3) := by decide +kernel
theorem d_TR_readSpan_8 : decode b_TR_readSpan 8 = .ok (.istore_n 1, 1) := by decide +kernel
theorem d_TR_readSpan_9 : decode b_TR_readSpan 9 = .ok (.aload_n 0, 1) := by decide +kernel
theorem d_TR_readSpan_10 : decode b_TR_readSpan 10 = .ok (.bipush 45, 2) := by decide +kernel
theorem d_TR_readSpan_12 : decode b_TR_readSpan 12 = .ok (.invokevirtual 48, 3) := by decide +kernel
theorem d_TR_readSpan_15 : decode b_TR_readSpan 15 = .ok (.new 88, 3) := by decide +kernel
theorem d_TR_readSpan_18 : decode b_TR_readSpan 18 = .ok (.dup, 1) := by decide +kernel
theorem d_TR_readSpan_19 : decode b_TR_readSpan 19 = .ok (.iload_n 1, 1) := by decide +kernel
theorem d_TR_readSpan_20 : decode b_TR_readSpan 20 = .ok (.aload_n 0, 1) := by decide +kernel
theorem d_TR_readSpan_21 : decode b_TR_readSpan 21 = .ok (.iload_n 1, 1) := by decide +kernel
theorem d_TR_readSpan_22 : decode b_TR_readSpan 22 = .ok (.sipush 9999, 3) := by decide +kernel
theorem d_TR_readSpan_25 : decode b_TR_readSpan 25 = .ok (.invokevirtual 57, 3) := by decide +kernel
theorem d_TR_readSpan_28 : decode b_TR_readSpan 28 = .ok (.invokespecial 90, 3) := by decide +kernel
theorem d_TR_readSpan_31 : decode b_TR_readSpan 31 = .ok (.areturn, 1) := by decide +kernel
theorem d_TR_readWords_0 : decode b_TR_readWords 0 = .ok (.aload_n 0, 1) := by decide +kernel
theorem d_TR_readWords_1 : decode b_TR_readWords 1 = .ok (.bipush 34, 2) := by decide +kernel
theorem d_TR_readWords_3 : decode b_TR_readWords 3 = .ok (.invokevirtual 48, 3) := by decide +kernel
theorem d_TR_readWords_6 : decode b_TR_readWords 6 = .ok (.aload_n 0, 1) := by decide +kernel
theorem d_TR_readWords_7 : decode b_TR_readWords 7 = .ok (.getfield 31, 3) := by decide +kernel
theorem d_TR_readWords_10 : decode b_TR_readWords 10 = .ok (.istore_n 1, 1) := by decide +kernel
theorem d_TR_readWords_11 : decode b_TR_readWords 11 = .ok (.aload_n 0, 1) := by decide +kernel
theorem d_TR_readWords_12 : decode b_TR_readWords 12 = .ok (.getfield 31, 3) := by decide +kernel
theorem d_TR_readWords_15 : decode b_TR_readWords 15 = .ok (.aload_n 0, 1) := by decide +kernel
theorem d_TR_readWords_16 : decode b_TR_readWords 16 = .ok (.getfield 27, 3) := by decide +kernel
theorem d_TR_readWords_19 : decode b_TR_readWords 19 = .ok (.if_icmp .ge 42, 3) := by decide +kernel
theorem d_TR_readWords_22 : decode b_TR_readWords 22 = .ok (.aload_n 0, 1) := by decide +kernel
theorem d_TR_readWords_23 : decode b_TR_readWords 23 = .ok (.getfield 31, 3) := by decide +kernel
theorem d_TR_readWords_26 : decode b_TR_readWords 26 = .ok (.iload_n 1, 1) := by decide +kernel
theorem d_TR_readWords_27 : decode b_TR_readWords 27 = .ok (.bipush 12, 2) := by decide +kernel
theorem d_TR_readWords_29 : decode b_TR_readWords 29 = .ok (.iadd, 1) := by decide +kernel
theorem d_TR_readWords_30 : decode b_TR_readWords 30 = .ok (.if_icmp .ge 31, 3) := by decide +kernel
theorem d_TR_readWords_33 : decode b_TR_readWords 33 = .ok (.aload_n 0, 1) := by decide +kernel
theorem d_TR_readWords_34 : decode b_TR_readWords 34 = .ok (.getfield 9, 3) := by decide +kernel
theorem d_TR_readWords_37 : decode b_TR_readWords 37 = .ok (.aload_n 0, 1) := by decide +kernel
theorem d_TR_readWords_38 : decode b_TR_readWords 38 = .ok (.getfield 31, 3) := by decide +kernel
theorem d_TR_readWords_41 : decode b_TR_readWords 41 = .ok (.iaload, 1) := by decide +kernel
theorem d_TR_readWords_42 : decode b_TR_readWords 42 = .ok (.invokestatic 96, 3) := by decide +kernel
theorem d_TR_readWords_45 : decode b_TR_readWords 45 = .ok (.ifCond .eq 16, 3) := by decide +kernel
theorem d_TR_readWords_48 : decode b_TR_readWords 48 = .ok (.aload_n 0, 1) := by decide +kernel
theorem d_TR_readWords_49 : decode b_TR_readWords 49 = .ok (.dup, 1) := by decide +kernel
theorem d_TR_readWords_50 : decode b_TR_readWords 50 = .ok (.getfield 31, 3) := by decide +kernel
theorem d_TR_readWords_53 : decode b_TR_readWords 53 = .ok (.iconst 1, 1) := by decide +kernel
theorem d_TR_readWords_54 : decode b_TR_readWords 54 = .ok (.iadd, 1) := by decide +kernel
theorem d_TR_readWords_55 : decode b_TR_readWords 55 = .ok (.putfield 31, 3) := by decide +kernel
theorem d_TR_readWords_58 : decode b_TR_readWords 58 = .ok (.goto (-47), 3) := by decide +kernel
theorem d_TR_readWords_61 : decode b_TR_readWords 61 = .ok (.aload_n 0, 1) := by decide +kernel
theorem d_TR_readWords_62 : decode b_TR_readWords 62 = .ok (.getfield 31, 3) := by decide +kernel
theorem d_TR_readWords_65 : decode b_TR_readWords 65 = .ok (.iload_n 1, 1) := by decide +kernel
theorem d_TR_readWords_66 : decode b_TR_readWords 66 = .ok (.if_icmp .eq 28, 3) := by decide +kernel
theorem d_TR_readWords_69 : decode b_TR_readWords 69 = .ok (.aload_n 0, 1) := by decide +kernel
theorem d_TR_readWords_70 : decode b_TR_readWords 70 = .ok (.getfield 31, 3) := by decide +kernel
theorem d_TR_readWords_73 : decode b_TR_readWords 73 = .ok (.aload_n 0, 1) := by decide +kernel
theorem d_TR_readWords_74 : decode b_TR_readWords 74 = .ok (.getfield 27, 3) := by decide +kernel
theorem d_TR_readWords_77 : decode b_TR_readWords 77 = .ok (.if_icmp .ge 17, 3) := by decide +kernel
theorem d_TR_readWords_80 : decode b_TR_readWords 80 = .ok (.aload_n 0, 1) := by decide +kernel
theorem d_TR_readWords_81 : decode b_TR_readWords 81 = .ok (.getfield 9, 3) := by decide +kernel
theorem d_TR_readWords_84 : decode b_TR_readWords 84 = .ok (.aload_n 0, 1) := by decide +kernel
theorem d_TR_readWords_85 : decode b_TR_readWords 85 = .ok (.getfield 31, 3) := by decide +kernel
theorem d_TR_readWords_88 : decode b_TR_readWords 88 = .ok (.iaload, 1) := by decide +kernel
theorem d_TR_readWords_89 : decode b_TR_readWords 89 = .ok (.bipush 34, 2) := by decide +kernel
theorem d_TR_readWords_91 : decode b_TR_readWords 91 = .ok (.if_icmp .eq 11, 3) := by decide +kernel
theorem d_TR_readWords_94 : decode b_TR_readWords 94 = .ok (.aload_n 0, 1) := by decide +kernel
theorem d_TR_readWords_95 : decode b_TR_readWords 95 = .ok (.aload_n 0, 1) := by decide +kernel
theorem d_TR_readWords_96 : decode b_TR_readWords 96 = .ok (.getfield 31, 3) := by decide +kernel
theorem d_TR_readWords_99 : decode b_TR_readWords 99 = .ok (.invokevirtual 61, 3) := by decide +kernel
theorem d_TR_readWords_102 : decode b_TR_readWords 102 = .ok (.aload_n 0, 1) := by decide +kernel
theorem d_TR_readWords_103 : decode b_TR_readWords 103 = .ok (.dup, 1) := by decide +kernel
theorem d_TR_readWords_104 : decode b_TR_readWords 104 = .ok (.getfield 31, 3) := by decide +kernel
theorem d_TR_readWords_107 : decode b_TR_readWords 107 = .ok (.iconst 1, 1) := by decide +kernel
theorem d_TR_readWords_108 : decode b_TR_readWords 108 = .ok (.iadd, 1) := by decide +kernel
theorem d_TR_readWords_109 : decode b_TR_readWords 109 = .ok (.putfield 31, 3) := by decide +kernel
theorem d_TR_readWords_112 : decode b_TR_readWords 112 = .ok (.aload_n 0, 1) := by decide +kernel
theorem d_TR_readWords_113 : decode b_TR_readWords 113 = .ok (.getfield 9, 3) := by decide +kernel
theorem d_TR_readWords_116 : decode b_TR_readWords 116 = .ok (.iload_n 1, 1) := by decide +kernel
theorem d_TR_readWords_117 : decode b_TR_readWords 117 = .ok (.aload_n 0, 1) := by decide +kernel
theorem d_TR_readWords_118 : decode b_TR_readWords 118 = .ok (.getfield 31, 3) := by decide +kernel
theorem d_TR_readWords_121 : decode b_TR_readWords 121 = .ok (.iconst 1, 1) := by decide +kernel
theorem d_TR_readWords_122 : decode b_TR_readWords 122 = .ok (.isub, 1) := by decide +kernel
theorem d_TR_readWords_123 : decode b_TR_readWords 123 = .ok (.invokestatic 99, 3) := by decide +kernel
theorem d_TR_readWords_126 : decode b_TR_readWords 126 = .ok (.areturn, 1) := by decide +kernel
theorem d_TR_readJump_0 : decode b_TR_readJump 0 = .ok (.aload_n 0, 1) := by decide +kernel
theorem d_TR_readJump_1 : decode b_TR_readJump 1 = .ok (.bipush 62, 2) := by decide +kernel
theorem d_TR_readJump_3 : decode b_TR_readJump 3 = .ok (.invokevirtual 48, 3) := by decide +kernel
theorem d_TR_readJump_6 : decode b_TR_readJump 6 = .ok (.aload_n 0, 1) := by decide +kernel
theorem d_TR_readJump_7 : decode b_TR_readJump 7 = .ok (.iconst 0, 1) := by decide +kernel
theorem d_TR_readJump_8 : decode b_TR_readJump 8 = .ok (.bipush 60, 2) := by decide +kernel
theorem d_TR_readJump_10 : decode b_TR_readJump 10 = .ok (.invokevirtual 57, 3) := by decide +kernel
theorem d_TR_readJump_13 : decode b_TR_readJump 13 = .ok (.istore_n 2, 1) := by decide +kernel
theorem d_TR_readJump_14 : decode b_TR_readJump 14 = .ok (.aload_n 0, 1) := by decide +kernel
theorem d_TR_readJump_15 : decode b_TR_readJump 15 = .ok (.bipush 43, 2) := by decide +kernel
theorem d_TR_readJump_17 : decode b_TR_readJump 17 = .ok (.invokevirtual 41, 3) := by decide +kernel
theorem d_TR_readJump_20 : decode b_TR_readJump 20 = .ok (.ifCond .eq 14, 3) := by decide +kernel
theorem d_TR_readJump_23 : decode b_TR_readJump 23 = .ok (.aload_n 0, 1) := by decide +kernel
theorem d_TR_readJump_24 : decode b_TR_readJump 24 = .ok (.iconst 0, 1) := by decide +kernel
theorem d_TR_readJump_25 : decode b_TR_readJump 25 = .ok (.sipush 999, 3) := by decide +kernel
theorem d_TR_readJump_28 : decode b_TR_readJump 28 = .ok (.invokevirtual 57, 3) := by decide +kernel
theorem d_TR_readJump_31 : decode b_TR_readJump 31 = .ok (.goto 4, 3) := by decide +kernel
theorem d_TR_readJump_34 : decode b_TR_readJump 34 = .ok (.iconst 0, 1) := by decide +kernel
theorem d_TR_readJump_35 : decode b_TR_readJump 35 = .ok (.istore_n 3, 1) := by decide +kernel
theorem d_TR_readJump_36 : decode b_TR_readJump 36 = .ok (.new 105, 3) := by decide +kernel
theorem d_TR_readJump_39 : decode b_TR_readJump 39 = .ok (.dup, 1) := by decide +kernel
theorem d_TR_readJump_40 : decode b_TR_readJump 40 = .ok (.aload_n 1, 1) := by decide +kernel
theorem d_TR_readJump_41 : decode b_TR_readJump 41 = .ok (.iload_n 2, 1) := by decide +kernel
theorem d_TR_readJump_42 : decode b_TR_readJump 42 = .ok (.iload_n 3, 1) := by decide +kernel
theorem d_TR_readJump_43 : decode b_TR_readJump 43 = .ok (.invokespecial 107, 3) := by decide +kernel
theorem d_TR_readJump_46 : decode b_TR_readJump 46 = .ok (.areturn, 1) := by decide +kernel
theorem d_TR_readKind_0 : decode b_TR_readKind 0 = .ok (.aload_n 0, 1) := by decide +kernel
theorem d_TR_readKind_1 : decode b_TR_readKind 1 = .ok (.iconst 1, 1) := by decide +kernel
theorem d_TR_readKind_2 : decode b_TR_readKind 2 = .ok (.bipush 9, 2) := by decide +kernel
theorem d_TR_readKind_4 : decode b_TR_readKind 4 = .ok (.invokevirtual 57, 3) := by decide +kernel
theorem d_TR_readKind_7 : decode b_TR_readKind 7 = .ok (.istore_n 1, 1) := by decide +kernel
theorem d_TR_readKind_8 : decode b_TR_readKind 8 = .ok (.aload_n 0, 1) := by decide +kernel
theorem d_TR_readKind_9 : decode b_TR_readKind 9 = .ok (.getfield 23, 3) := by decide +kernel
theorem d_TR_readKind_12 : decode b_TR_readKind 12 = .ok (.iload_n 1, 1) := by decide +kernel
theorem d_TR_readKind_13 : decode b_TR_readKind 13 = .ok (.aaload, 1) := by decide +kernel
theorem d_TR_readKind_14 : decode b_TR_readKind 14 = .ok (.ifnull 13, 3) := by decide +kernel
theorem d_TR_readKind_17 : decode b_TR_readKind 17 = .ok (.aload_n 0, 1) := by decide +kernel
theorem d_TR_readKind_18 : decode b_TR_readKind 18 = .ok (.aload_n 0, 1) := by decide +kernel
theorem d_TR_readKind_19 : decode b_TR_readKind 19 = .ok (.getfield 31, 3) := by decide +kernel
theorem d_TR_readKind_22 : decode b_TR_readKind 22 = .ok (.iconst 1, 1) := by decide +kernel
theorem d_TR_readKind_23 : decode b_TR_readKind 23 = .ok (.isub, 1) := by decide +kernel
theorem d_TR_readKind_24 : decode b_TR_readKind 24 = .ok (.invokevirtual 61, 3) := by decide +kernel
theorem d_TR_readKind_27 : decode b_TR_readKind 27 = .ok (.aload_n 0, 1) := by decide +kernel
theorem d_TR_readKind_28 : decode b_TR_readKind 28 = .ok (.bipush 61, 2) := by decide +kernel
theorem d_TR_readKind_30 : decode b_TR_readKind 30 = .ok (.invokevirtual 48, 3) := by decide +kernel
theorem d_TR_readKind_33 : decode b_TR_readKind 33 = .ok (.aload_n 0, 1) := by decide +kernel
theorem d_TR_readKind_34 : decode b_TR_readKind 34 = .ok (.iconst 1, 1) := by decide +kernel
theorem d_TR_readKind_35 : decode b_TR_readKind 35 = .ok (.bipush 60, 2) := by decide +kernel
theorem d_TR_readKind_37 : decode b_TR_readKind 37 = .ok (.invokevirtual 57, 3) := by decide +kernel
theorem d_TR_readKind_40 : decode b_TR_readKind 40 = .ok (.istore_n 2, 1) := by decide +kernel
theorem d_TR_readKind_41 : decode b_TR_readKind 41 = .ok (.aload_n 0, 1) := by decide +kernel
theorem d_TR_readKind_42 : decode b_TR_readKind 42 = .ok (.bipush 58, 2) := by decide +kernel
theorem d_TR_readKind_44 : decode b_TR_readKind 44 = .ok (.invokevirtual 48, 3) := by decide +kernel
theorem d_TR_readKind_47 : decode b_TR_readKind 47 = .ok (.aload_n 0, 1) := by decide +kernel
theorem d_TR_readKind_48 : decode b_TR_readKind 48 = .ok (.iconst 0, 1) := by decide +kernel
theorem d_TR_readKind_49 : decode b_TR_readKind 49 = .ok (.bipush 9, 2) := by decide +kernel
theorem d_TR_readKind_51 : decode b_TR_readKind 51 = .ok (.invokevirtual 57, 3) := by decide +kernel
theorem d_TR_readKind_54 : decode b_TR_readKind 54 = .ok (.istore_n 3, 1) := by decide +kernel
theorem d_TR_readKind_55 : decode b_TR_readKind 55 = .ok (.new 72, 3) := by decide +kernel
theorem d_TR_readKind_58 : decode b_TR_readKind 58 = .ok (.dup, 1) := by decide +kernel
theorem d_TR_readKind_59 : decode b_TR_readKind 59 = .ok (.invokespecial 74, 3) := by decide +kernel
theorem d_TR_readKind_62 : decode b_TR_readKind 62 = .ok (.astore 4, 2) := by decide +kernel
theorem d_TR_readKind_64 : decode b_TR_readKind 64 = .ok (.iconst 0, 1) := by decide +kernel
theorem d_TR_readKind_65 : decode b_TR_readKind 65 = .ok (.istore 5, 2) := by decide +kernel
theorem d_TR_readKind_67 : decode b_TR_readKind 67 = .ok (.iload 5, 2) := by decide +kernel
theorem d_TR_readKind_69 : decode b_TR_readKind 69 = .ok (.bipush 6, 2) := by decide +kernel
theorem d_TR_readKind_71 : decode b_TR_readKind 71 = .ok (.if_icmp .ge 30, 3) := by decide +kernel
theorem d_TR_readKind_74 : decode b_TR_readKind 74 = .ok (.aload_n 0, 1) := by decide +kernel
theorem d_TR_readKind_75 : decode b_TR_readKind 75 = .ok (.bipush 40, 2) := by decide +kernel
theorem d_TR_readKind_77 : decode b_TR_readKind 77 = .ok (.invokevirtual 41, 3) := by decide +kernel
theorem d_TR_readKind_80 : decode b_TR_readKind 80 = .ok (.ifCond .eq 21, 3) := by decide +kernel
theorem d_TR_readKind_83 : decode b_TR_readKind 83 = .ok (.aload 4, 2) := by decide +kernel
theorem d_TR_readKind_85 : decode b_TR_readKind 85 = .ok (.aload_n 0, 1) := by decide +kernel
theorem d_TR_readKind_86 : decode b_TR_readKind 86 = .ok (.invokevirtual 110, 3) := by decide +kernel
theorem d_TR_readKind_89 : decode b_TR_readKind 89 = .ok (.invokeinterface 82 2, 5) := by decide +kernel
theorem d_TR_readKind_94 : decode b_TR_readKind 94 = .ok (.pop, 1) := by decide +kernel
theorem d_TR_readKind_95 : decode b_TR_readKind 95 = .ok (.iinc 5 1, 3) := by decide +kernel
theorem d_TR_readKind_98 : decode b_TR_readKind 98 = .ok (.goto (-31), 3) := by decide +kernel
theorem d_TR_readKind_101 : decode b_TR_readKind 101 = .ok (.aload_n 0, 1) := by decide +kernel
theorem d_TR_readKind_102 : decode b_TR_readKind 102 = .ok (.bipush 59, 2) := by decide +kernel
theorem d_TR_readKind_104 : decode b_TR_readKind 104 = .ok (.invokevirtual 48, 3) := by decide +kernel
theorem d_TR_readKind_107 : decode b_TR_readKind 107 = .ok (.aload_n 0, 1) := by decide +kernel
theorem d_TR_readKind_108 : decode b_TR_readKind 108 = .ok (.getfield 23, 3) := by decide +kernel
theorem d_TR_readKind_111 : decode b_TR_readKind 111 = .ok (.iload_n 1, 1) := by decide +kernel
theorem d_TR_readKind_112 : decode b_TR_readKind 112 = .ok (.new 21, 3) := by decide +kernel
theorem d_TR_readKind_115 : decode b_TR_readKind 115 = .ok (.dup, 1) := by decide +kernel
theorem d_TR_readKind_116 : decode b_TR_readKind 116 = .ok (.iload_n 2, 1) := by decide +kernel
theorem d_TR_readKind_117 : decode b_TR_readKind 117 = .ok (.iload_n 3, 1) := by decide +kernel
theorem d_TR_readKind_118 : decode b_TR_readKind 118 = .ok (.aload 4, 2) := by decide +kernel
theorem d_TR_readKind_120 : decode b_TR_readKind 120 = .ok (.invokespecial 114, 3) := by decide +kernel
theorem d_TR_readKind_123 : decode b_TR_readKind 123 = .ok (.aastore, 1) := by decide +kernel
theorem d_TR_readKind_124 : decode b_TR_readKind 124 = .ok (.return_, 1) := by decide +kernel
theorem d_TR_readCondition_0 : decode b_TR_readCondition 0 = .ok (.new 72, 3) := by decide +kernel
theorem d_TR_readCondition_3 : decode b_TR_readCondition 3 = .ok (.dup, 1) := by decide +kernel
theorem d_TR_readCondition_4 : decode b_TR_readCondition 4 = .ok (.invokespecial 74, 3) := by decide +kernel
theorem d_TR_readCondition_7 : decode b_TR_readCondition 7 = .ok (.astore_n 1, 1) := by decide +kernel
theorem d_TR_readCondition_8 : decode b_TR_readCondition 8 = .ok (.aload_n 1, 1) := by decide +kernel
theorem d_TR_readCondition_9 : decode b_TR_readCondition 9 = .ok (.aload_n 0, 1) := by decide +kernel
theorem d_TR_readCondition_10 : decode b_TR_readCondition 10 = .ok (.invokevirtual 117, 3) := by decide +kernel
theorem d_TR_readCondition_13 : decode b_TR_readCondition 13 = .ok (.invokeinterface 82 2, 5) := by decide +kernel
theorem d_TR_readCondition_18 : decode b_TR_readCondition 18 = .ok (.pop, 1) := by decide +kernel
theorem d_TR_readCondition_19 : decode b_TR_readCondition 19 = .ok (.iconst 1, 1) := by decide +kernel
theorem d_TR_readCondition_20 : decode b_TR_readCondition 20 = .ok (.istore_n 2, 1) := by decide +kernel
theorem d_TR_readCondition_21 : decode b_TR_readCondition 21 = .ok (.iload_n 2, 1) := by decide +kernel
theorem d_TR_readCondition_22 : decode b_TR_readCondition 22 = .ok (.iconst 4, 1) := by decide +kernel
theorem d_TR_readCondition_23 : decode b_TR_readCondition 23 = .ok (.if_icmp .ge 29, 3) := by decide +kernel
theorem d_TR_readCondition_26 : decode b_TR_readCondition 26 = .ok (.aload_n 0, 1) := by decide +kernel
theorem d_TR_readCondition_27 : decode b_TR_readCondition 27 = .ok (.bipush 38, 2) := by decide +kernel
theorem d_TR_readCondition_29 : decode b_TR_readCondition 29 = .ok (.invokevirtual 41, 3) := by decide +kernel
theorem d_TR_readCondition_32 : decode b_TR_readCondition 32 = .ok (.ifCond .eq 20, 3) := by decide +kernel
theorem d_TR_readCondition_35 : decode b_TR_readCondition 35 = .ok (.aload_n 1, 1) := by decide +kernel
theorem d_TR_readCondition_36 : decode b_TR_readCondition 36 = .ok (.aload_n 0, 1) := by decide +kernel
theorem d_TR_readCondition_37 : decode b_TR_readCondition 37 = .ok (.invokevirtual 117, 3) := by decide +kernel
theorem d_TR_readCondition_40 : decode b_TR_readCondition 40 = .ok (.invokeinterface 82 2, 5) := by decide +kernel
theorem d_TR_readCondition_45 : decode b_TR_readCondition 45 = .ok (.pop, 1) := by decide +kernel
theorem d_TR_readCondition_46 : decode b_TR_readCondition 46 = .ok (.iinc 2 1, 3) := by decide +kernel
theorem d_TR_readCondition_49 : decode b_TR_readCondition 49 = .ok (.goto (-28), 3) := by decide +kernel
theorem d_TR_readCondition_52 : decode b_TR_readCondition 52 = .ok (.aload_n 0, 1) := by decide +kernel
theorem d_TR_readCondition_53 : decode b_TR_readCondition 53 = .ok (.bipush 58, 2) := by decide +kernel
theorem d_TR_readCondition_55 : decode b_TR_readCondition 55 = .ok (.invokevirtual 48, 3) := by decide +kernel
theorem d_TR_readCondition_58 : decode b_TR_readCondition 58 = .ok (.aload_n 0, 1) := by decide +kernel
theorem d_TR_readCondition_59 : decode b_TR_readCondition 59 = .ok (.iconst 0, 1) := by decide +kernel
theorem d_TR_readCondition_60 : decode b_TR_readCondition 60 = .ok (.bipush 9, 2) := by decide +kernel
theorem d_TR_readCondition_62 : decode b_TR_readCondition 62 = .ok (.invokevirtual 57, 3) := by decide +kernel
theorem d_TR_readCondition_65 : decode b_TR_readCondition 65 = .ok (.istore_n 2, 1) := by decide +kernel
theorem d_TR_readCondition_66 : decode b_TR_readCondition 66 = .ok (.aload_n 0, 1) := by decide +kernel
theorem d_TR_readCondition_67 : decode b_TR_readCondition 67 = .ok (.bipush 41, 2) := by decide +kernel
theorem d_TR_readCondition_69 : decode b_TR_readCondition 69 = .ok (.invokevirtual 48, 3) := by decide +kernel
theorem d_TR_readCondition_72 : decode b_TR_readCondition 72 = .ok (.new 121, 3) := by decide +kernel
theorem d_TR_readCondition_75 : decode b_TR_readCondition 75 = .ok (.dup, 1) := by decide +kernel
theorem d_TR_readCondition_76 : decode b_TR_readCondition 76 = .ok (.aload_n 1, 1) := by decide +kernel
theorem d_TR_readCondition_77 : decode b_TR_readCondition 77 = .ok (.iload_n 2, 1) := by decide +kernel
theorem d_TR_readCondition_78 : decode b_TR_readCondition 78 = .ok (.invokespecial 123, 3) := by decide +kernel
theorem d_TR_readCondition_81 : decode b_TR_readCondition 81 = .ok (.areturn, 1) := by decide +kernel
theorem d_TR_readTerm_0 : decode b_TR_readTerm 0 = .ok (.iconst 0, 1) := by decide +kernel
theorem d_TR_readTerm_1 : decode b_TR_readTerm 1 = .ok (.istore_n 1, 1) := by decide +kernel
theorem d_TR_readTerm_2 : decode b_TR_readTerm 2 = .ok (.aload_n 0, 1) := by decide +kernel
theorem d_TR_readTerm_3 : decode b_TR_readTerm 3 = .ok (.bipush 112, 2) := by decide +kernel
theorem d_TR_readTerm_5 : decode b_TR_readTerm 5 = .ok (.invokevirtual 41, 3) := by decide +kernel
theorem d_TR_readTerm_8 : decode b_TR_readTerm 8 = .ok (.ifCond .ne 17, 3) := by decide +kernel
theorem d_TR_readTerm_11 : decode b_TR_readTerm 11 = .ok (.aload_n 0, 1) := by decide +kernel
theorem d_TR_readTerm_12 : decode b_TR_readTerm 12 = .ok (.bipush 113, 2) := by decide +kernel
theorem d_TR_readTerm_14 : decode b_TR_readTerm 14 = .ok (.invokevirtual 48, 3) := by decide +kernel
theorem d_TR_readTerm_17 : decode b_TR_readTerm 17 = .ok (.aload_n 0, 1) := by decide +kernel
theorem d_TR_readTerm_18 : decode b_TR_readTerm 18 = .ok (.iconst 1, 1) := by decide +kernel
theorem d_TR_readTerm_19 : decode b_TR_readTerm 19 = .ok (.bipush 60, 2) := by decide +kernel
theorem d_TR_readTerm_21 : decode b_TR_readTerm 21 = .ok (.invokevirtual 57, 3) := by decide +kernel
theorem d_TR_readTerm_24 : decode b_TR_readTerm 24 = .ok (.istore_n 1, 1) := by decide +kernel
theorem d_TR_readTerm_25 : decode b_TR_readTerm 25 = .ok (.aload_n 0, 1) := by decide +kernel
theorem d_TR_readTerm_26 : decode b_TR_readTerm 26 = .ok (.invokevirtual 37, 3) := by decide +kernel
theorem d_TR_readTerm_29 : decode b_TR_readTerm 29 = .ok (.istore_n 2, 1) := by decide +kernel
theorem d_TR_readTerm_30 : decode b_TR_readTerm 30 = .ok (.iload_n 2, 1) := by decide +kernel
theorem d_TR_readTerm_31 : decode b_TR_readTerm 31 = .ok (.bipush 60, 2) := by decide +kernel
theorem d_TR_readTerm_33 : decode b_TR_readTerm 33 = .ok (.if_icmp .eq 27, 3) := by decide +kernel
theorem d_TR_readTerm_36 : decode b_TR_readTerm 36 = .ok (.iload_n 2, 1) := by decide +kernel
theorem d_TR_readTerm_37 : decode b_TR_readTerm 37 = .ok (.bipush 62, 2) := by decide +kernel
theorem d_TR_readTerm_39 : decode b_TR_readTerm 39 = .ok (.if_icmp .eq 21, 3) := by decide +kernel
theorem d_TR_readTerm_42 : decode b_TR_readTerm 42 = .ok (.iload_n 2, 1) := by decide +kernel
theorem d_TR_readTerm_43 : decode b_TR_readTerm 43 = .ok (.bipush 61, 2) := by decide +kernel
theorem d_TR_readTerm_45 : decode b_TR_readTerm 45 = .ok (.if_icmp .ne 7, 3) := by decide +kernel
theorem d_TR_readTerm_48 : decode b_TR_readTerm 48 = .ok (.iload_n 1, 1) := by decide +kernel
theorem d_TR_readTerm_49 : decode b_TR_readTerm 49 = .ok (.ifCond .ne 11, 3) := by decide +kernel
theorem d_TR_readTerm_52 : decode b_TR_readTerm 52 = .ok (.aload_n 0, 1) := by decide +kernel
theorem d_TR_readTerm_53 : decode b_TR_readTerm 53 = .ok (.aload_n 0, 1) := by decide +kernel
theorem d_TR_readTerm_54 : decode b_TR_readTerm 54 = .ok (.getfield 31, 3) := by decide +kernel
theorem d_TR_readTerm_57 : decode b_TR_readTerm 57 = .ok (.invokevirtual 61, 3) := by decide +kernel
theorem d_TR_readTerm_60 : decode b_TR_readTerm 60 = .ok (.aload_n 0, 1) := by decide +kernel
theorem d_TR_readTerm_61 : decode b_TR_readTerm 61 = .ok (.dup, 1) := by decide +kernel
theorem d_TR_readTerm_62 : decode b_TR_readTerm 62 = .ok (.getfield 31, 3) := by decide +kernel
theorem d_TR_readTerm_65 : decode b_TR_readTerm 65 = .ok (.iconst 1, 1) := by decide +kernel
theorem d_TR_readTerm_66 : decode b_TR_readTerm 66 = .ok (.iadd, 1) := by decide +kernel
theorem d_TR_readTerm_67 : decode b_TR_readTerm 67 = .ok (.putfield 31, 3) := by decide +kernel
theorem d_TR_readTerm_70 : decode b_TR_readTerm 70 = .ok (.new 126, 3) := by decide +kernel
theorem d_TR_readTerm_73 : decode b_TR_readTerm 73 = .ok (.dup, 1) := by decide +kernel
theorem d_TR_readTerm_74 : decode b_TR_readTerm 74 = .ok (.iload_n 1, 1) := by decide +kernel
theorem d_TR_readTerm_75 : decode b_TR_readTerm 75 = .ok (.iload_n 2, 1) := by decide +kernel
theorem d_TR_readTerm_76 : decode b_TR_readTerm 76 = .ok (.aload_n 0, 1) := by decide +kernel
theorem d_TR_readTerm_77 : decode b_TR_readTerm 77 = .ok (.iconst 0, 1) := by decide +kernel
theorem d_TR_readTerm_78 : decode b_TR_readTerm 78 = .ok (.sipush 9999, 3) := by decide +kernel
theorem d_TR_readTerm_81 : decode b_TR_readTerm 81 = .ok (.invokevirtual 57, 3) := by decide +kernel
theorem d_TR_readTerm_84 : decode b_TR_readTerm 84 = .ok (.invokespecial 128, 3) := by decide +kernel
theorem d_TR_readTerm_87 : decode b_TR_readTerm 87 = .ok (.areturn, 1) := by decide +kernel
theorem d_TR_readNumber_0 : decode b_TR_readNumber 0 = .ok (.aload_n 0, 1) := by decide +kernel
theorem d_TR_readNumber_1 : decode b_TR_readNumber 1 = .ok (.invokevirtual 37, 3) := by decide +kernel
theorem d_TR_readNumber_4 : decode b_TR_readNumber 4 = .ok (.istore_n 3, 1) := by decide +kernel
theorem d_TR_readNumber_5 : decode b_TR_readNumber 5 = .ok (.iload_n 3, 1) := by decide +kernel
theorem d_TR_readNumber_6 : decode b_TR_readNumber 6 = .ok (.invokestatic 75, 3) := by decide +kernel
theorem d_TR_readNumber_9 : decode b_TR_readNumber 9 = .ok (.ifCond .ne 11, 3) := by decide +kernel
theorem d_TR_readNumber_12 : decode b_TR_readNumber 12 = .ok (.aload_n 0, 1) := by decide +kernel
theorem d_TR_readNumber_13 : decode b_TR_readNumber 13 = .ok (.aload_n 0, 1) := by decide +kernel
theorem d_TR_readNumber_14 : decode b_TR_readNumber 14 = .ok (.getfield 31, 3) := by decide +kernel
theorem d_TR_readNumber_17 : decode b_TR_readNumber 17 = .ok (.invokevirtual 61, 3) := by decide +kernel
theorem d_TR_readNumber_20 : decode b_TR_readNumber 20 = .ok (.iload_n 3, 1) := by decide +kernel
theorem d_TR_readNumber_21 : decode b_TR_readNumber 21 = .ok (.bipush 48, 2) := by decide +kernel
theorem d_TR_readNumber_23 : decode b_TR_readNumber 23 = .ok (.isub, 1) := by decide +kernel
theorem d_TR_readNumber_24 : decode b_TR_readNumber 24 = .ok (.istore 4, 2) := by decide +kernel
theorem d_TR_readNumber_26 : decode b_TR_readNumber 26 = .ok (.aload_n 0, 1) := by decide +kernel
theorem d_TR_readNumber_27 : decode b_TR_readNumber 27 = .ok (.dup, 1) := by decide +kernel
theorem d_TR_readNumber_28 : decode b_TR_readNumber 28 = .ok (.getfield 31, 3) := by decide +kernel
theorem d_TR_readNumber_31 : decode b_TR_readNumber 31 = .ok (.iconst 1, 1) := by decide +kernel
theorem d_TR_readNumber_32 : decode b_TR_readNumber 32 = .ok (.iadd, 1) := by decide +kernel
theorem d_TR_readNumber_33 : decode b_TR_readNumber 33 = .ok (.putfield 31, 3) := by decide +kernel
theorem d_TR_readNumber_36 : decode b_TR_readNumber 36 = .ok (.iconst 1, 1) := by decide +kernel
theorem d_TR_readNumber_37 : decode b_TR_readNumber 37 = .ok (.istore 5, 2) := by decide +kernel
theorem d_TR_readNumber_39 : decode b_TR_readNumber 39 = .ok (.iload 5, 2) := by decide +kernel
theorem d_TR_readNumber_41 : decode b_TR_readNumber 41 = .ok (.iconst 4, 1) := by decide +kernel
theorem d_TR_readNumber_42 : decode b_TR_readNumber 42 = .ok (.if_icmp .ge 70, 3) := by decide +kernel
theorem d_TR_readNumber_45 : decode b_TR_readNumber 45 = .ok (.iload 4, 2) := by decide +kernel
theorem d_TR_readNumber_47 : decode b_TR_readNumber 47 = .ok (.ifCond .eq 65, 3) := by decide +kernel
theorem d_TR_readNumber_50 : decode b_TR_readNumber 50 = .ok (.aload_n 0, 1) := by decide +kernel
theorem d_TR_readNumber_51 : decode b_TR_readNumber 51 = .ok (.getfield 31, 3) := by decide +kernel
theorem d_TR_readNumber_54 : decode b_TR_readNumber 54 = .ok (.aload_n 0, 1) := by decide +kernel
theorem d_TR_readNumber_55 : decode b_TR_readNumber 55 = .ok (.getfield 27, 3) := by decide +kernel
theorem d_TR_readNumber_58 : decode b_TR_readNumber 58 = .ok (.if_icmp .ge 54, 3) := by decide +kernel
theorem d_TR_readNumber_61 : decode b_TR_readNumber 61 = .ok (.aload_n 0, 1) := by decide +kernel
theorem d_TR_readNumber_62 : decode b_TR_readNumber 62 = .ok (.getfield 9, 3) := by decide +kernel
theorem d_TR_readNumber_65 : decode b_TR_readNumber 65 = .ok (.aload_n 0, 1) := by decide +kernel
theorem d_TR_readNumber_66 : decode b_TR_readNumber 66 = .ok (.getfield 31, 3) := by decide +kernel
theorem d_TR_readNumber_69 : decode b_TR_readNumber 69 = .ok (.iaload, 1) := by decide +kernel
theorem d_TR_readNumber_70 : decode b_TR_readNumber 70 = .ok (.invokestatic 75, 3) := by decide +kernel
theorem d_TR_readNumber_73 : decode b_TR_readNumber 73 = .ok (.ifCond .eq 39, 3) := by decide +kernel
theorem d_TR_readNumber_76 : decode b_TR_readNumber 76 = .ok (.iload 4, 2) := by decide +kernel
theorem d_TR_readNumber_78 : decode b_TR_readNumber 78 = .ok (.bipush 10, 2) := by decide +kernel
theorem d_TR_readNumber_80 : decode b_TR_readNumber 80 = .ok (.imul, 1) := by decide +kernel
theorem d_TR_readNumber_81 : decode b_TR_readNumber 81 = .ok (.aload_n 0, 1) := by decide +kernel
theorem d_TR_readNumber_82 : decode b_TR_readNumber 82 = .ok (.getfield 9, 3) := by decide +kernel
theorem d_TR_readNumber_85 : decode b_TR_readNumber 85 = .ok (.aload_n 0, 1) := by decide +kernel
theorem d_TR_readNumber_86 : decode b_TR_readNumber 86 = .ok (.getfield 31, 3) := by decide +kernel
theorem d_TR_readNumber_89 : decode b_TR_readNumber 89 = .ok (.iaload, 1) := by decide +kernel
theorem d_TR_readNumber_90 : decode b_TR_readNumber 90 = .ok (.iadd, 1) := by decide +kernel
theorem d_TR_readNumber_91 : decode b_TR_readNumber 91 = .ok (.bipush 48, 2) := by decide +kernel
theorem d_TR_readNumber_93 : decode b_TR_readNumber 93 = .ok (.isub, 1) := by decide +kernel
theorem d_TR_readNumber_94 : decode b_TR_readNumber 94 = .ok (.istore 4, 2) := by decide +kernel
theorem d_TR_readNumber_96 : decode b_TR_readNumber 96 = .ok (.aload_n 0, 1) := by decide +kernel
theorem d_TR_readNumber_97 : decode b_TR_readNumber 97 = .ok (.dup, 1) := by decide +kernel
theorem d_TR_readNumber_98 : decode b_TR_readNumber 98 = .ok (.getfield 31, 3) := by decide +kernel
theorem d_TR_readNumber_101 : decode b_TR_readNumber 101 = .ok (.iconst 1, 1) := by decide +kernel
theorem d_TR_readNumber_102 : decode b_TR_readNumber 102 = .ok (.iadd, 1) := by decide +kernel
theorem d_TR_readNumber_103 : decode b_TR_readNumber 103 = .ok (.putfield 31, 3) := by decide +kernel
theorem d_TR_readNumber_106 : decode b_TR_readNumber 106 = .ok (.iinc 5 1, 3) := by decide +kernel
theorem d_TR_readNumber_109 : decode b_TR_readNumber 109 = .ok (.goto (-70), 3) := by decide +kernel
theorem d_TR_readNumber_112 : decode b_TR_readNumber 112 = .ok (.iload 4, 2) := by decide +kernel
theorem d_TR_readNumber_114 : decode b_TR_readNumber 114 = .ok (.iload_n 1, 1) := by decide +kernel
theorem d_TR_readNumber_115 : decode b_TR_readNumber 115 = .ok (.if_icmp .lt 9, 3) := by decide +kernel
theorem d_TR_readNumber_118 : decode b_TR_readNumber 118 = .ok (.iload 4, 2) := by decide +kernel
theorem d_TR_readNumber_120 : decode b_TR_readNumber 120 = .ok (.iload_n 2, 1) := by decide +kernel
theorem d_TR_readNumber_121 : decode b_TR_readNumber 121 = .ok (.if_icmp .le 13, 3) := by decide +kernel
theorem d_TR_readNumber_124 : decode b_TR_readNumber 124 = .ok (.aload_n 0, 1) := by decide +kernel
theorem d_TR_readNumber_125 : decode b_TR_readNumber 125 = .ok (.aload_n 0, 1) := by decide +kernel
theorem d_TR_readNumber_126 : decode b_TR_readNumber 126 = .ok (.getfield 31, 3) := by decide +kernel
theorem d_TR_readNumber_129 : decode b_TR_readNumber 129 = .ok (.iconst 1, 1) := by decide +kernel
theorem d_TR_readNumber_130 : decode b_TR_readNumber 130 = .ok (.isub, 1) := by decide +kernel
theorem d_TR_readNumber_131 : decode b_TR_readNumber 131 = .ok (.invokevirtual 61, 3) := by decide +kernel
theorem d_TR_readNumber_134 : decode b_TR_readNumber 134 = .ok (.iload 4, 2) := by decide +kernel
theorem d_TR_readNumber_136 : decode b_TR_readNumber 136 = .ok (.ireturn, 1) := by decide +kernel
theorem d_TR_take_0 : decode b_TR_take 0 = .ok (.aload_n 0, 1) := by decide +kernel
theorem d_TR_take_1 : decode b_TR_take 1 = .ok (.invokevirtual 37, 3) := by decide +kernel
theorem d_TR_take_4 : decode b_TR_take 4 = .ok (.iload_n 1, 1) := by decide +kernel
theorem d_TR_take_5 : decode b_TR_take 5 = .ok (.if_icmp .eq 11, 3) := by decide +kernel
theorem d_TR_take_8 : decode b_TR_take 8 = .ok (.aload_n 0, 1) := by decide +kernel
theorem d_TR_take_9 : decode b_TR_take 9 = .ok (.aload_n 0, 1) := by decide +kernel
theorem d_TR_take_10 : decode b_TR_take 10 = .ok (.getfield 31, 3) := by decide +kernel
theorem d_TR_take_13 : decode b_TR_take 13 = .ok (.invokevirtual 61, 3) := by decide +kernel
theorem d_TR_take_16 : decode b_TR_take 16 = .ok (.aload_n 0, 1) := by decide +kernel
theorem d_TR_take_17 : decode b_TR_take 17 = .ok (.dup, 1) := by decide +kernel
theorem d_TR_take_18 : decode b_TR_take 18 = .ok (.getfield 31, 3) := by decide +kernel
theorem d_TR_take_21 : decode b_TR_take 21 = .ok (.iconst 1, 1) := by decide +kernel
theorem d_TR_take_22 : decode b_TR_take 22 = .ok (.iadd, 1) := by decide +kernel
theorem d_TR_take_23 : decode b_TR_take 23 = .ok (.putfield 31, 3) := by decide +kernel
theorem d_TR_take_26 : decode b_TR_take 26 = .ok (.return_, 1) := by decide +kernel
theorem d_TR_took_0 : decode b_TR_took 0 = .ok (.aload_n 0, 1) := by decide +kernel
theorem d_TR_took_1 : decode b_TR_took 1 = .ok (.invokevirtual 37, 3) := by decide +kernel
theorem d_TR_took_4 : decode b_TR_took 4 = .ok (.iload_n 1, 1) := by decide +kernel
theorem d_TR_took_5 : decode b_TR_took 5 = .ok (.if_icmp .eq 5, 3) := by decide +kernel
theorem d_TR_took_8 : decode b_TR_took 8 = .ok (.iconst 0, 1) := by decide +kernel
theorem d_TR_took_9 : decode b_TR_took 9 = .ok (.ireturn, 1) := by decide +kernel
theorem d_TR_took_10 : decode b_TR_took 10 = .ok (.aload_n 0, 1) := by decide +kernel
theorem d_TR_took_11 : decode b_TR_took 11 = .ok (.dup, 1) := by decide +kernel
theorem d_TR_took_12 : decode b_TR_took 12 = .ok (.getfield 31, 3) := by decide +kernel
theorem d_TR_took_15 : decode b_TR_took 15 = .ok (.iconst 1, 1) := by decide +kernel
theorem d_TR_took_16 : decode b_TR_took 16 = .ok (.iadd, 1) := by decide +kernel
theorem d_TR_took_17 : decode b_TR_took 17 = .ok (.putfield 31, 3) := by decide +kernel
theorem d_TR_took_20 : decode b_TR_took 20 = .ok (.iconst 1, 1) := by decide +kernel
theorem d_TR_took_21 : decode b_TR_took 21 = .ok (.ireturn, 1) := by decide +kernel
theorem d_TR_nextSign_0 : decode b_TR_nextSign 0 = .ok (.aload_n 0, 1) := by decide +kernel
theorem d_TR_nextSign_1 : decode b_TR_nextSign 1 = .ok (.getfield 31, 3) := by decide +kernel
theorem d_TR_nextSign_4 : decode b_TR_nextSign 4 = .ok (.aload_n 0, 1) := by decide +kernel
theorem d_TR_nextSign_5 : decode b_TR_nextSign 5 = .ok (.getfield 27, 3) := by decide +kernel
theorem d_TR_nextSign_8 : decode b_TR_nextSign 8 = .ok (.if_icmp .ge 30, 3) := by decide +kernel
theorem d_TR_nextSign_11 : decode b_TR_nextSign 11 = .ok (.aload_n 0, 1) := by decide +kernel
theorem d_TR_nextSign_12 : decode b_TR_nextSign 12 = .ok (.getfield 9, 3) := by decide +kernel
theorem d_TR_nextSign_15 : decode b_TR_nextSign 15 = .ok (.aload_n 0, 1) := by decide +kernel
theorem d_TR_nextSign_16 : decode b_TR_nextSign 16 = .ok (.getfield 31, 3) := by decide +kernel
theorem d_TR_nextSign_19 : decode b_TR_nextSign 19 = .ok (.iaload, 1) := by decide +kernel
theorem d_TR_nextSign_20 : decode b_TR_nextSign 20 = .ok (.bipush 32, 2) := by decide +kernel
theorem d_TR_nextSign_22 : decode b_TR_nextSign 22 = .ok (.if_icmp .ne 16, 3) := by decide +kernel
theorem d_TR_nextSign_25 : decode b_TR_nextSign 25 = .ok (.aload_n 0, 1) := by decide +kernel
theorem d_TR_nextSign_26 : decode b_TR_nextSign 26 = .ok (.dup, 1) := by decide +kernel
theorem d_TR_nextSign_27 : decode b_TR_nextSign 27 = .ok (.getfield 31, 3) := by decide +kernel
theorem d_TR_nextSign_30 : decode b_TR_nextSign 30 = .ok (.iconst 1, 1) := by decide +kernel
theorem d_TR_nextSign_31 : decode b_TR_nextSign 31 = .ok (.iadd, 1) := by decide +kernel
theorem d_TR_nextSign_32 : decode b_TR_nextSign 32 = .ok (.putfield 31, 3) := by decide +kernel
theorem d_TR_nextSign_35 : decode b_TR_nextSign 35 = .ok (.goto (-35), 3) := by decide +kernel
theorem d_TR_nextSign_38 : decode b_TR_nextSign 38 = .ok (.aload_n 0, 1) := by decide +kernel
theorem d_TR_nextSign_39 : decode b_TR_nextSign 39 = .ok (.getfield 31, 3) := by decide +kernel
theorem d_TR_nextSign_42 : decode b_TR_nextSign 42 = .ok (.aload_n 0, 1) := by decide +kernel
theorem d_TR_nextSign_43 : decode b_TR_nextSign 43 = .ok (.getfield 27, 3) := by decide +kernel
theorem d_TR_nextSign_46 : decode b_TR_nextSign 46 = .ok (.if_icmp .ge 15, 3) := by decide +kernel
theorem d_TR_nextSign_49 : decode b_TR_nextSign 49 = .ok (.aload_n 0, 1) := by decide +kernel
theorem d_TR_nextSign_50 : decode b_TR_nextSign 50 = .ok (.getfield 9, 3) := by decide +kernel
theorem d_TR_nextSign_53 : decode b_TR_nextSign 53 = .ok (.aload_n 0, 1) := by decide +kernel
theorem d_TR_nextSign_54 : decode b_TR_nextSign 54 = .ok (.getfield 31, 3) := by decide +kernel
theorem d_TR_nextSign_57 : decode b_TR_nextSign 57 = .ok (.iaload, 1) := by decide +kernel
theorem d_TR_nextSign_58 : decode b_TR_nextSign 58 = .ok (.goto 4, 3) := by decide +kernel
theorem d_TR_nextSign_61 : decode b_TR_nextSign 61 = .ok (.iconst (-1), 1) := by decide +kernel
theorem d_TR_nextSign_62 : decode b_TR_nextSign 62 = .ok (.ireturn, 1) := by decide +kernel
theorem d_TR_fail_0 : decode b_TR_fail 0 = .ok (.aload_n 0, 1) := by decide +kernel
theorem d_TR_fail_1 : decode b_TR_fail 1 = .ok (.iload_n 1, 1) := by decide +kernel
theorem d_TR_fail_2 : decode b_TR_fail 2 = .ok (.putfield 31, 3) := by decide +kernel
theorem d_TR_fail_5 : decode b_TR_fail 5 = .ok (.new 55, 3) := by decide +kernel
theorem d_TR_fail_8 : decode b_TR_fail 8 = .ok (.dup, 1) := by decide +kernel
theorem d_TR_fail_9 : decode b_TR_fail 9 = .ok (.ldc 131, 2) := by decide +kernel
theorem d_TR_fail_11 : decode b_TR_fail 11 = .ok (.invokespecial 133, 3) := by decide +kernel
theorem d_TR_fail_14 : decode b_TR_fail 14 = .ok (.athrow, 1) := by decide +kernel
theorem d_TR_isDigit_0 : decode b_TR_isDigit 0 = .ok (.iload_n 0, 1) := by decide +kernel
theorem d_TR_isDigit_1 : decode b_TR_isDigit 1 = .ok (.bipush 48, 2) := by decide +kernel
theorem d_TR_isDigit_3 : decode b_TR_isDigit 3 = .ok (.if_icmp .lt 13, 3) := by decide +kernel
theorem d_TR_isDigit_6 : decode b_TR_isDigit 6 = .ok (.iload_n 0, 1) := by decide +kernel
theorem d_TR_isDigit_7 : decode b_TR_isDigit 7 = .ok (.bipush 57, 2) := by decide +kernel
theorem d_TR_isDigit_9 : decode b_TR_isDigit 9 = .ok (.if_icmp .gt 7, 3) := by decide +kernel
theorem d_TR_isDigit_12 : decode b_TR_isDigit 12 = .ok (.iconst 1, 1) := by decide +kernel
theorem d_TR_isDigit_13 : decode b_TR_isDigit 13 = .ok (.goto 4, 3) := by decide +kernel
theorem d_TR_isDigit_16 : decode b_TR_isDigit 16 = .ok (.iconst 0, 1) := by decide +kernel
theorem d_TR_isDigit_17 : decode b_TR_isDigit 17 = .ok (.ireturn, 1) := by decide +kernel
theorem d_TR_isWordByte_0 : decode b_TR_isWordByte 0 = .ok (.iload_n 0, 1) := by decide +kernel
theorem d_TR_isWordByte_1 : decode b_TR_isWordByte 1 = .ok (.bipush 32, 2) := by decide +kernel
theorem d_TR_isWordByte_3 : decode b_TR_isWordByte 3 = .ok (.if_icmp .lt 19, 3) := by decide +kernel
theorem d_TR_isWordByte_6 : decode b_TR_isWordByte 6 = .ok (.iload_n 0, 1) := by decide +kernel
theorem d_TR_isWordByte_7 : decode b_TR_isWordByte 7 = .ok (.bipush 126, 2) := by decide +kernel
theorem d_TR_isWordByte_9 : decode b_TR_isWordByte 9 = .ok (.if_icmp .gt 13, 3) := by decide +kernel
theorem d_TR_isWordByte_12 : decode b_TR_isWordByte 12 = .ok (.iload_n 0, 1) := by decide +kernel
theorem d_TR_isWordByte_13 : decode b_TR_isWordByte 13 = .ok (.bipush 34, 2) := by decide +kernel
theorem d_TR_isWordByte_15 : decode b_TR_isWordByte 15 = .ok (.if_icmp .eq 7, 3) := by decide +kernel
theorem d_TR_isWordByte_18 : decode b_TR_isWordByte 18 = .ok (.iconst 1, 1) := by decide +kernel
theorem d_TR_isWordByte_19 : decode b_TR_isWordByte 19 = .ok (.goto 4, 3) := by decide +kernel
theorem d_TR_isWordByte_22 : decode b_TR_isWordByte 22 = .ok (.iconst 0, 1) := by decide +kernel
theorem d_TR_isWordByte_23 : decode b_TR_isWordByte 23 = .ok (.ireturn, 1) := by decide +kernel
