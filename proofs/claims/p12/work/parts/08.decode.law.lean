abbrev b_La_law : ByteArray := code
-- decode rows (printed by wip/whole/names.py)
theorem d_La_sign_0 : decode b_La_sign 0 = .ok (.aload 4, 2) := by decide +kernel
theorem d_La_sign_2 : decode b_La_sign 2 = .ok (.iconst 0, 1) := by decide +kernel
theorem d_La_sign_3 : decode b_La_sign 3 = .ok (.aload_n 0, 1) := by decide +kernel
theorem d_La_sign_4 : decode b_La_sign 4 = .ok (.lload_n 1, 1) := by decide +kernel
theorem d_La_sign_5 : decode b_La_sign 5 = .ok (.iload_n 3, 1) := by decide +kernel
theorem d_La_sign_6 : decode b_La_sign 6 = .ok (.invokevirtual 7, 3) := by decide +kernel
theorem d_La_sign_9 : decode b_La_sign 9 = .ok (.i2l, 1) := by decide +kernel
theorem d_La_sign_10 : decode b_La_sign 10 = .ok (.lastore, 1) := by decide +kernel
theorem d_La_sign_11 : decode b_La_sign 11 = .ok (.goto 11, 3) := by decide +kernel
theorem d_La_sign_14 : decode b_La_sign 14 = .ok (.astore 5, 2) := by decide +kernel
theorem d_La_sign_16 : decode b_La_sign 16 = .ok (.iconst 1, 1) := by decide +kernel
theorem d_La_sign_17 : decode b_La_sign 17 = .ok (.ireturn, 1) := by decide +kernel
theorem d_La_sign_18 : decode b_La_sign 18 = .ok (.astore 5, 2) := by decide +kernel
theorem d_La_sign_20 : decode b_La_sign 20 = .ok (.iconst 2, 1) := by decide +kernel
theorem d_La_sign_21 : decode b_La_sign 21 = .ok (.ireturn, 1) := by decide +kernel
theorem d_La_sign_22 : decode b_La_sign 22 = .ok (.iconst 0, 1) := by decide +kernel
theorem d_La_sign_23 : decode b_La_sign 23 = .ok (.ireturn, 1) := by decide +kernel
theorem d_La_read_0 : decode b_La_read 0 = .ok (.aload_n 1, 1) := by decide +kernel
theorem d_La_read_1 : decode b_La_read 1 = .ok (.iconst 0, 1) := by decide +kernel
theorem d_La_read_2 : decode b_La_read 2 = .ok (.aload_n 0, 1) := by decide +kernel
theorem d_La_read_3 : decode b_La_read 3 = .ok (.invokevirtual 17, 3) := by decide +kernel
theorem d_La_read_6 : decode b_La_read 6 = .ok (.i2l, 1) := by decide +kernel
theorem d_La_read_7 : decode b_La_read 7 = .ok (.lastore, 1) := by decide +kernel
theorem d_La_read_8 : decode b_La_read 8 = .ok (.goto 9, 3) := by decide +kernel
theorem d_La_read_11 : decode b_La_read 11 = .ok (.astore_n 2, 1) := by decide +kernel
theorem d_La_read_12 : decode b_La_read 12 = .ok (.iconst 1, 1) := by decide +kernel
theorem d_La_read_13 : decode b_La_read 13 = .ok (.ireturn, 1) := by decide +kernel
theorem d_La_read_14 : decode b_La_read 14 = .ok (.astore_n 2, 1) := by decide +kernel
theorem d_La_read_15 : decode b_La_read 15 = .ok (.iconst 2, 1) := by decide +kernel
theorem d_La_read_16 : decode b_La_read 16 = .ok (.ireturn, 1) := by decide +kernel
theorem d_La_read_17 : decode b_La_read 17 = .ok (.iconst 0, 1) := by decide +kernel
theorem d_La_read_18 : decode b_La_read 18 = .ok (.ireturn, 1) := by decide +kernel
theorem d_La_edition_0 : decode b_La_edition 0 = .ok (.aload_n 2, 1) := by decide +kernel
theorem d_La_edition_1 : decode b_La_edition 1 = .ok (.iconst 0, 1) := by decide +kernel
theorem d_La_edition_2 : decode b_La_edition 2 = .ok (.aload_n 0, 1) := by decide +kernel
theorem d_La_edition_3 : decode b_La_edition 3 = .ok (.iload_n 1, 1) := by decide +kernel
theorem d_La_edition_4 : decode b_La_edition 4 = .ok (.invokevirtual 21, 3) := by decide +kernel
theorem d_La_edition_7 : decode b_La_edition 7 = .ok (.i2l, 1) := by decide +kernel
theorem d_La_edition_8 : decode b_La_edition 8 = .ok (.lastore, 1) := by decide +kernel
theorem d_La_edition_9 : decode b_La_edition 9 = .ok (.goto 6, 3) := by decide +kernel
theorem d_La_edition_12 : decode b_La_edition 12 = .ok (.astore_n 3, 1) := by decide +kernel
theorem d_La_edition_13 : decode b_La_edition 13 = .ok (.iconst 1, 1) := by decide +kernel
theorem d_La_edition_14 : decode b_La_edition 14 = .ok (.ireturn, 1) := by decide +kernel
theorem d_La_edition_15 : decode b_La_edition 15 = .ok (.iconst 0, 1) := by decide +kernel
theorem d_La_edition_16 : decode b_La_edition 16 = .ok (.ireturn, 1) := by decide +kernel
theorem d_La_first_0 : decode b_La_first 0 = .ok (.aload_n 2, 1) := by decide +kernel
theorem d_La_first_1 : decode b_La_first 1 = .ok (.iconst 0, 1) := by decide +kernel
theorem d_La_first_2 : decode b_La_first 2 = .ok (.aload_n 0, 1) := by decide +kernel
theorem d_La_first_3 : decode b_La_first 3 = .ok (.iload_n 1, 1) := by decide +kernel
theorem d_La_first_4 : decode b_La_first 4 = .ok (.invokevirtual 25, 3) := by decide +kernel
theorem d_La_first_7 : decode b_La_first 7 = .ok (.i2l, 1) := by decide +kernel
theorem d_La_first_8 : decode b_La_first 8 = .ok (.lastore, 1) := by decide +kernel
theorem d_La_first_9 : decode b_La_first 9 = .ok (.goto 6, 3) := by decide +kernel
theorem d_La_first_12 : decode b_La_first 12 = .ok (.astore_n 3, 1) := by decide +kernel
theorem d_La_first_13 : decode b_La_first 13 = .ok (.iconst 1, 1) := by decide +kernel
theorem d_La_first_14 : decode b_La_first 14 = .ok (.ireturn, 1) := by decide +kernel
theorem d_La_first_15 : decode b_La_first 15 = .ok (.iconst 0, 1) := by decide +kernel
theorem d_La_first_16 : decode b_La_first 16 = .ok (.ireturn, 1) := by decide +kernel
theorem d_La_answer_0 : decode b_La_answer 0 = .ok (.aload_n 2, 1) := by decide +kernel
theorem d_La_answer_1 : decode b_La_answer 1 = .ok (.iconst 0, 1) := by decide +kernel
theorem d_La_answer_2 : decode b_La_answer 2 = .ok (.aload_n 0, 1) := by decide +kernel
theorem d_La_answer_3 : decode b_La_answer 3 = .ok (.iload_n 1, 1) := by decide +kernel
theorem d_La_answer_4 : decode b_La_answer 4 = .ok (.invokevirtual 28, 3) := by decide +kernel
theorem d_La_answer_7 : decode b_La_answer 7 = .ok (.i2l, 1) := by decide +kernel
theorem d_La_answer_8 : decode b_La_answer 8 = .ok (.lastore, 1) := by decide +kernel
theorem d_La_answer_9 : decode b_La_answer 9 = .ok (.goto 9, 3) := by decide +kernel
theorem d_La_answer_12 : decode b_La_answer 12 = .ok (.astore_n 3, 1) := by decide +kernel
theorem d_La_answer_13 : decode b_La_answer 13 = .ok (.iconst 1, 1) := by decide +kernel
theorem d_La_answer_14 : decode b_La_answer 14 = .ok (.ireturn, 1) := by decide +kernel
theorem d_La_answer_15 : decode b_La_answer 15 = .ok (.astore_n 3, 1) := by decide +kernel
theorem d_La_answer_16 : decode b_La_answer 16 = .ok (.iconst 2, 1) := by decide +kernel
theorem d_La_answer_17 : decode b_La_answer 17 = .ok (.ireturn, 1) := by decide +kernel
theorem d_La_answer_18 : decode b_La_answer 18 = .ok (.iconst 0, 1) := by decide +kernel
theorem d_La_answer_19 : decode b_La_answer 19 = .ok (.ireturn, 1) := by decide +kernel
theorem d_La_priority_0 : decode b_La_priority 0 = .ok (.aload_n 1, 1) := by decide +kernel
theorem d_La_priority_1 : decode b_La_priority 1 = .ok (.iconst 0, 1) := by decide +kernel
theorem d_La_priority_2 : decode b_La_priority 2 = .ok (.aload_n 0, 1) := by decide +kernel
theorem d_La_priority_3 : decode b_La_priority 3 = .ok (.invokevirtual 31, 3) := by decide +kernel
theorem d_La_priority_6 : decode b_La_priority 6 = .ok (.i2l, 1) := by decide +kernel
theorem d_La_priority_7 : decode b_La_priority 7 = .ok (.lastore, 1) := by decide +kernel
theorem d_La_priority_8 : decode b_La_priority 8 = .ok (.goto 6, 3) := by decide +kernel
theorem d_La_priority_11 : decode b_La_priority 11 = .ok (.astore_n 2, 1) := by decide +kernel
theorem d_La_priority_12 : decode b_La_priority 12 = .ok (.iconst 1, 1) := by decide +kernel
theorem d_La_priority_13 : decode b_La_priority 13 = .ok (.ireturn, 1) := by decide +kernel
theorem d_La_priority_14 : decode b_La_priority 14 = .ok (.iconst 0, 1) := by decide +kernel
theorem d_La_priority_15 : decode b_La_priority 15 = .ok (.ireturn, 1) := by decide +kernel
theorem d_La_points_0 : decode b_La_points 0 = .ok (.aload_n 1, 1) := by decide +kernel
theorem d_La_points_1 : decode b_La_points 1 = .ok (.iconst 0, 1) := by decide +kernel
theorem d_La_points_2 : decode b_La_points 2 = .ok (.aload_n 0, 1) := by decide +kernel
theorem d_La_points_3 : decode b_La_points 3 = .ok (.invokevirtual 34, 3) := by decide +kernel
theorem d_La_points_6 : decode b_La_points 6 = .ok (.i2l, 1) := by decide +kernel
theorem d_La_points_7 : decode b_La_points 7 = .ok (.lastore, 1) := by decide +kernel
theorem d_La_points_8 : decode b_La_points 8 = .ok (.goto 6, 3) := by decide +kernel
theorem d_La_points_11 : decode b_La_points 11 = .ok (.astore_n 2, 1) := by decide +kernel
theorem d_La_points_12 : decode b_La_points 12 = .ok (.iconst 1, 1) := by decide +kernel
theorem d_La_points_13 : decode b_La_points 13 = .ok (.ireturn, 1) := by decide +kernel
theorem d_La_points_14 : decode b_La_points 14 = .ok (.iconst 0, 1) := by decide +kernel
theorem d_La_points_15 : decode b_La_points 15 = .ok (.ireturn, 1) := by decide +kernel
theorem d_La_asked_0 : decode b_La_asked 0 = .ok (.aload_n 2, 1) := by decide +kernel
theorem d_La_asked_1 : decode b_La_asked 1 = .ok (.iconst 0, 1) := by decide +kernel
theorem d_La_asked_2 : decode b_La_asked 2 = .ok (.aload_n 0, 1) := by decide +kernel
theorem d_La_asked_3 : decode b_La_asked 3 = .ok (.iload_n 1, 1) := by decide +kernel
theorem d_La_asked_4 : decode b_La_asked 4 = .ok (.invokevirtual 37, 3) := by decide +kernel
theorem d_La_asked_7 : decode b_La_asked 7 = .ok (.i2l, 1) := by decide +kernel
theorem d_La_asked_8 : decode b_La_asked 8 = .ok (.lastore, 1) := by decide +kernel
theorem d_La_asked_9 : decode b_La_asked 9 = .ok (.goto 6, 3) := by decide +kernel
theorem d_La_asked_12 : decode b_La_asked 12 = .ok (.astore_n 3, 1) := by decide +kernel
theorem d_La_asked_13 : decode b_La_asked 13 = .ok (.iconst 1, 1) := by decide +kernel
theorem d_La_asked_14 : decode b_La_asked 14 = .ok (.ireturn, 1) := by decide +kernel
theorem d_La_asked_15 : decode b_La_asked 15 = .ok (.iconst 0, 1) := by decide +kernel
theorem d_La_asked_16 : decode b_La_asked 16 = .ok (.ireturn, 1) := by decide +kernel
theorem d_La_loop_0 : decode b_La_loop 0 = .ok (.aload_n 2, 1) := by decide +kernel
theorem d_La_loop_1 : decode b_La_loop 1 = .ok (.iconst 0, 1) := by decide +kernel
theorem d_La_loop_2 : decode b_La_loop 2 = .ok (.aload_n 0, 1) := by decide +kernel
theorem d_La_loop_3 : decode b_La_loop 3 = .ok (.iload_n 1, 1) := by decide +kernel
theorem d_La_loop_4 : decode b_La_loop 4 = .ok (.invokevirtual 40, 3) := by decide +kernel
theorem d_La_loop_7 : decode b_La_loop 7 = .ok (.i2l, 1) := by decide +kernel
theorem d_La_loop_8 : decode b_La_loop 8 = .ok (.lastore, 1) := by decide +kernel
theorem d_La_loop_9 : decode b_La_loop 9 = .ok (.goto 6, 3) := by decide +kernel
theorem d_La_loop_12 : decode b_La_loop 12 = .ok (.astore_n 3, 1) := by decide +kernel
theorem d_La_loop_13 : decode b_La_loop 13 = .ok (.iconst 1, 1) := by decide +kernel
theorem d_La_loop_14 : decode b_La_loop 14 = .ok (.ireturn, 1) := by decide +kernel
theorem d_La_loop_15 : decode b_La_loop 15 = .ok (.iconst 0, 1) := by decide +kernel
theorem d_La_loop_16 : decode b_La_loop 16 = .ok (.ireturn, 1) := by decide +kernel
theorem d_La_never_0 : decode b_La_never 0 = .ok (.aload_n 2, 1) := by decide +kernel
theorem d_La_never_1 : decode b_La_never 1 = .ok (.iconst 0, 1) := by decide +kernel
theorem d_La_never_2 : decode b_La_never 2 = .ok (.aload_n 0, 1) := by decide +kernel
theorem d_La_never_3 : decode b_La_never 3 = .ok (.iload_n 1, 1) := by decide +kernel
theorem d_La_never_4 : decode b_La_never 4 = .ok (.invokevirtual 43, 3) := by decide +kernel
theorem d_La_never_7 : decode b_La_never 7 = .ok (.i2l, 1) := by decide +kernel
theorem d_La_never_8 : decode b_La_never 8 = .ok (.lastore, 1) := by decide +kernel
theorem d_La_never_9 : decode b_La_never 9 = .ok (.goto 6, 3) := by decide +kernel
theorem d_La_never_12 : decode b_La_never 12 = .ok (.astore_n 3, 1) := by decide +kernel
theorem d_La_never_13 : decode b_La_never 13 = .ok (.iconst 1, 1) := by decide +kernel
theorem d_La_never_14 : decode b_La_never 14 = .ok (.ireturn, 1) := by decide +kernel
theorem d_La_never_15 : decode b_La_never 15 = .ok (.iconst 0, 1) := by decide +kernel
theorem d_La_never_16 : decode b_La_never 16 = .ok (.ireturn, 1) := by decide +kernel
theorem d_La_endless_0 : decode b_La_endless 0 = .ok (.aload_n 2, 1) := by decide +kernel
theorem d_La_endless_1 : decode b_La_endless 1 = .ok (.iconst 0, 1) := by decide +kernel
theorem d_La_endless_2 : decode b_La_endless 2 = .ok (.aload_n 0, 1) := by decide +kernel
theorem d_La_endless_3 : decode b_La_endless 3 = .ok (.iload_n 1, 1) := by decide +kernel
theorem d_La_endless_4 : decode b_La_endless 4 = .ok (.invokevirtual 46, 3) := by decide +kernel
theorem d_La_endless_7 : decode b_La_endless 7 = .ok (.i2l, 1) := by decide +kernel
theorem d_La_endless_8 : decode b_La_endless 8 = .ok (.lastore, 1) := by decide +kernel
theorem d_La_endless_9 : decode b_La_endless 9 = .ok (.goto 6, 3) := by decide +kernel
theorem d_La_endless_12 : decode b_La_endless 12 = .ok (.astore_n 3, 1) := by decide +kernel
theorem d_La_endless_13 : decode b_La_endless 13 = .ok (.iconst 1, 1) := by decide +kernel
theorem d_La_endless_14 : decode b_La_endless 14 = .ok (.ireturn, 1) := by decide +kernel
theorem d_La_endless_15 : decode b_La_endless 15 = .ok (.iconst 0, 1) := by decide +kernel
theorem d_La_endless_16 : decode b_La_endless 16 = .ok (.ireturn, 1) := by decide +kernel
theorem d_La_word_0 : decode b_La_word 0 = .ok (.aload 4, 2) := by decide +kernel
theorem d_La_word_2 : decode b_La_word 2 = .ok (.iconst 0, 1) := by decide +kernel
theorem d_La_word_3 : decode b_La_word 3 = .ok (.aload_n 0, 1) := by decide +kernel
theorem d_La_word_4 : decode b_La_word 4 = .ok (.iload_n 1, 1) := by decide +kernel
theorem d_La_word_5 : decode b_La_word 5 = .ok (.iload_n 2, 1) := by decide +kernel
theorem d_La_word_6 : decode b_La_word 6 = .ok (.iload_n 3, 1) := by decide +kernel
theorem d_La_word_7 : decode b_La_word 7 = .ok (.invokevirtual 49, 3) := by decide +kernel
theorem d_La_word_10 : decode b_La_word 10 = .ok (.i2l, 1) := by decide +kernel
theorem d_La_word_11 : decode b_La_word 11 = .ok (.lastore, 1) := by decide +kernel
theorem d_La_word_12 : decode b_La_word 12 = .ok (.goto 7, 3) := by decide +kernel
theorem d_La_word_15 : decode b_La_word 15 = .ok (.astore 5, 2) := by decide +kernel
theorem d_La_word_17 : decode b_La_word 17 = .ok (.iconst 1, 1) := by decide +kernel
theorem d_La_word_18 : decode b_La_word 18 = .ok (.ireturn, 1) := by decide +kernel
theorem d_La_word_19 : decode b_La_word 19 = .ok (.iconst 0, 1) := by decide +kernel
theorem d_La_word_20 : decode b_La_word 20 = .ok (.ireturn, 1) := by decide +kernel
theorem d_La_law_0 : decode b_La_law 0 = .ok (.new 8, 3) := by decide +kernel
theorem d_La_law_3 : decode b_La_law 3 = .ok (.dup, 1) := by decide +kernel
theorem d_La_law_4 : decode b_La_law 4 = .ok (.invokespecial 53, 3) := by decide +kernel
theorem d_La_law_7 : decode b_La_law 7 = .ok (.astore_n 1, 1) := by decide +kernel
theorem d_La_law_8 : decode b_La_law 8 = .ok (.new 54, 3) := by decide +kernel
theorem d_La_law_11 : decode b_La_law 11 = .ok (.dup, 1) := by decide +kernel
theorem d_La_law_12 : decode b_La_law 12 = .ok (.invokespecial 56, 3) := by decide +kernel
theorem d_La_law_15 : decode b_La_law 15 = .ok (.astore_n 2, 1) := by decide +kernel
theorem d_La_law_16 : decode b_La_law 16 = .ok (.iconst 1, 1) := by decide +kernel
theorem d_La_law_17 : decode b_La_law 17 = .ok (.newarray .long, 2) := by decide +kernel
theorem d_La_law_19 : decode b_La_law 19 = .ok (.astore_n 3, 1) := by decide +kernel
theorem d_La_law_20 : decode b_La_law 20 = .ok (.iconst 0, 1) := by decide +kernel
theorem d_La_law_21 : decode b_La_law 21 = .ok (.istore 4, 2) := by decide +kernel
theorem d_La_law_23 : decode b_La_law 23 = .ok (.iload 4, 2) := by decide +kernel
theorem d_La_law_25 : decode b_La_law 25 = .ok (.aload_n 0, 1) := by decide +kernel
theorem d_La_law_26 : decode b_La_law 26 = .ok (.arraylength, 1) := by decide +kernel
theorem d_La_law_27 : decode b_La_law 27 = .ok (.iconst 4, 1) := by decide +kernel
theorem d_La_law_28 : decode b_La_law 28 = .ok (.isub, 1) := by decide +kernel
theorem d_La_law_29 : decode b_La_law 29 = .ok (.if_icmp .gt 507, 3) := by decide +kernel
theorem d_La_law_32 : decode b_La_law 32 = .ok (.aload_n 0, 1) := by decide +kernel
theorem d_La_law_33 : decode b_La_law 33 = .ok (.iload 4, 2) := by decide +kernel
theorem d_La_law_35 : decode b_La_law 35 = .ok (.iaload, 1) := by decide +kernel
theorem d_La_law_36 : decode b_La_law 36 = .ok (.bipush 15, 2) := by decide +kernel
theorem d_La_law_38 : decode b_La_law 38 = .ok (.iand, 1) := by decide +kernel
theorem d_La_law_39 : decode b_La_law 39 = .ok (.tableswitch 491 0 13 #[69, 141, 157, 170, 198, 226, 254, 267, 283, 299, 327, 383, 411, 439], 69) := by decide +kernel
theorem d_La_law_108 : decode b_La_law 108 = .ok (.aload_n 1, 1) := by decide +kernel
theorem d_La_law_109 : decode b_La_law 109 = .ok (.aload_n 0, 1) := by decide +kernel
theorem d_La_law_110 : decode b_La_law 110 = .ok (.iload 4, 2) := by decide +kernel
theorem d_La_law_112 : decode b_La_law 112 = .ok (.iconst 1, 1) := by decide +kernel
theorem d_La_law_113 : decode b_La_law 113 = .ok (.iadd, 1) := by decide +kernel
theorem d_La_law_114 : decode b_La_law 114 = .ok (.iaload, 1) := by decide +kernel
theorem d_La_law_115 : decode b_La_law 115 = .ok (.i2l, 1) := by decide +kernel
theorem d_La_law_116 : decode b_La_law 116 = .ok (.bipush 32, 2) := by decide +kernel
theorem d_La_law_118 : decode b_La_law 118 = .ok (.lshl, 1) := by decide +kernel
theorem d_La_law_119 : decode b_La_law 119 = .ok (.aload_n 0, 1) := by decide +kernel
theorem d_La_law_120 : decode b_La_law 120 = .ok (.iload 4, 2) := by decide +kernel
theorem d_La_law_122 : decode b_La_law 122 = .ok (.iconst 2, 1) := by decide +kernel
theorem d_La_law_123 : decode b_La_law 123 = .ok (.iadd, 1) := by decide +kernel
theorem d_La_law_124 : decode b_La_law 124 = .ok (.iaload, 1) := by decide +kernel
theorem d_La_law_125 : decode b_La_law 125 = .ok (.i2l, 1) := by decide +kernel
theorem d_La_law_126 : decode b_La_law 126 = .ok (.ldc2_w 57, 3) := by decide +kernel
theorem d_La_law_129 : decode b_La_law 129 = .ok (.land, 1) := by decide +kernel
theorem d_La_law_130 : decode b_La_law 130 = .ok (.lor, 1) := by decide +kernel
theorem d_La_law_131 : decode b_La_law 131 = .ok (.aload_n 0, 1) := by decide +kernel
theorem d_La_law_132 : decode b_La_law 132 = .ok (.iload 4, 2) := by decide +kernel
theorem d_La_law_134 : decode b_La_law 134 = .ok (.iconst 3, 1) := by decide +kernel
theorem d_La_law_135 : decode b_La_law 135 = .ok (.iadd, 1) := by decide +kernel
theorem d_La_law_136 : decode b_La_law 136 = .ok (.iaload, 1) := by decide +kernel
theorem d_La_law_137 : decode b_La_law 137 = .ok (.aload_n 3, 1) := by decide +kernel
theorem d_La_law_138 : decode b_La_law 138 = .ok (.invokestatic 59, 3) := by decide +kernel
theorem d_La_law_141 : decode b_La_law 141 = .ok (.istore 5, 2) := by decide +kernel
theorem d_La_law_143 : decode b_La_law 143 = .ok (.aload_n 2, 1) := by decide +kernel
theorem d_La_law_144 : decode b_La_law 144 = .ok (.aload_n 0, 1) := by decide +kernel
theorem d_La_law_145 : decode b_La_law 145 = .ok (.iload 4, 2) := by decide +kernel
theorem d_La_law_147 : decode b_La_law 147 = .ok (.iconst 1, 1) := by decide +kernel
theorem d_La_law_148 : decode b_La_law 148 = .ok (.iadd, 1) := by decide +kernel
theorem d_La_law_149 : decode b_La_law 149 = .ok (.iaload, 1) := by decide +kernel
theorem d_La_law_150 : decode b_La_law 150 = .ok (.i2l, 1) := by decide +kernel
theorem d_La_law_151 : decode b_La_law 151 = .ok (.bipush 32, 2) := by decide +kernel
theorem d_La_law_153 : decode b_La_law 153 = .ok (.lshl, 1) := by decide +kernel
theorem d_La_law_154 : decode b_La_law 154 = .ok (.aload_n 0, 1) := by decide +kernel
theorem d_La_law_155 : decode b_La_law 155 = .ok (.iload 4, 2) := by decide +kernel
theorem d_La_law_157 : decode b_La_law 157 = .ok (.iconst 2, 1) := by decide +kernel
theorem d_La_law_158 : decode b_La_law 158 = .ok (.iadd, 1) := by decide +kernel
theorem d_La_law_159 : decode b_La_law 159 = .ok (.iaload, 1) := by decide +kernel
theorem d_La_law_160 : decode b_La_law 160 = .ok (.i2l, 1) := by decide +kernel
theorem d_La_law_161 : decode b_La_law 161 = .ok (.ldc2_w 57, 3) := by decide +kernel
theorem d_La_law_164 : decode b_La_law 164 = .ok (.land, 1) := by decide +kernel
theorem d_La_law_165 : decode b_La_law 165 = .ok (.lor, 1) := by decide +kernel
theorem d_La_law_166 : decode b_La_law 166 = .ok (.aload_n 0, 1) := by decide +kernel
theorem d_La_law_167 : decode b_La_law 167 = .ok (.iload 4, 2) := by decide +kernel
theorem d_La_law_169 : decode b_La_law 169 = .ok (.iconst 3, 1) := by decide +kernel
theorem d_La_law_170 : decode b_La_law 170 = .ok (.iadd, 1) := by decide +kernel
theorem d_La_law_171 : decode b_La_law 171 = .ok (.iaload, 1) := by decide +kernel
theorem d_La_law_172 : decode b_La_law 172 = .ok (.invokevirtual 64, 3) := by decide +kernel
theorem d_La_law_175 : decode b_La_law 175 = .ok (.istore 6, 2) := by decide +kernel
theorem d_La_law_177 : decode b_La_law 177 = .ok (.goto 353, 3) := by decide +kernel
theorem d_La_law_180 : decode b_La_law 180 = .ok (.aload_n 1, 1) := by decide +kernel
theorem d_La_law_181 : decode b_La_law 181 = .ok (.aload_n 3, 1) := by decide +kernel
theorem d_La_law_182 : decode b_La_law 182 = .ok (.invokestatic 65, 3) := by decide +kernel
theorem d_La_law_185 : decode b_La_law 185 = .ok (.istore 5, 2) := by decide +kernel
theorem d_La_law_187 : decode b_La_law 187 = .ok (.aload_n 2, 1) := by decide +kernel
theorem d_La_law_188 : decode b_La_law 188 = .ok (.invokevirtual 68, 3) := by decide +kernel
theorem d_La_law_191 : decode b_La_law 191 = .ok (.istore 6, 2) := by decide +kernel
theorem d_La_law_193 : decode b_La_law 193 = .ok (.goto 337, 3) := by decide +kernel
theorem d_La_law_196 : decode b_La_law 196 = .ok (.aload_n 1, 1) := by decide +kernel
theorem d_La_law_197 : decode b_La_law 197 = .ok (.invokevirtual 69, 3) := by decide +kernel
theorem d_La_law_200 : decode b_La_law 200 = .ok (.pop, 1) := by decide +kernel
theorem d_La_law_201 : decode b_La_law 201 = .ok (.aload_n 2, 1) := by decide +kernel
theorem d_La_law_202 : decode b_La_law 202 = .ok (.invokevirtual 72, 3) := by decide +kernel
theorem d_La_law_205 : decode b_La_law 205 = .ok (.pop, 1) := by decide +kernel
theorem d_La_law_206 : decode b_La_law 206 = .ok (.goto 324, 3) := by decide +kernel
theorem d_La_law_209 : decode b_La_law 209 = .ok (.aload_n 1, 1) := by decide +kernel
theorem d_La_law_210 : decode b_La_law 210 = .ok (.aload_n 0, 1) := by decide +kernel
theorem d_La_law_211 : decode b_La_law 211 = .ok (.iload 4, 2) := by decide +kernel
theorem d_La_law_213 : decode b_La_law 213 = .ok (.iconst 1, 1) := by decide +kernel
theorem d_La_law_214 : decode b_La_law 214 = .ok (.iadd, 1) := by decide +kernel
theorem d_La_law_215 : decode b_La_law 215 = .ok (.iaload, 1) := by decide +kernel
theorem d_La_law_216 : decode b_La_law 216 = .ok (.aload_n 3, 1) := by decide +kernel
theorem d_La_law_217 : decode b_La_law 217 = .ok (.invokestatic 73, 3) := by decide +kernel
theorem d_La_law_220 : decode b_La_law 220 = .ok (.istore 5, 2) := by decide +kernel
theorem d_La_law_222 : decode b_La_law 222 = .ok (.aload_n 2, 1) := by decide +kernel
theorem d_La_law_223 : decode b_La_law 223 = .ok (.aload_n 0, 1) := by decide +kernel
theorem d_La_law_224 : decode b_La_law 224 = .ok (.iload 4, 2) := by decide +kernel
theorem d_La_law_226 : decode b_La_law 226 = .ok (.iconst 1, 1) := by decide +kernel
theorem d_La_law_227 : decode b_La_law 227 = .ok (.iadd, 1) := by decide +kernel
theorem d_La_law_228 : decode b_La_law 228 = .ok (.iaload, 1) := by decide +kernel
theorem d_La_law_229 : decode b_La_law 229 = .ok (.invokevirtual 76, 3) := by decide +kernel
theorem d_La_law_232 : decode b_La_law 232 = .ok (.istore 6, 2) := by decide +kernel
theorem d_La_law_234 : decode b_La_law 234 = .ok (.goto 296, 3) := by decide +kernel
theorem d_La_law_237 : decode b_La_law 237 = .ok (.aload_n 1, 1) := by decide +kernel
theorem d_La_law_238 : decode b_La_law 238 = .ok (.aload_n 0, 1) := by decide +kernel
theorem d_La_law_239 : decode b_La_law 239 = .ok (.iload 4, 2) := by decide +kernel
theorem d_La_law_241 : decode b_La_law 241 = .ok (.iconst 1, 1) := by decide +kernel
theorem d_La_law_242 : decode b_La_law 242 = .ok (.iadd, 1) := by decide +kernel
theorem d_La_law_243 : decode b_La_law 243 = .ok (.iaload, 1) := by decide +kernel
theorem d_La_law_244 : decode b_La_law 244 = .ok (.aload_n 3, 1) := by decide +kernel
theorem d_La_law_245 : decode b_La_law 245 = .ok (.invokestatic 77, 3) := by decide +kernel
theorem d_La_law_248 : decode b_La_law 248 = .ok (.istore 5, 2) := by decide +kernel
theorem d_La_law_250 : decode b_La_law 250 = .ok (.aload_n 2, 1) := by decide +kernel
theorem d_La_law_251 : decode b_La_law 251 = .ok (.aload_n 0, 1) := by decide +kernel
theorem d_La_law_252 : decode b_La_law 252 = .ok (.iload 4, 2) := by decide +kernel
theorem d_La_law_254 : decode b_La_law 254 = .ok (.iconst 1, 1) := by decide +kernel
theorem d_La_law_255 : decode b_La_law 255 = .ok (.iadd, 1) := by decide +kernel
theorem d_La_law_256 : decode b_La_law 256 = .ok (.iaload, 1) := by decide +kernel
theorem d_La_law_257 : decode b_La_law 257 = .ok (.invokevirtual 79, 3) := by decide +kernel
theorem d_La_law_260 : decode b_La_law 260 = .ok (.istore 6, 2) := by decide +kernel
theorem d_La_law_262 : decode b_La_law 262 = .ok (.goto 268, 3) := by decide +kernel
theorem d_La_law_265 : decode b_La_law 265 = .ok (.aload_n 1, 1) := by decide +kernel
theorem d_La_law_266 : decode b_La_law 266 = .ok (.aload_n 0, 1) := by decide +kernel
theorem d_La_law_267 : decode b_La_law 267 = .ok (.iload 4, 2) := by decide +kernel
theorem d_La_law_269 : decode b_La_law 269 = .ok (.iconst 1, 1) := by decide +kernel
theorem d_La_law_270 : decode b_La_law 270 = .ok (.iadd, 1) := by decide +kernel
theorem d_La_law_271 : decode b_La_law 271 = .ok (.iaload, 1) := by decide +kernel
theorem d_La_law_272 : decode b_La_law 272 = .ok (.aload_n 3, 1) := by decide +kernel
theorem d_La_law_273 : decode b_La_law 273 = .ok (.invokestatic 80, 3) := by decide +kernel
theorem d_La_law_276 : decode b_La_law 276 = .ok (.istore 5, 2) := by decide +kernel
theorem d_La_law_278 : decode b_La_law 278 = .ok (.aload_n 2, 1) := by decide +kernel
theorem d_La_law_279 : decode b_La_law 279 = .ok (.aload_n 0, 1) := by decide +kernel
theorem d_La_law_280 : decode b_La_law 280 = .ok (.iload 4, 2) := by decide +kernel
theorem d_La_law_282 : decode b_La_law 282 = .ok (.iconst 1, 1) := by decide +kernel
theorem d_La_law_283 : decode b_La_law 283 = .ok (.iadd, 1) := by decide +kernel
theorem d_La_law_284 : decode b_La_law 284 = .ok (.iaload, 1) := by decide +kernel
theorem d_La_law_285 : decode b_La_law 285 = .ok (.invokevirtual 82, 3) := by decide +kernel
theorem d_La_law_288 : decode b_La_law 288 = .ok (.istore 6, 2) := by decide +kernel
theorem d_La_law_290 : decode b_La_law 290 = .ok (.goto 240, 3) := by decide +kernel
theorem d_La_law_293 : decode b_La_law 293 = .ok (.aload_n 1, 1) := by decide +kernel
theorem d_La_law_294 : decode b_La_law 294 = .ok (.invokevirtual 83, 3) := by decide +kernel
theorem d_La_law_297 : decode b_La_law 297 = .ok (.pop, 1) := by decide +kernel
theorem d_La_law_298 : decode b_La_law 298 = .ok (.aload_n 2, 1) := by decide +kernel
theorem d_La_law_299 : decode b_La_law 299 = .ok (.invokevirtual 86, 3) := by decide +kernel
theorem d_La_law_302 : decode b_La_law 302 = .ok (.pop, 1) := by decide +kernel
theorem d_La_law_303 : decode b_La_law 303 = .ok (.goto 227, 3) := by decide +kernel
theorem d_La_law_306 : decode b_La_law 306 = .ok (.aload_n 1, 1) := by decide +kernel
theorem d_La_law_307 : decode b_La_law 307 = .ok (.aload_n 3, 1) := by decide +kernel
theorem d_La_law_308 : decode b_La_law 308 = .ok (.invokestatic 87, 3) := by decide +kernel
theorem d_La_law_311 : decode b_La_law 311 = .ok (.istore 5, 2) := by decide +kernel
theorem d_La_law_313 : decode b_La_law 313 = .ok (.aload_n 2, 1) := by decide +kernel
theorem d_La_law_314 : decode b_La_law 314 = .ok (.invokevirtual 89, 3) := by decide +kernel
theorem d_La_law_317 : decode b_La_law 317 = .ok (.istore 6, 2) := by decide +kernel
theorem d_La_law_319 : decode b_La_law 319 = .ok (.goto 211, 3) := by decide +kernel
theorem d_La_law_322 : decode b_La_law 322 = .ok (.aload_n 1, 1) := by decide +kernel
theorem d_La_law_323 : decode b_La_law 323 = .ok (.aload_n 3, 1) := by decide +kernel
theorem d_La_law_324 : decode b_La_law 324 = .ok (.invokestatic 90, 3) := by decide +kernel
theorem d_La_law_327 : decode b_La_law 327 = .ok (.istore 5, 2) := by decide +kernel
theorem d_La_law_329 : decode b_La_law 329 = .ok (.aload_n 2, 1) := by decide +kernel
theorem d_La_law_330 : decode b_La_law 330 = .ok (.invokevirtual 92, 3) := by decide +kernel
theorem d_La_law_333 : decode b_La_law 333 = .ok (.istore 6, 2) := by decide +kernel
theorem d_La_law_335 : decode b_La_law 335 = .ok (.goto 195, 3) := by decide +kernel
theorem d_La_law_338 : decode b_La_law 338 = .ok (.aload_n 1, 1) := by decide +kernel
theorem d_La_law_339 : decode b_La_law 339 = .ok (.aload_n 0, 1) := by decide +kernel
theorem d_La_law_340 : decode b_La_law 340 = .ok (.iload 4, 2) := by decide +kernel
theorem d_La_law_342 : decode b_La_law 342 = .ok (.iconst 1, 1) := by decide +kernel
theorem d_La_law_343 : decode b_La_law 343 = .ok (.iadd, 1) := by decide +kernel
theorem d_La_law_344 : decode b_La_law 344 = .ok (.iaload, 1) := by decide +kernel
theorem d_La_law_345 : decode b_La_law 345 = .ok (.aload_n 3, 1) := by decide +kernel
theorem d_La_law_346 : decode b_La_law 346 = .ok (.invokestatic 93, 3) := by decide +kernel
theorem d_La_law_349 : decode b_La_law 349 = .ok (.istore 5, 2) := by decide +kernel
theorem d_La_law_351 : decode b_La_law 351 = .ok (.aload_n 2, 1) := by decide +kernel
theorem d_La_law_352 : decode b_La_law 352 = .ok (.aload_n 0, 1) := by decide +kernel
theorem d_La_law_353 : decode b_La_law 353 = .ok (.iload 4, 2) := by decide +kernel
theorem d_La_law_355 : decode b_La_law 355 = .ok (.iconst 1, 1) := by decide +kernel
theorem d_La_law_356 : decode b_La_law 356 = .ok (.iadd, 1) := by decide +kernel
theorem d_La_law_357 : decode b_La_law 357 = .ok (.iaload, 1) := by decide +kernel
theorem d_La_law_358 : decode b_La_law 358 = .ok (.invokevirtual 95, 3) := by decide +kernel
theorem d_La_law_361 : decode b_La_law 361 = .ok (.istore 6, 2) := by decide +kernel
theorem d_La_law_363 : decode b_La_law 363 = .ok (.goto 167, 3) := by decide +kernel
theorem d_La_law_366 : decode b_La_law 366 = .ok (.aload_n 1, 1) := by decide +kernel
theorem d_La_law_367 : decode b_La_law 367 = .ok (.aload_n 0, 1) := by decide +kernel
theorem d_La_law_368 : decode b_La_law 368 = .ok (.iload 4, 2) := by decide +kernel
theorem d_La_law_370 : decode b_La_law 370 = .ok (.iconst 1, 1) := by decide +kernel
theorem d_La_law_371 : decode b_La_law 371 = .ok (.iadd, 1) := by decide +kernel
theorem d_La_law_372 : decode b_La_law 372 = .ok (.iaload, 1) := by decide +kernel
theorem d_La_law_373 : decode b_La_law 373 = .ok (.aload_n 3, 1) := by decide +kernel
theorem d_La_law_374 : decode b_La_law 374 = .ok (.invokestatic 96, 3) := by decide +kernel
theorem d_La_law_377 : decode b_La_law 377 = .ok (.istore 5, 2) := by decide +kernel
theorem d_La_law_379 : decode b_La_law 379 = .ok (.aload_n 2, 1) := by decide +kernel
theorem d_La_law_380 : decode b_La_law 380 = .ok (.aload_n 0, 1) := by decide +kernel
theorem d_La_law_381 : decode b_La_law 381 = .ok (.iload 4, 2) := by decide +kernel
theorem d_La_law_383 : decode b_La_law 383 = .ok (.iconst 1, 1) := by decide +kernel
theorem d_La_law_384 : decode b_La_law 384 = .ok (.iadd, 1) := by decide +kernel
theorem d_La_law_385 : decode b_La_law 385 = .ok (.iaload, 1) := by decide +kernel
theorem d_La_law_386 : decode b_La_law 386 = .ok (.invokevirtual 98, 3) := by decide +kernel
theorem d_La_law_389 : decode b_La_law 389 = .ok (.istore 6, 2) := by decide +kernel
theorem d_La_law_391 : decode b_La_law 391 = .ok (.aload_n 2, 1) := by decide +kernel
theorem d_La_law_392 : decode b_La_law 392 = .ok (.invokevirtual 99, 3) := by decide +kernel
theorem d_La_law_395 : decode b_La_law 395 = .ok (.iload 5, 2) := by decide +kernel
theorem d_La_law_397 : decode b_La_law 397 = .ok (.if_icmp .eq 5, 3) := by decide +kernel
theorem d_La_law_400 : decode b_La_law 400 = .ok (.iconst 0, 1) := by decide +kernel
theorem d_La_law_401 : decode b_La_law 401 = .ok (.ireturn, 1) := by decide +kernel
theorem d_La_law_402 : decode b_La_law 402 = .ok (.iload 5, 2) := by decide +kernel
theorem d_La_law_404 : decode b_La_law 404 = .ok (.ifCond .ne 15, 3) := by decide +kernel
theorem d_La_law_407 : decode b_La_law 407 = .ok (.aload_n 3, 1) := by decide +kernel
theorem d_La_law_408 : decode b_La_law 408 = .ok (.iconst 0, 1) := by decide +kernel
theorem d_La_law_409 : decode b_La_law 409 = .ok (.laload, 1) := by decide +kernel
theorem d_La_law_410 : decode b_La_law 410 = .ok (.iload 6, 2) := by decide +kernel
theorem d_La_law_412 : decode b_La_law 412 = .ok (.i2l, 1) := by decide +kernel
theorem d_La_law_413 : decode b_La_law 413 = .ok (.lcmp, 1) := by decide +kernel
theorem d_La_law_414 : decode b_La_law 414 = .ok (.ifCond .eq 5, 3) := by decide +kernel
theorem d_La_law_417 : decode b_La_law 417 = .ok (.iconst 0, 1) := by decide +kernel
theorem d_La_law_418 : decode b_La_law 418 = .ok (.ireturn, 1) := by decide +kernel
theorem d_La_law_419 : decode b_La_law 419 = .ok (.goto 111, 3) := by decide +kernel
theorem d_La_law_422 : decode b_La_law 422 = .ok (.aload_n 1, 1) := by decide +kernel
theorem d_La_law_423 : decode b_La_law 423 = .ok (.aload_n 0, 1) := by decide +kernel
theorem d_La_law_424 : decode b_La_law 424 = .ok (.iload 4, 2) := by decide +kernel
theorem d_La_law_426 : decode b_La_law 426 = .ok (.iconst 1, 1) := by decide +kernel
theorem d_La_law_427 : decode b_La_law 427 = .ok (.iadd, 1) := by decide +kernel
theorem d_La_law_428 : decode b_La_law 428 = .ok (.iaload, 1) := by decide +kernel
theorem d_La_law_429 : decode b_La_law 429 = .ok (.aload_n 3, 1) := by decide +kernel
theorem d_La_law_430 : decode b_La_law 430 = .ok (.invokestatic 102, 3) := by decide +kernel
theorem d_La_law_433 : decode b_La_law 433 = .ok (.istore 5, 2) := by decide +kernel
theorem d_La_law_435 : decode b_La_law 435 = .ok (.aload_n 2, 1) := by decide +kernel
theorem d_La_law_436 : decode b_La_law 436 = .ok (.aload_n 0, 1) := by decide +kernel
theorem d_La_law_437 : decode b_La_law 437 = .ok (.iload 4, 2) := by decide +kernel
theorem d_La_law_439 : decode b_La_law 439 = .ok (.iconst 1, 1) := by decide +kernel
theorem d_La_law_440 : decode b_La_law 440 = .ok (.iadd, 1) := by decide +kernel
theorem d_La_law_441 : decode b_La_law 441 = .ok (.iaload, 1) := by decide +kernel
theorem d_La_law_442 : decode b_La_law 442 = .ok (.invokevirtual 104, 3) := by decide +kernel
theorem d_La_law_445 : decode b_La_law 445 = .ok (.istore 6, 2) := by decide +kernel
theorem d_La_law_447 : decode b_La_law 447 = .ok (.goto 83, 3) := by decide +kernel
theorem d_La_law_450 : decode b_La_law 450 = .ok (.aload_n 1, 1) := by decide +kernel
theorem d_La_law_451 : decode b_La_law 451 = .ok (.aload_n 0, 1) := by decide +kernel
theorem d_La_law_452 : decode b_La_law 452 = .ok (.iload 4, 2) := by decide +kernel
theorem d_La_law_454 : decode b_La_law 454 = .ok (.iconst 1, 1) := by decide +kernel
theorem d_La_law_455 : decode b_La_law 455 = .ok (.iadd, 1) := by decide +kernel
theorem d_La_law_456 : decode b_La_law 456 = .ok (.iaload, 1) := by decide +kernel
theorem d_La_law_457 : decode b_La_law 457 = .ok (.aload_n 3, 1) := by decide +kernel
theorem d_La_law_458 : decode b_La_law 458 = .ok (.invokestatic 105, 3) := by decide +kernel
theorem d_La_law_461 : decode b_La_law 461 = .ok (.istore 5, 2) := by decide +kernel
theorem d_La_law_463 : decode b_La_law 463 = .ok (.aload_n 2, 1) := by decide +kernel
theorem d_La_law_464 : decode b_La_law 464 = .ok (.aload_n 0, 1) := by decide +kernel
theorem d_La_law_465 : decode b_La_law 465 = .ok (.iload 4, 2) := by decide +kernel
theorem d_La_law_467 : decode b_La_law 467 = .ok (.iconst 1, 1) := by decide +kernel
theorem d_La_law_468 : decode b_La_law 468 = .ok (.iadd, 1) := by decide +kernel
theorem d_La_law_469 : decode b_La_law 469 = .ok (.iaload, 1) := by decide +kernel
theorem d_La_law_470 : decode b_La_law 470 = .ok (.invokevirtual 107, 3) := by decide +kernel
theorem d_La_law_473 : decode b_La_law 473 = .ok (.istore 6, 2) := by decide +kernel
theorem d_La_law_475 : decode b_La_law 475 = .ok (.goto 55, 3) := by decide +kernel
theorem d_La_law_478 : decode b_La_law 478 = .ok (.aload_n 1, 1) := by decide +kernel
theorem d_La_law_479 : decode b_La_law 479 = .ok (.aload_n 0, 1) := by decide +kernel
theorem d_La_law_480 : decode b_La_law 480 = .ok (.iload 4, 2) := by decide +kernel
theorem d_La_law_482 : decode b_La_law 482 = .ok (.iconst 1, 1) := by decide +kernel
theorem d_La_law_483 : decode b_La_law 483 = .ok (.iadd, 1) := by decide +kernel
theorem d_La_law_484 : decode b_La_law 484 = .ok (.iaload, 1) := by decide +kernel
theorem d_La_law_485 : decode b_La_law 485 = .ok (.aload_n 0, 1) := by decide +kernel
theorem d_La_law_486 : decode b_La_law 486 = .ok (.iload 4, 2) := by decide +kernel
theorem d_La_law_488 : decode b_La_law 488 = .ok (.iconst 2, 1) := by decide +kernel
theorem d_La_law_489 : decode b_La_law 489 = .ok (.iadd, 1) := by decide +kernel
theorem d_La_law_490 : decode b_La_law 490 = .ok (.iaload, 1) := by decide +kernel
theorem d_La_law_491 : decode b_La_law 491 = .ok (.aload_n 0, 1) := by decide +kernel
theorem d_La_law_492 : decode b_La_law 492 = .ok (.iload 4, 2) := by decide +kernel
theorem d_La_law_494 : decode b_La_law 494 = .ok (.iconst 3, 1) := by decide +kernel
theorem d_La_law_495 : decode b_La_law 495 = .ok (.iadd, 1) := by decide +kernel
theorem d_La_law_496 : decode b_La_law 496 = .ok (.iaload, 1) := by decide +kernel
theorem d_La_law_497 : decode b_La_law 497 = .ok (.aload_n 3, 1) := by decide +kernel
theorem d_La_law_498 : decode b_La_law 498 = .ok (.invokestatic 108, 3) := by decide +kernel
theorem d_La_law_501 : decode b_La_law 501 = .ok (.istore 5, 2) := by decide +kernel
theorem d_La_law_503 : decode b_La_law 503 = .ok (.aload_n 2, 1) := by decide +kernel
theorem d_La_law_504 : decode b_La_law 504 = .ok (.aload_n 0, 1) := by decide +kernel
theorem d_La_law_505 : decode b_La_law 505 = .ok (.iload 4, 2) := by decide +kernel
theorem d_La_law_507 : decode b_La_law 507 = .ok (.iconst 1, 1) := by decide +kernel
theorem d_La_law_508 : decode b_La_law 508 = .ok (.iadd, 1) := by decide +kernel
theorem d_La_law_509 : decode b_La_law 509 = .ok (.iaload, 1) := by decide +kernel
theorem d_La_law_510 : decode b_La_law 510 = .ok (.aload_n 0, 1) := by decide +kernel
theorem d_La_law_511 : decode b_La_law 511 = .ok (.iload 4, 2) := by decide +kernel
theorem d_La_law_513 : decode b_La_law 513 = .ok (.iconst 2, 1) := by decide +kernel
theorem d_La_law_514 : decode b_La_law 514 = .ok (.iadd, 1) := by decide +kernel
theorem d_La_law_515 : decode b_La_law 515 = .ok (.iaload, 1) := by decide +kernel
theorem d_La_law_516 : decode b_La_law 516 = .ok (.aload_n 0, 1) := by decide +kernel
theorem d_La_law_517 : decode b_La_law 517 = .ok (.iload 4, 2) := by decide +kernel
theorem d_La_law_519 : decode b_La_law 519 = .ok (.iconst 3, 1) := by decide +kernel
theorem d_La_law_520 : decode b_La_law 520 = .ok (.iadd, 1) := by decide +kernel
theorem d_La_law_521 : decode b_La_law 521 = .ok (.iaload, 1) := by decide +kernel
theorem d_La_law_522 : decode b_La_law 522 = .ok (.invokevirtual 111, 3) := by decide +kernel
theorem d_La_law_525 : decode b_La_law 525 = .ok (.istore 6, 2) := by decide +kernel
theorem d_La_law_527 : decode b_La_law 527 = .ok (.goto 3, 3) := by decide +kernel
theorem d_La_law_530 : decode b_La_law 530 = .ok (.iinc 4 4, 3) := by decide +kernel
theorem d_La_law_533 : decode b_La_law 533 = .ok (.goto (-510), 3) := by decide +kernel
theorem d_La_law_536 : decode b_La_law 536 = .ok (.iconst 1, 1) := by decide +kernel
theorem d_La_law_537 : decode b_La_law 537 = .ok (.ireturn, 1) := by decide +kernel
