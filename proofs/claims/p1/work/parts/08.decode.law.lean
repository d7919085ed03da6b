abbrev b_La_law : ByteArray := code
-- decode rows (printed by wip/whole/names.py)
theorem d_La_sign_0 : decode b_La_sign 0 = .ok (.aload 4, 2) := by decide +kernel
theorem d_La_sign_2 : decode b_La_sign 2 = .ok (.iconst 0, 1) := by decide +kernel
theorem d_La_sign_3 : decode b_La_sign 3 = .ok (.aload_n 0, 1) := by decide +kernel
theorem d_La_sign_4 : decode b_La_sign 4 = .ok (.lload_n 1, 1) := by decide +kernel
theorem d_La_sign_5 : decode b_La_sign 5 = .ok (.iload_n 3, 1) := by decide +kernel
theorem d_La_sign_6 : decode b_La_sign 6 = .ok (.invokevirtual 7, 3) := by decide +kernel
theorem d_La_sign_9 : decode b_La_sign 9 = .ok (.i2l, 1) := by decide +kernel
theorem d_La_sign_10 : decode b_La_sign 10 = .ok (.lastore, 1) := by decide +kernel
theorem d_La_sign_11 : decode b_La_sign 11 = .ok (.goto 11, 3) := by decide +kernel
theorem d_La_sign_14 : decode b_La_sign 14 = .ok (.astore 5, 2) := by decide +kernel
theorem d_La_sign_16 : decode b_La_sign 16 = .ok (.iconst 1, 1) := by decide +kernel
theorem d_La_sign_17 : decode b_La_sign 17 = .ok (.ireturn, 1) := by decide +kernel
theorem d_La_sign_18 : decode b_La_sign 18 = .ok (.astore 5, 2) := by decide +kernel
theorem d_La_sign_20 : decode b_La_sign 20 = .ok (.iconst 2, 1) := by decide +kernel
theorem d_La_sign_21 : decode b_La_sign 21 = .ok (.ireturn, 1) := by decide +kernel
theorem d_La_sign_22 : decode b_La_sign 22 = .ok (.iconst 0, 1) := by decide +kernel
theorem d_La_sign_23 : decode b_La_sign 23 = .ok (.ireturn, 1) := by decide +kernel
theorem d_La_read_0 : decode b_La_read 0 = .ok (.aload_n 1, 1) := by decide +kernel
theorem d_La_read_1 : decode b_La_read 1 = .ok (.iconst 0, 1) := by decide +kernel
theorem d_La_read_2 : decode b_La_read 2 = .ok (.aload_n 0, 1) := by decide +kernel
theorem d_La_read_3 : decode b_La_read 3 = .ok (.invokevirtual 17, 3) := by decide +kernel
theorem d_La_read_6 : decode b_La_read 6 = .ok (.i2l, 1) := by decide +kernel
theorem d_La_read_7 : decode b_La_read 7 = .ok (.lastore, 1) := by decide +kernel
theorem d_La_read_8 : decode b_La_read 8 = .ok (.goto 9, 3) := by decide +kernel
theorem d_La_read_11 : decode b_La_read 11 = .ok (.astore_n 2, 1) := by decide +kernel
theorem d_La_read_12 : decode b_La_read 12 = .ok (.iconst 1, 1) := by decide +kernel
theorem d_La_read_13 : decode b_La_read 13 = .ok (.ireturn, 1) := by decide +kernel
theorem d_La_read_14 : decode b_La_read 14 = .ok (.astore_n 2, 1) := by decide +kernel
theorem d_La_read_15 : decode b_La_read 15 = .ok (.iconst 2, 1) := by decide +kernel
theorem d_La_read_16 : decode b_La_read 16 = .ok (.ireturn, 1) := by decide +kernel
theorem d_La_read_17 : decode b_La_read 17 = .ok (.iconst 0, 1) := by decide +kernel
theorem d_La_read_18 : decode b_La_read 18 = .ok (.ireturn, 1) := by decide +kernel
theorem d_La_edition_0 : decode b_La_edition 0 = .ok (.aload_n 2, 1) := by decide +kernel
theorem d_La_edition_1 : decode b_La_edition 1 = .ok (.iconst 0, 1) := by decide +kernel
theorem d_La_edition_2 : decode b_La_edition 2 = .ok (.aload_n 0, 1) := by decide +kernel
theorem d_La_edition_3 : decode b_La_edition 3 = .ok (.iload_n 1, 1) := by decide +kernel
theorem d_La_edition_4 : decode b_La_edition 4 = .ok (.invokevirtual 21, 3) := by decide +kernel
theorem d_La_edition_7 : decode b_La_edition 7 = .ok (.i2l, 1) := by decide +kernel
theorem d_La_edition_8 : decode b_La_edition 8 = .ok (.lastore, 1) := by decide +kernel
theorem d_La_edition_9 : decode b_La_edition 9 = .ok (.goto 6, 3) := by decide +kernel
theorem d_La_edition_12 : decode b_La_edition 12 = .ok (.astore_n 3, 1) := by decide +kernel
theorem d_La_edition_13 : decode b_La_edition 13 = .ok (.iconst 1, 1) := by decide +kernel
theorem d_La_edition_14 : decode b_La_edition 14 = .ok (.ireturn, 1) := by decide +kernel
theorem d_La_edition_15 : decode b_La_edition 15 = .ok (.iconst 0, 1) := by decide +kernel
theorem d_La_edition_16 : decode b_La_edition 16 = .ok (.ireturn, 1) := by decide +kernel
theorem d_La_first_0 : decode b_La_first 0 = .ok (.aload_n 2, 1) := by decide +kernel
theorem d_La_first_1 : decode b_La_first 1 = .ok (.iconst 0, 1) := by decide +kernel
theorem d_La_first_2 : decode b_La_first 2 = .ok (.aload_n 0, 1) := by decide +kernel
theorem d_La_first_3 : decode b_La_first 3 = .ok (.iload_n 1, 1) := by decide +kernel
theorem d_La_first_4 : decode b_La_first 4 = .ok (.invokevirtual 25, 3) := by decide +kernel
theorem d_La_first_7 : decode b_La_first 7 = .ok (.i2l, 1) := by decide +kernel
theorem d_La_first_8 : decode b_La_first 8 = .ok (.lastore, 1) := by decide +kernel
theorem d_La_first_9 : decode b_La_first 9 = .ok (.goto 6, 3) := by decide +kernel
theorem d_La_first_12 : decode b_La_first 12 = .ok (.astore_n 3, 1) := by decide +kernel
theorem d_La_first_13 : decode b_La_first 13 = .ok (.iconst 1, 1) := by decide +kernel
theorem d_La_first_14 : decode b_La_first 14 = .ok (.ireturn, 1) := by decide +kernel
theorem d_La_first_15 : decode b_La_first 15 = .ok (.iconst 0, 1) := by decide +kernel
theorem d_La_first_16 : decode b_La_first 16 = .ok (.ireturn, 1) := by decide +kernel
theorem d_La_answer_0 : decode b_La_answer 0 = .ok (.aload_n 2, 1) := by decide +kernel
theorem d_La_answer_1 : decode b_La_answer 1 = .ok (.iconst 0, 1) := by decide +kernel
theorem d_La_answer_2 : decode b_La_answer 2 = .ok (.aload_n 0, 1) := by decide +kernel
theorem d_La_answer_3 : decode b_La_answer 3 = .ok (.iload_n 1, 1) := by decide +kernel
theorem d_La_answer_4 : decode b_La_answer 4 = .ok (.invokevirtual 28, 3) := by decide +kernel
theorem d_La_answer_7 : decode b_La_answer 7 = .ok (.i2l, 1) := by decide +kernel
theorem d_La_answer_8 : decode b_La_answer 8 = .ok (.lastore, 1) := by decide +kernel
theorem d_La_answer_9 : decode b_La_answer 9 = .ok (.goto 9, 3) := by decide +kernel
theorem d_La_answer_12 : decode b_La_answer 12 = .ok (.astore_n 3, 1) := by decide +kernel
theorem d_La_answer_13 : decode b_La_answer 13 = .ok (.iconst 1, 1) := by decide +kernel
theorem d_La_answer_14 : decode b_La_answer 14 = .ok (.ireturn, 1) := by decide +kernel
theorem d_La_answer_15 : decode b_La_answer 15 = .ok (.astore_n 3, 1) := by decide +kernel
theorem d_La_answer_16 : decode b_La_answer 16 = .ok (.iconst 2, 1) := by decide +kernel
theorem d_La_answer_17 : decode b_La_answer 17 = .ok (.ireturn, 1) := by decide +kernel
theorem d_La_answer_18 : decode b_La_answer 18 = .ok (.iconst 0, 1) := by decide +kernel
theorem d_La_answer_19 : decode b_La_answer 19 = .ok (.ireturn, 1) := by decide +kernel
theorem d_La_priority_0 : decode b_La_priority 0 = .ok (.aload_n 1, 1) := by decide +kernel
theorem d_La_priority_1 : decode b_La_priority 1 = .ok (.iconst 0, 1) := by decide +kernel
theorem d_La_priority_2 : decode b_La_priority 2 = .ok (.aload_n 0, 1) := by decide +kernel
theorem d_La_priority_3 : decode b_La_priority 3 = .ok (.invokevirtual 31, 3) := by decide +kernel
theorem d_La_priority_6 : decode b_La_priority 6 = .ok (.i2l, 1) := by decide +kernel
theorem d_La_priority_7 : decode b_La_priority 7 = .ok (.lastore, 1) := by decide +kernel
theorem d_La_priority_8 : decode b_La_priority 8 = .ok (.goto 6, 3) := by decide +kernel
theorem d_La_priority_11 : decode b_La_priority 11 = .ok (.astore_n 2, 1) := by decide +kernel
theorem d_La_priority_12 : decode b_La_priority 12 = .ok (.iconst 1, 1) := by decide +kernel
theorem d_La_priority_13 : decode b_La_priority 13 = .ok (.ireturn, 1) := by decide +kernel
theorem d_La_priority_14 : decode b_La_priority 14 = .ok (.iconst 0, 1) := by decide +kernel
theorem d_La_priority_15 : decode b_La_priority 15 = .ok (.ireturn, 1) := by decide +kernel
theorem d_La_points_0 : decode b_La_points 0 = .ok (.aload_n 1, 1) := by decide +kernel
theorem d_La_points_1 : decode b_La_points 1 = .ok (.iconst 0, 1) := by decide +kernel
theorem d_La_points_2 : decode b_La_points 2 = .ok (.aload_n 0, 1) := by decide +kernel
theorem d_La_points_3 : decode b_La_points 3 = .ok (.invokevirtual 34, 3) := by decide +kernel
theorem d_La_points_6 : decode b_La_points 6 = .ok (.i2l, 1) := by decide +kernel
theorem d_La_points_7 : decode b_La_points 7 = .ok (.lastore, 1) := by decide +kernel
theorem d_La_points_8 : decode b_La_points 8 = .ok (.goto 6, 3) := by decide +kernel
theorem d_La_points_11 : decode b_La_points 11 = .ok (.astore_n 2, 1) := by decide +kernel
theorem d_La_points_12 : decode b_La_points 12 = .ok (.iconst 1, 1) := by decide +kernel
theorem d_La_points_13 : decode b_La_points 13 = .ok (.ireturn, 1) := by decide +kernel
theorem d_La_points_14 : decode b_La_points 14 = .ok (.iconst 0, 1) := by decide +kernel
theorem d_La_points_15 : decode b_La_points 15 = .ok (.ireturn, 1) := by decide +kernel
theorem d_La_asked_0 : decode b_La_asked 0 = .ok (.aload_n 2, 1) := by decide +kernel
theorem d_La_asked_1 : decode b_La_asked 1 = .ok (.iconst 0, 1) := by decide +kernel
theorem d_La_asked_2 : decode b_La_asked 2 = .ok (.aload_n 0, 1) := by decide +kernel
theorem d_La_asked_3 : decode b_La_asked 3 = .ok (.iload_n 1, 1) := by decide +kernel
theorem d_La_asked_4 : decode b_La_asked 4 = .ok (.invokevirtual 37, 3) := by decide +kernel
theorem d_La_asked_7 : decode b_La_asked 7 = .ok (.i2l, 1) := by decide +kernel
theorem d_La_asked_8 : decode b_La_asked 8 = .ok (.lastore, 1) := by decide +kernel
theorem d_La_asked_9 : decode b_La_asked 9 = .ok (.goto 6, 3) := by decide +kernel
theorem d_La_asked_12 : decode b_La_asked 12 = .ok (.astore_n 3, 1) := by decide +kernel
theorem d_La_asked_13 : decode b_La_asked 13 = .ok (.iconst 1, 1) := by decide +kernel
theorem d_La_asked_14 : decode b_La_asked 14 = .ok (.ireturn, 1) := by decide +kernel
theorem d_La_asked_15 : decode b_La_asked 15 = .ok (.iconst 0, 1) := by decide +kernel
theorem d_La_asked_16 : decode b_La_asked 16 = .ok (.ireturn, 1) := by decide +kernel
theorem d_La_loop_0 : decode b_La_loop 0 = .ok (.aload_n 2, 1) := by decide +kernel
theorem d_La_loop_1 : decode b_La_loop 1 = .ok (.iconst 0, 1) := by decide +kernel
theorem d_La_loop_2 : decode b_La_loop 2 = .ok (.aload_n 0, 1) := by decide +kernel
theorem d_La_loop_3 : decode b_La_loop 3 = .ok (.iload_n 1, 1) := by decide +kernel
theorem d_La_loop_4 : decode b_La_loop 4 = .ok (.invokevirtual 40, 3) := by decide +kernel
theorem d_La_loop_7 : decode b_La_loop 7 = .ok (.i2l, 1) := by decide +kernel
theorem d_La_loop_8 : decode b_La_loop 8 = .ok (.lastore, 1) := by decide +kernel
theorem d_La_loop_9 : decode b_La_loop 9 = .ok (.goto 6, 3) := by decide +kernel
theorem d_La_loop_12 : decode b_La_loop 12 = .ok (.astore_n 3, 1) := by decide +kernel
theorem d_La_loop_13 : decode b_La_loop 13 = .ok (.iconst 1, 1) := by decide +kernel
theorem d_La_loop_14 : decode b_La_loop 14 = .ok (.ireturn, 1) := by decide +kernel
theorem d_La_loop_15 : decode b_La_loop 15 = .ok (.iconst 0, 1) := by decide +kernel
theorem d_La_loop_16 : decode b_La_loop 16 = .ok (.ireturn, 1) := by decide +kernel
theorem d_La_never_0 : decode b_La_never 0 = .ok (.aload_n 2, 1) := by decide +kernel
theorem d_La_never_1 : decode b_La_never 1 = .ok (.iconst 0, 1) := by decide +kernel
theorem d_La_never_2 : decode b_La_never 2 = .ok (.aload_n 0, 1) := by decide +kernel
theorem d_La_never_3 : decode b_La_never 3 = .ok (.iload_n 1, 1) := by decide +kernel
theorem d_La_never_4 : decode b_La_never 4 = .ok (.invokevirtual 43, 3) := by decide +kernel
theorem d_La_never_7 : decode b_La_never 7 = .ok (.i2l, 1) := by decide +kernel
theorem d_La_never_8 : decode b_La_never 8 = .ok (.lastore, 1) := by decide +kernel
theorem d_La_never_9 : decode b_La_never 9 = .ok (.goto 6, 3) := by decide +kernel
theorem d_La_never_12 : decode b_La_never 12 = .ok (.astore_n 3, 1) := by decide +kernel
theorem d_La_never_13 : decode b_La_never 13 = .ok (.iconst 1, 1) := by decide +kernel
theorem d_La_never_14 : decode b_La_never 14 = .ok (.ireturn, 1) := by decide +kernel
theorem d_La_never_15 : decode b_La_never 15 = .ok (.iconst 0, 1) := by decide +kernel
theorem d_La_never_16 : decode b_La_never 16 = .ok (.ireturn, 1) := by decide +kernel
theorem d_La_endless_0 : decode b_La_endless 0 = .ok (.aload_n 2, 1) := by decide +kernel
theorem d_La_endless_1 : decode b_La_endless 1 = .ok (.iconst 0, 1) := by decide +kernel
theorem d_La_endless_2 : decode b_La_endless 2 = .ok (.aload_n 0, 1) := by decide +kernel
theorem d_La_endless_3 : decode b_La_endless 3 = .ok (.iload_n 1, 1) := by decide +kernel
theorem d_La_endless_4 : decode b_La_endless 4 = .ok (.invokevirtual 46, 3) := by decide +kernel
theorem d_La_endless_7 : decode b_La_endless 7 = .ok (.i2l, 1) := by decide +kernel
theorem d_La_endless_8 : decode b_La_endless 8 = .ok (.lastore, 1) := by decide +kernel
theorem d_La_endless_9 : decode b_La_endless 9 = .ok (.goto 6, 3) := by decide +kernel
theorem d_La_endless_12 : decode b_La_endless 12 = .ok (.astore_n 3, 1) := by decide +kernel
theorem d_La_endless_13 : decode b_La_endless 13 = .ok (.iconst 1, 1) := by decide +kernel
theorem d_La_endless_14 : decode b_La_endless 14 = .ok (.ireturn, 1) := by decide +kernel
theorem d_La_endless_15 : decode b_La_endless 15 = .ok (.iconst 0, 1) := by decide +kernel
theorem d_La_endless_16 : decode b_La_endless 16 = .ok (.ireturn, 1) := by decide +kernel
theorem d_La_word_0 : decode b_La_word 0 = .ok (.aload 4, 2) := by decide +kernel
theorem d_La_word_2 : decode b_La_word 2 = .ok (.iconst 0, 1) := by decide +kernel
theorem d_La_word_3 : decode b_La_word 3 = .ok (.aload_n 0, 1) := by decide +kernel
theorem d_La_word_4 : decode b_La_word 4 = .ok (.iload_n 1, 1) := by decide +kernel
theorem d_La_word_5 : decode b_La_word 5 = .ok (.iload_n 2, 1) := by decide +kernel
theorem d_La_word_6 : decode b_La_word 6 = .ok (.iload_n 3, 1) := by decide +kernel
theorem d_La_word_7 : decode b_La_word 7 = .ok (.invokevirtual 49, 3) := by decide +kernel
theorem d_La_word_10 : decode b_La_word 10 = .ok (.i2l, 1) := by decide +kernel
theorem d_La_word_11 : decode b_La_word 11 = .ok (.lastore, 1) := by decide +kernel
theorem d_La_word_12 : decode b_La_word 12 = .ok (.goto 7, 3) := by decide +kernel
theorem d_La_word_15 : decode b_La_word 15 = .ok (.astore 5, 2) := by decide +kernel
theorem d_La_word_17 : decode b_La_word 17 = .ok (.iconst 1, 1) := by decide +kernel
theorem d_La_word_18 : decode b_La_word 18 = .ok (.ireturn, 1) := by decide +kernel
theorem d_La_word_19 : decode b_La_word 19 = .ok (.iconst 0, 1) := by decide +kernel
theorem d_La_word_20 : decode b_La_word 20 = .ok (.ireturn, 1) := by decide +kernel
theorem d_La_law_0 : decode b_La_law 0 = .ok (.new 8, 3) := by decide +kernel
theorem d_La_law_3 : decode b_La_law 3 = .ok (.dup, 1) := by decide +kernel
theorem d_La_law_4 : decode b_La_law 4 = .ok (.invokespecial 53, 3) := by decide +kernel
theorem d_La_law_7 : decode b_La_law 7 = .ok (.astore_n 1, 1) := by decide +kernel
theorem d_La_law_8 : decode b_La_law 8 = .ok (.new 54, 3) := by decide +kernel
theorem d_La_law_11 : decode b_La_law 11 = .ok (.dup, 1) := by decide +kernel
theorem d_La_law_12 : decode b_La_law 12 = .ok (.invokespecial 56, 3) := by decide +kernel
theorem d_La_law_15 : decode b_La_law 15 = .ok (.astore_n 2, 1) := by decide +kernel
theorem d_La_law_16 : decode b_La_law 16 = .ok (.iconst 1, 1) := by decide +kernel
theorem d_La_law_17 : decode b_La_law 17 = .ok (.newarray .long, 2) := by decide +kernel
theorem d_La_law_19 : decode b_La_law 19 = .ok (.astore_n 3, 1) := by decide +kernel
theorem d_La_law_20 : decode b_La_law 20 = .ok (.iconst 0, 1) := by decide +kernel
theorem d_La_law_21 : decode b_La_law 21 = .ok (.istore 4, 2) := by decide +kernel
theorem d_La_law_23 : decode b_La_law 23 = .ok (.iload 4, 2) := by decide +kernel
theorem d_La_law_25 : decode b_La_law 25 = .ok (.aload_n 0, 1) := by decide +kernel
theorem d_La_law_26 : decode b_La_law 26 = .ok (.arraylength, 1) := by decide +kernel
theorem d_La_law_27 : decode b_La_law 27 = .ok (.iconst 4, 1) := by decide +kernel
theorem d_La_law_28 : decode b_La_law 28 = .ok (.isub, 1) := by decide +kernel
theorem d_La_law_29 : decode b_La_law 29 = .ok (.if_icmp .gt 815, 3) := by decide +kernel
theorem d_La_law_32 : decode b_La_law 32 = .ok (.aload_n 0, 1) := by decide +kernel
theorem d_La_law_33 : decode b_La_law 33 = .ok (.iload 4, 2) := by decide +kernel
theorem d_La_law_35 : decode b_La_law 35 = .ok (.iaload, 1) := by decide +kernel
theorem d_La_law_36 : decode b_La_law 36 = .ok (.bipush 15, 2) := by decide +kernel
theorem d_La_law_38 : decode b_La_law 38 = .ok (.iand, 1) := by decide +kernel
theorem d_La_law_39 : decode b_La_law 39 = .ok (.tableswitch 799 0 13 #[69, 169, 213, 226, 282, 338, 394, 407, 451, 495, 551, 607, 663, 719], 69) := by decide +kernel
theorem d_La_law_108 : decode b_La_law 108 = .ok (.aload_n 1, 1) := by decide +kernel
theorem d_La_law_109 : decode b_La_law 109 = .ok (.aload_n 0, 1) := by decide +kernel
theorem d_La_law_110 : decode b_La_law 110 = .ok (.iload 4, 2) := by decide +kernel
theorem d_La_law_112 : decode b_La_law 112 = .ok (.iconst 1, 1) := by decide +kernel
theorem d_La_law_113 : decode b_La_law 113 = .ok (.iadd, 1) := by decide +kernel
theorem d_La_law_114 : decode b_La_law 114 = .ok (.iaload, 1) := by decide +kernel
theorem d_La_law_115 : decode b_La_law 115 = .ok (.i2l, 1) := by decide +kernel
theorem d_La_law_116 : decode b_La_law 116 = .ok (.bipush 32, 2) := by decide +kernel
theorem d_La_law_118 : decode b_La_law 118 = .ok (.lshl, 1) := by decide +kernel
theorem d_La_law_119 : decode b_La_law 119 = .ok (.aload_n 0, 1) := by decide +kernel
theorem d_La_law_120 : decode b_La_law 120 = .ok (.iload 4, 2) := by decide +kernel
theorem d_La_law_122 : decode b_La_law 122 = .ok (.iconst 2, 1) := by decide +kernel
theorem d_La_law_123 : decode b_La_law 123 = .ok (.iadd, 1) := by decide +kernel
theorem d_La_law_124 : decode b_La_law 124 = .ok (.iaload, 1) := by decide +kernel
theorem d_La_law_125 : decode b_La_law 125 = .ok (.i2l, 1) := by decide +kernel
theorem d_La_law_126 : decode b_La_law 126 = .ok (.ldc2_w 57, 3) := by decide +kernel
theorem d_La_law_129 : decode b_La_law 129 = .ok (.land, 1) := by decide +kernel
theorem d_La_law_130 : decode b_La_law 130 = .ok (.lor, 1) := by decide +kernel
theorem d_La_law_131 : decode b_La_law 131 = .ok (.aload_n 0, 1) := by decide +kernel
theorem d_La_law_132 : decode b_La_law 132 = .ok (.iload 4, 2) := by decide +kernel
theorem d_La_law_134 : decode b_La_law 134 = .ok (.iconst 3, 1) := by decide +kernel
theorem d_La_law_135 : decode b_La_law 135 = .ok (.iadd, 1) := by decide +kernel
theorem d_La_law_136 : decode b_La_law 136 = .ok (.iaload, 1) := by decide +kernel
theorem d_La_law_137 : decode b_La_law 137 = .ok (.aload_n 3, 1) := by decide +kernel
theorem d_La_law_138 : decode b_La_law 138 = .ok (.invokestatic 59, 3) := by decide +kernel
theorem d_La_law_141 : decode b_La_law 141 = .ok (.istore 5, 2) := by decide +kernel
theorem d_La_law_143 : decode b_La_law 143 = .ok (.aload_n 2, 1) := by decide +kernel
theorem d_La_law_144 : decode b_La_law 144 = .ok (.aload_n 0, 1) := by decide +kernel
theorem d_La_law_145 : decode b_La_law 145 = .ok (.iload 4, 2) := by decide +kernel
theorem d_La_law_147 : decode b_La_law 147 = .ok (.iconst 1, 1) := by decide +kernel
theorem d_La_law_148 : decode b_La_law 148 = .ok (.iadd, 1) := by decide +kernel
theorem d_La_law_149 : decode b_La_law 149 = .ok (.iaload, 1) := by decide +kernel
theorem d_La_law_150 : decode b_La_law 150 = .ok (.i2l, 1) := by decide +kernel
theorem d_La_law_151 : decode b_La_law 151 = .ok (.bipush 32, 2) := by decide +kernel
theorem d_La_law_153 : decode b_La_law 153 = .ok (.lshl, 1) := by decide +kernel
theorem d_La_law_154 : decode b_La_law 154 = .ok (.aload_n 0, 1) := by decide +kernel
theorem d_La_law_155 : decode b_La_law 155 = .ok (.iload 4, 2) := by decide +kernel
theorem d_La_law_157 : decode b_La_law 157 = .ok (.iconst 2, 1) := by decide +kernel
theorem d_La_law_158 : decode b_La_law 158 = .ok (.iadd, 1) := by decide +kernel
theorem d_La_law_159 : decode b_La_law 159 = .ok (.iaload, 1) := by decide +kernel
theorem d_La_law_160 : decode b_La_law 160 = .ok (.i2l, 1) := by decide +kernel
theorem d_La_law_161 : decode b_La_law 161 = .ok (.ldc2_w 57, 3) := by decide +kernel
theorem d_La_law_164 : decode b_La_law 164 = .ok (.land, 1) := by decide +kernel
theorem d_La_law_165 : decode b_La_law 165 = .ok (.lor, 1) := by decide +kernel
theorem d_La_law_166 : decode b_La_law 166 = .ok (.aload_n 0, 1) := by decide +kernel
theorem d_La_law_167 : decode b_La_law 167 = .ok (.iload 4, 2) := by decide +kernel
theorem d_La_law_169 : decode b_La_law 169 = .ok (.iconst 3, 1) := by decide +kernel
theorem d_La_law_170 : decode b_La_law 170 = .ok (.iadd, 1) := by decide +kernel
theorem d_La_law_171 : decode b_La_law 171 = .ok (.iaload, 1) := by decide +kernel
theorem d_La_law_172 : decode b_La_law 172 = .ok (.invokevirtual 64, 3) := by decide +kernel
theorem d_La_law_175 : decode b_La_law 175 = .ok (.istore 6, 2) := by decide +kernel
theorem d_La_law_177 : decode b_La_law 177 = .ok (.aload_n 2, 1) := by decide +kernel
theorem d_La_law_178 : decode b_La_law 178 = .ok (.invokevirtual 65, 3) := by decide +kernel
theorem d_La_law_181 : decode b_La_law 181 = .ok (.iload 5, 2) := by decide +kernel
theorem d_La_law_183 : decode b_La_law 183 = .ok (.if_icmp .eq 5, 3) := by decide +kernel
theorem d_La_law_186 : decode b_La_law 186 = .ok (.iconst 0, 1) := by decide +kernel
theorem d_La_law_187 : decode b_La_law 187 = .ok (.ireturn, 1) := by decide +kernel
theorem d_La_law_188 : decode b_La_law 188 = .ok (.iload 5, 2) := by decide +kernel
theorem d_La_law_190 : decode b_La_law 190 = .ok (.ifCond .ne 15, 3) := by decide +kernel
theorem d_La_law_193 : decode b_La_law 193 = .ok (.aload_n 3, 1) := by decide +kernel
theorem d_La_law_194 : decode b_La_law 194 = .ok (.iconst 0, 1) := by decide +kernel
theorem d_La_law_195 : decode b_La_law 195 = .ok (.laload, 1) := by decide +kernel
theorem d_La_law_196 : decode b_La_law 196 = .ok (.iload 6, 2) := by decide +kernel
theorem d_La_law_198 : decode b_La_law 198 = .ok (.i2l, 1) := by decide +kernel
theorem d_La_law_199 : decode b_La_law 199 = .ok (.lcmp, 1) := by decide +kernel
theorem d_La_law_200 : decode b_La_law 200 = .ok (.ifCond .eq 5, 3) := by decide +kernel
theorem d_La_law_203 : decode b_La_law 203 = .ok (.iconst 0, 1) := by decide +kernel
theorem d_La_law_204 : decode b_La_law 204 = .ok (.ireturn, 1) := by decide +kernel
theorem d_La_law_205 : decode b_La_law 205 = .ok (.goto 633, 3) := by decide +kernel
theorem d_La_law_208 : decode b_La_law 208 = .ok (.aload_n 1, 1) := by decide +kernel
theorem d_La_law_209 : decode b_La_law 209 = .ok (.aload_n 3, 1) := by decide +kernel
theorem d_La_law_210 : decode b_La_law 210 = .ok (.invokestatic 68, 3) := by decide +kernel
theorem d_La_law_213 : decode b_La_law 213 = .ok (.istore 5, 2) := by decide +kernel
theorem d_La_law_215 : decode b_La_law 215 = .ok (.aload_n 2, 1) := by decide +kernel
theorem d_La_law_216 : decode b_La_law 216 = .ok (.invokevirtual 71, 3) := by decide +kernel
theorem d_La_law_219 : decode b_La_law 219 = .ok (.istore 6, 2) := by decide +kernel
theorem d_La_law_221 : decode b_La_law 221 = .ok (.aload_n 2, 1) := by decide +kernel
theorem d_La_law_222 : decode b_La_law 222 = .ok (.invokevirtual 65, 3) := by decide +kernel
theorem d_La_law_225 : decode b_La_law 225 = .ok (.iload 5, 2) := by decide +kernel
theorem d_La_law_227 : decode b_La_law 227 = .ok (.if_icmp .eq 5, 3) := by decide +kernel
theorem d_La_law_230 : decode b_La_law 230 = .ok (.iconst 0, 1) := by decide +kernel
theorem d_La_law_231 : decode b_La_law 231 = .ok (.ireturn, 1) := by decide +kernel
theorem d_La_law_232 : decode b_La_law 232 = .ok (.iload 5, 2) := by decide +kernel
theorem d_La_law_234 : decode b_La_law 234 = .ok (.ifCond .ne 15, 3) := by decide +kernel
theorem d_La_law_237 : decode b_La_law 237 = .ok (.aload_n 3, 1) := by decide +kernel
theorem d_La_law_238 : decode b_La_law 238 = .ok (.iconst 0, 1) := by decide +kernel
theorem d_La_law_239 : decode b_La_law 239 = .ok (.laload, 1) := by decide +kernel
theorem d_La_law_240 : decode b_La_law 240 = .ok (.iload 6, 2) := by decide +kernel
theorem d_La_law_242 : decode b_La_law 242 = .ok (.i2l, 1) := by decide +kernel
theorem d_La_law_243 : decode b_La_law 243 = .ok (.lcmp, 1) := by decide +kernel
theorem d_La_law_244 : decode b_La_law 244 = .ok (.ifCond .eq 5, 3) := by decide +kernel
theorem d_La_law_247 : decode b_La_law 247 = .ok (.iconst 0, 1) := by decide +kernel
theorem d_La_law_248 : decode b_La_law 248 = .ok (.ireturn, 1) := by decide +kernel
theorem d_La_law_249 : decode b_La_law 249 = .ok (.goto 589, 3) := by decide +kernel
theorem d_La_law_252 : decode b_La_law 252 = .ok (.aload_n 1, 1) := by decide +kernel
theorem d_La_law_253 : decode b_La_law 253 = .ok (.invokevirtual 72, 3) := by decide +kernel
theorem d_La_law_256 : decode b_La_law 256 = .ok (.aload_n 2, 1) := by decide +kernel
theorem d_La_law_257 : decode b_La_law 257 = .ok (.invokevirtual 75, 3) := by decide +kernel
theorem d_La_law_260 : decode b_La_law 260 = .ok (.if_icmp .eq 578, 3) := by decide +kernel
theorem d_La_law_263 : decode b_La_law 263 = .ok (.iconst 0, 1) := by decide +kernel
theorem d_La_law_264 : decode b_La_law 264 = .ok (.ireturn, 1) := by decide +kernel
theorem d_La_law_265 : decode b_La_law 265 = .ok (.aload_n 1, 1) := by decide +kernel
theorem d_La_law_266 : decode b_La_law 266 = .ok (.aload_n 0, 1) := by decide +kernel
theorem d_La_law_267 : decode b_La_law 267 = .ok (.iload 4, 2) := by decide +kernel
theorem d_La_law_269 : decode b_La_law 269 = .ok (.iconst 1, 1) := by decide +kernel
theorem d_La_law_270 : decode b_La_law 270 = .ok (.iadd, 1) := by decide +kernel
theorem d_La_law_271 : decode b_La_law 271 = .ok (.iaload, 1) := by decide +kernel
theorem d_La_law_272 : decode b_La_law 272 = .ok (.aload_n 3, 1) := by decide +kernel
theorem d_La_law_273 : decode b_La_law 273 = .ok (.invokestatic 76, 3) := by decide +kernel
theorem d_La_law_276 : decode b_La_law 276 = .ok (.istore 5, 2) := by decide +kernel
theorem d_La_law_278 : decode b_La_law 278 = .ok (.aload_n 2, 1) := by decide +kernel
theorem d_La_law_279 : decode b_La_law 279 = .ok (.aload_n 0, 1) := by decide +kernel
theorem d_La_law_280 : decode b_La_law 280 = .ok (.iload 4, 2) := by decide +kernel
theorem d_La_law_282 : decode b_La_law 282 = .ok (.iconst 1, 1) := by decide +kernel
theorem d_La_law_283 : decode b_La_law 283 = .ok (.iadd, 1) := by decide +kernel
theorem d_La_law_284 : decode b_La_law 284 = .ok (.iaload, 1) := by decide +kernel
theorem d_La_law_285 : decode b_La_law 285 = .ok (.invokevirtual 79, 3) := by decide +kernel
theorem d_La_law_288 : decode b_La_law 288 = .ok (.istore 6, 2) := by decide +kernel
theorem d_La_law_290 : decode b_La_law 290 = .ok (.aload_n 2, 1) := by decide +kernel
theorem d_La_law_291 : decode b_La_law 291 = .ok (.invokevirtual 65, 3) := by decide +kernel
theorem d_La_law_294 : decode b_La_law 294 = .ok (.iload 5, 2) := by decide +kernel
theorem d_La_law_296 : decode b_La_law 296 = .ok (.if_icmp .eq 5, 3) := by decide +kernel
theorem d_La_law_299 : decode b_La_law 299 = .ok (.iconst 0, 1) := by decide +kernel
theorem d_La_law_300 : decode b_La_law 300 = .ok (.ireturn, 1) := by decide +kernel
theorem d_La_law_301 : decode b_La_law 301 = .ok (.iload 5, 2) := by decide +kernel
theorem d_La_law_303 : decode b_La_law 303 = .ok (.ifCond .ne 15, 3) := by decide +kernel
theorem d_La_law_306 : decode b_La_law 306 = .ok (.aload_n 3, 1) := by decide +kernel
theorem d_La_law_307 : decode b_La_law 307 = .ok (.iconst 0, 1) := by decide +kernel
theorem d_La_law_308 : decode b_La_law 308 = .ok (.laload, 1) := by decide +kernel
theorem d_La_law_309 : decode b_La_law 309 = .ok (.iload 6, 2) := by decide +kernel
theorem d_La_law_311 : decode b_La_law 311 = .ok (.i2l, 1) := by decide +kernel
theorem d_La_law_312 : decode b_La_law 312 = .ok (.lcmp, 1) := by decide +kernel
theorem d_La_law_313 : decode b_La_law 313 = .ok (.ifCond .eq 5, 3) := by decide +kernel
theorem d_La_law_316 : decode b_La_law 316 = .ok (.iconst 0, 1) := by decide +kernel
theorem d_La_law_317 : decode b_La_law 317 = .ok (.ireturn, 1) := by decide +kernel
theorem d_La_law_318 : decode b_La_law 318 = .ok (.goto 520, 3) := by decide +kernel
theorem d_La_law_321 : decode b_La_law 321 = .ok (.aload_n 1, 1) := by decide +kernel
theorem d_La_law_322 : decode b_La_law 322 = .ok (.aload_n 0, 1) := by decide +kernel
theorem d_La_law_323 : decode b_La_law 323 = .ok (.iload 4, 2) := by decide +kernel
theorem d_La_law_325 : decode b_La_law 325 = .ok (.iconst 1, 1) := by decide +kernel
theorem d_La_law_326 : decode b_La_law 326 = .ok (.iadd, 1) := by decide +kernel
theorem d_La_law_327 : decode b_La_law 327 = .ok (.iaload, 1) := by decide +kernel
theorem d_La_law_328 : decode b_La_law 328 = .ok (.aload_n 3, 1) := by decide +kernel
theorem d_La_law_329 : decode b_La_law 329 = .ok (.invokestatic 80, 3) := by decide +kernel
theorem d_La_law_332 : decode b_La_law 332 = .ok (.istore 5, 2) := by decide +kernel
theorem d_La_law_334 : decode b_La_law 334 = .ok (.aload_n 2, 1) := by decide +kernel
theorem d_La_law_335 : decode b_La_law 335 = .ok (.aload_n 0, 1) := by decide +kernel
theorem d_La_law_336 : decode b_La_law 336 = .ok (.iload 4, 2) := by decide +kernel
theorem d_La_law_338 : decode b_La_law 338 = .ok (.iconst 1, 1) := by decide +kernel
theorem d_La_law_339 : decode b_La_law 339 = .ok (.iadd, 1) := by decide +kernel
theorem d_La_law_340 : decode b_La_law 340 = .ok (.iaload, 1) := by decide +kernel
theorem d_La_law_341 : decode b_La_law 341 = .ok (.invokevirtual 82, 3) := by decide +kernel
theorem d_La_law_344 : decode b_La_law 344 = .ok (.istore 6, 2) := by decide +kernel
theorem d_La_law_346 : decode b_La_law 346 = .ok (.aload_n 2, 1) := by decide +kernel
theorem d_La_law_347 : decode b_La_law 347 = .ok (.invokevirtual 65, 3) := by decide +kernel
theorem d_La_law_350 : decode b_La_law 350 = .ok (.iload 5, 2) := by decide +kernel
theorem d_La_law_352 : decode b_La_law 352 = .ok (.if_icmp .eq 5, 3) := by decide +kernel
theorem d_La_law_355 : decode b_La_law 355 = .ok (.iconst 0, 1) := by decide +kernel
theorem d_La_law_356 : decode b_La_law 356 = .ok (.ireturn, 1) := by decide +kernel
theorem d_La_law_357 : decode b_La_law 357 = .ok (.iload 5, 2) := by decide +kernel
theorem d_La_law_359 : decode b_La_law 359 = .ok (.ifCond .ne 15, 3) := by decide +kernel
theorem d_La_law_362 : decode b_La_law 362 = .ok (.aload_n 3, 1) := by decide +kernel
theorem d_La_law_363 : decode b_La_law 363 = .ok (.iconst 0, 1) := by decide +kernel
theorem d_La_law_364 : decode b_La_law 364 = .ok (.laload, 1) := by decide +kernel
theorem d_La_law_365 : decode b_La_law 365 = .ok (.iload 6, 2) := by decide +kernel
theorem d_La_law_367 : decode b_La_law 367 = .ok (.i2l, 1) := by decide +kernel
theorem d_La_law_368 : decode b_La_law 368 = .ok (.lcmp, 1) := by decide +kernel
theorem d_La_law_369 : decode b_La_law 369 = .ok (.ifCond .eq 5, 3) := by decide +kernel
theorem d_La_law_372 : decode b_La_law 372 = .ok (.iconst 0, 1) := by decide +kernel
theorem d_La_law_373 : decode b_La_law 373 = .ok (.ireturn, 1) := by decide +kernel
theorem d_La_law_374 : decode b_La_law 374 = .ok (.goto 464, 3) := by decide +kernel
theorem d_La_law_377 : decode b_La_law 377 = .ok (.aload_n 1, 1) := by decide +kernel
theorem d_La_law_378 : decode b_La_law 378 = .ok (.aload_n 0, 1) := by decide +kernel
theorem d_La_law_379 : decode b_La_law 379 = .ok (.iload 4, 2) := by decide +kernel
theorem d_La_law_381 : decode b_La_law 381 = .ok (.iconst 1, 1) := by decide +kernel
theorem d_La_law_382 : decode b_La_law 382 = .ok (.iadd, 1) := by decide +kernel
theorem d_La_law_383 : decode b_La_law 383 = .ok (.iaload, 1) := by decide +kernel
theorem d_La_law_384 : decode b_La_law 384 = .ok (.aload_n 3, 1) := by decide +kernel
theorem d_La_law_385 : decode b_La_law 385 = .ok (.invokestatic 83, 3) := by decide +kernel
theorem d_La_law_388 : decode b_La_law 388 = .ok (.istore 5, 2) := by decide +kernel
theorem d_La_law_390 : decode b_La_law 390 = .ok (.aload_n 2, 1) := by decide +kernel
theorem d_La_law_391 : decode b_La_law 391 = .ok (.aload_n 0, 1) := by decide +kernel
theorem d_La_law_392 : decode b_La_law 392 = .ok (.iload 4, 2) := by decide +kernel
theorem d_La_law_394 : decode b_La_law 394 = .ok (.iconst 1, 1) := by decide +kernel
theorem d_La_law_395 : decode b_La_law 395 = .ok (.iadd, 1) := by decide +kernel
theorem d_La_law_396 : decode b_La_law 396 = .ok (.iaload, 1) := by decide +kernel
theorem d_La_law_397 : decode b_La_law 397 = .ok (.invokevirtual 85, 3) := by decide +kernel
theorem d_La_law_400 : decode b_La_law 400 = .ok (.istore 6, 2) := by decide +kernel
theorem d_La_law_402 : decode b_La_law 402 = .ok (.aload_n 2, 1) := by decide +kernel
theorem d_La_law_403 : decode b_La_law 403 = .ok (.invokevirtual 65, 3) := by decide +kernel
theorem d_La_law_406 : decode b_La_law 406 = .ok (.iload 5, 2) := by decide +kernel
theorem d_La_law_408 : decode b_La_law 408 = .ok (.if_icmp .eq 5, 3) := by decide +kernel
theorem d_La_law_411 : decode b_La_law 411 = .ok (.iconst 0, 1) := by decide +kernel
theorem d_La_law_412 : decode b_La_law 412 = .ok (.ireturn, 1) := by decide +kernel
theorem d_La_law_413 : decode b_La_law 413 = .ok (.iload 5, 2) := by decide +kernel
theorem d_La_law_415 : decode b_La_law 415 = .ok (.ifCond .ne 15, 3) := by decide +kernel
theorem d_La_law_418 : decode b_La_law 418 = .ok (.aload_n 3, 1) := by decide +kernel
theorem d_La_law_419 : decode b_La_law 419 = .ok (.iconst 0, 1) := by decide +kernel
theorem d_La_law_420 : decode b_La_law 420 = .ok (.laload, 1) := by decide +kernel
theorem d_La_law_421 : decode b_La_law 421 = .ok (.iload 6, 2) := by decide +kernel
theorem d_La_law_423 : decode b_La_law 423 = .ok (.i2l, 1) := by decide +kernel
theorem d_La_law_424 : decode b_La_law 424 = .ok (.lcmp, 1) := by decide +kernel
theorem d_La_law_425 : decode b_La_law 425 = .ok (.ifCond .eq 5, 3) := by decide +kernel
theorem d_La_law_428 : decode b_La_law 428 = .ok (.iconst 0, 1) := by decide +kernel
theorem d_La_law_429 : decode b_La_law 429 = .ok (.ireturn, 1) := by decide +kernel
theorem d_La_law_430 : decode b_La_law 430 = .ok (.goto 408, 3) := by decide +kernel
theorem d_La_law_433 : decode b_La_law 433 = .ok (.aload_n 1, 1) := by decide +kernel
theorem d_La_law_434 : decode b_La_law 434 = .ok (.invokevirtual 86, 3) := by decide +kernel
theorem d_La_law_437 : decode b_La_law 437 = .ok (.aload_n 2, 1) := by decide +kernel
theorem d_La_law_438 : decode b_La_law 438 = .ok (.invokevirtual 89, 3) := by decide +kernel
theorem d_La_law_441 : decode b_La_law 441 = .ok (.if_icmp .eq 397, 3) := by decide +kernel
theorem d_La_law_444 : decode b_La_law 444 = .ok (.iconst 0, 1) := by decide +kernel
theorem d_La_law_445 : decode b_La_law 445 = .ok (.ireturn, 1) := by decide +kernel
theorem d_La_law_446 : decode b_La_law 446 = .ok (.aload_n 1, 1) := by decide +kernel
theorem d_La_law_447 : decode b_La_law 447 = .ok (.aload_n 3, 1) := by decide +kernel
theorem d_La_law_448 : decode b_La_law 448 = .ok (.invokestatic 90, 3) := by decide +kernel
theorem d_La_law_451 : decode b_La_law 451 = .ok (.istore 5, 2) := by decide +kernel
theorem d_La_law_453 : decode b_La_law 453 = .ok (.aload_n 2, 1) := by decide +kernel
theorem d_La_law_454 : decode b_La_law 454 = .ok (.invokevirtual 92, 3) := by decide +kernel
theorem d_La_law_457 : decode b_La_law 457 = .ok (.istore 6, 2) := by decide +kernel
theorem d_La_law_459 : decode b_La_law 459 = .ok (.aload_n 2, 1) := by decide +kernel
theorem d_La_law_460 : decode b_La_law 460 = .ok (.invokevirtual 65, 3) := by decide +kernel
theorem d_La_law_463 : decode b_La_law 463 = .ok (.iload 5, 2) := by decide +kernel
theorem d_La_law_465 : decode b_La_law 465 = .ok (.if_icmp .eq 5, 3) := by decide +kernel
theorem d_La_law_468 : decode b_La_law 468 = .ok (.iconst 0, 1) := by decide +kernel
theorem d_La_law_469 : decode b_La_law 469 = .ok (.ireturn, 1) := by decide +kernel
theorem d_La_law_470 : decode b_La_law 470 = .ok (.iload 5, 2) := by decide +kernel
theorem d_La_law_472 : decode b_La_law 472 = .ok (.ifCond .ne 15, 3) := by decide +kernel
theorem d_La_law_475 : decode b_La_law 475 = .ok (.aload_n 3, 1) := by decide +kernel
theorem d_La_law_476 : decode b_La_law 476 = .ok (.iconst 0, 1) := by decide +kernel
theorem d_La_law_477 : decode b_La_law 477 = .ok (.laload, 1) := by decide +kernel
theorem d_La_law_478 : decode b_La_law 478 = .ok (.iload 6, 2) := by decide +kernel
theorem d_La_law_480 : decode b_La_law 480 = .ok (.i2l, 1) := by decide +kernel
theorem d_La_law_481 : decode b_La_law 481 = .ok (.lcmp, 1) := by decide +kernel
theorem d_La_law_482 : decode b_La_law 482 = .ok (.ifCond .eq 5, 3) := by decide +kernel
theorem d_La_law_485 : decode b_La_law 485 = .ok (.iconst 0, 1) := by decide +kernel
theorem d_La_law_486 : decode b_La_law 486 = .ok (.ireturn, 1) := by decide +kernel
theorem d_La_law_487 : decode b_La_law 487 = .ok (.goto 351, 3) := by decide +kernel
theorem d_La_law_490 : decode b_La_law 490 = .ok (.aload_n 1, 1) := by decide +kernel
theorem d_La_law_491 : decode b_La_law 491 = .ok (.aload_n 3, 1) := by decide +kernel
theorem d_La_law_492 : decode b_La_law 492 = .ok (.invokestatic 93, 3) := by decide +kernel
theorem d_La_law_495 : decode b_La_law 495 = .ok (.istore 5, 2) := by decide +kernel
theorem d_La_law_497 : decode b_La_law 497 = .ok (.aload_n 2, 1) := by decide +kernel
theorem d_La_law_498 : decode b_La_law 498 = .ok (.invokevirtual 95, 3) := by decide +kernel
theorem d_La_law_501 : decode b_La_law 501 = .ok (.istore 6, 2) := by decide +kernel
theorem d_La_law_503 : decode b_La_law 503 = .ok (.aload_n 2, 1) := by decide +kernel
theorem d_La_law_504 : decode b_La_law 504 = .ok (.invokevirtual 65, 3) := by decide +kernel
theorem d_La_law_507 : decode b_La_law 507 = .ok (.iload 5, 2) := by decide +kernel
theorem d_La_law_509 : decode b_La_law 509 = .ok (.if_icmp .eq 5, 3) := by decide +kernel
theorem d_La_law_512 : decode b_La_law 512 = .ok (.iconst 0, 1) := by decide +kernel
theorem d_La_law_513 : decode b_La_law 513 = .ok (.ireturn, 1) := by decide +kernel
theorem d_La_law_514 : decode b_La_law 514 = .ok (.iload 5, 2) := by decide +kernel
theorem d_La_law_516 : decode b_La_law 516 = .ok (.ifCond .ne 15, 3) := by decide +kernel
theorem d_La_law_519 : decode b_La_law 519 = .ok (.aload_n 3, 1) := by decide +kernel
theorem d_La_law_520 : decode b_La_law 520 = .ok (.iconst 0, 1) := by decide +kernel
theorem d_La_law_521 : decode b_La_law 521 = .ok (.laload, 1) := by decide +kernel
theorem d_La_law_522 : decode b_La_law 522 = .ok (.iload 6, 2) := by decide +kernel
theorem d_La_law_524 : decode b_La_law 524 = .ok (.i2l, 1) := by decide +kernel
theorem d_La_law_525 : decode b_La_law 525 = .ok (.lcmp, 1) := by decide +kernel
theorem d_La_law_526 : decode b_La_law 526 = .ok (.ifCond .eq 5, 3) := by decide +kernel
theorem d_La_law_529 : decode b_La_law 529 = .ok (.iconst 0, 1) := by decide +kernel
theorem d_La_law_530 : decode b_La_law 530 = .ok (.ireturn, 1) := by decide +kernel
theorem d_La_law_531 : decode b_La_law 531 = .ok (.goto 307, 3) := by decide +kernel
theorem d_La_law_534 : decode b_La_law 534 = .ok (.aload_n 1, 1) := by decide +kernel
theorem d_La_law_535 : decode b_La_law 535 = .ok (.aload_n 0, 1) := by decide +kernel
theorem d_La_law_536 : decode b_La_law 536 = .ok (.iload 4, 2) := by decide +kernel
theorem d_La_law_538 : decode b_La_law 538 = .ok (.iconst 1, 1) := by decide +kernel
theorem d_La_law_539 : decode b_La_law 539 = .ok (.iadd, 1) := by decide +kernel
theorem d_La_law_540 : decode b_La_law 540 = .ok (.iaload, 1) := by decide +kernel
theorem d_La_law_541 : decode b_La_law 541 = .ok (.aload_n 3, 1) := by decide +kernel
theorem d_La_law_542 : decode b_La_law 542 = .ok (.invokestatic 96, 3) := by decide +kernel
theorem d_La_law_545 : decode b_La_law 545 = .ok (.istore 5, 2) := by decide +kernel
theorem d_La_law_547 : decode b_La_law 547 = .ok (.aload_n 2, 1) := by decide +kernel
theorem d_La_law_548 : decode b_La_law 548 = .ok (.aload_n 0, 1) := by decide +kernel
theorem d_La_law_549 : decode b_La_law 549 = .ok (.iload 4, 2) := by decide +kernel
theorem d_La_law_551 : decode b_La_law 551 = .ok (.iconst 1, 1) := by decide +kernel
theorem d_La_law_552 : decode b_La_law 552 = .ok (.iadd, 1) := by decide +kernel
theorem d_La_law_553 : decode b_La_law 553 = .ok (.iaload, 1) := by decide +kernel
theorem d_La_law_554 : decode b_La_law 554 = .ok (.invokevirtual 98, 3) := by decide +kernel
theorem d_La_law_557 : decode b_La_law 557 = .ok (.istore 6, 2) := by decide +kernel
theorem d_La_law_559 : decode b_La_law 559 = .ok (.aload_n 2, 1) := by decide +kernel
theorem d_La_law_560 : decode b_La_law 560 = .ok (.invokevirtual 65, 3) := by decide +kernel
theorem d_La_law_563 : decode b_La_law 563 = .ok (.iload 5, 2) := by decide +kernel
theorem d_La_law_565 : decode b_La_law 565 = .ok (.if_icmp .eq 5, 3) := by decide +kernel
theorem d_La_law_568 : decode b_La_law 568 = .ok (.iconst 0, 1) := by decide +kernel
theorem d_La_law_569 : decode b_La_law 569 = .ok (.ireturn, 1) := by decide +kernel
theorem d_La_law_570 : decode b_La_law 570 = .ok (.iload 5, 2) := by decide +kernel
theorem d_La_law_572 : decode b_La_law 572 = .ok (.ifCond .ne 15, 3) := by decide +kernel
theorem d_La_law_575 : decode b_La_law 575 = .ok (.aload_n 3, 1) := by decide +kernel
theorem d_La_law_576 : decode b_La_law 576 = .ok (.iconst 0, 1) := by decide +kernel
theorem d_La_law_577 : decode b_La_law 577 = .ok (.laload, 1) := by decide +kernel
theorem d_La_law_578 : decode b_La_law 578 = .ok (.iload 6, 2) := by decide +kernel
theorem d_La_law_580 : decode b_La_law 580 = .ok (.i2l, 1) := by decide +kernel
theorem d_La_law_581 : decode b_La_law 581 = .ok (.lcmp, 1) := by decide +kernel
theorem d_La_law_582 : decode b_La_law 582 = .ok (.ifCond .eq 5, 3) := by decide +kernel
theorem d_La_law_585 : decode b_La_law 585 = .ok (.iconst 0, 1) := by decide +kernel
theorem d_La_law_586 : decode b_La_law 586 = .ok (.ireturn, 1) := by decide +kernel
theorem d_La_law_587 : decode b_La_law 587 = .ok (.goto 251, 3) := by decide +kernel
theorem d_La_law_590 : decode b_La_law 590 = .ok (.aload_n 1, 1) := by decide +kernel
theorem d_La_law_591 : decode b_La_law 591 = .ok (.aload_n 0, 1) := by decide +kernel
theorem d_La_law_592 : decode b_La_law 592 = .ok (.iload 4, 2) := by decide +kernel
theorem d_La_law_594 : decode b_La_law 594 = .ok (.iconst 1, 1) := by decide +kernel
theorem d_La_law_595 : decode b_La_law 595 = .ok (.iadd, 1) := by decide +kernel
theorem d_La_law_596 : decode b_La_law 596 = .ok (.iaload, 1) := by decide +kernel
theorem d_La_law_597 : decode b_La_law 597 = .ok (.aload_n 3, 1) := by decide +kernel
theorem d_La_law_598 : decode b_La_law 598 = .ok (.invokestatic 99, 3) := by decide +kernel
theorem d_La_law_601 : decode b_La_law 601 = .ok (.istore 5, 2) := by decide +kernel
theorem d_La_law_603 : decode b_La_law 603 = .ok (.aload_n 2, 1) := by decide +kernel
theorem d_La_law_604 : decode b_La_law 604 = .ok (.aload_n 0, 1) := by decide +kernel
theorem d_La_law_605 : decode b_La_law 605 = .ok (.iload 4, 2) := by decide +kernel
theorem d_La_law_607 : decode b_La_law 607 = .ok (.iconst 1, 1) := by decide +kernel
theorem d_La_law_608 : decode b_La_law 608 = .ok (.iadd, 1) := by decide +kernel
theorem d_La_law_609 : decode b_La_law 609 = .ok (.iaload, 1) := by decide +kernel
theorem d_La_law_610 : decode b_La_law 610 = .ok (.invokevirtual 101, 3) := by decide +kernel
theorem d_La_law_613 : decode b_La_law 613 = .ok (.istore 6, 2) := by decide +kernel
theorem d_La_law_615 : decode b_La_law 615 = .ok (.aload_n 2, 1) := by decide +kernel
theorem d_La_law_616 : decode b_La_law 616 = .ok (.invokevirtual 65, 3) := by decide +kernel
theorem d_La_law_619 : decode b_La_law 619 = .ok (.iload 5, 2) := by decide +kernel
theorem d_La_law_621 : decode b_La_law 621 = .ok (.if_icmp .eq 5, 3) := by decide +kernel
theorem d_La_law_624 : decode b_La_law 624 = .ok (.iconst 0, 1) := by decide +kernel
theorem d_La_law_625 : decode b_La_law 625 = .ok (.ireturn, 1) := by decide +kernel
theorem d_La_law_626 : decode b_La_law 626 = .ok (.iload 5, 2) := by decide +kernel
theorem d_La_law_628 : decode b_La_law 628 = .ok (.ifCond .ne 15, 3) := by decide +kernel
theorem d_La_law_631 : decode b_La_law 631 = .ok (.aload_n 3, 1) := by decide +kernel
theorem d_La_law_632 : decode b_La_law 632 = .ok (.iconst 0, 1) := by decide +kernel
theorem d_La_law_633 : decode b_La_law 633 = .ok (.laload, 1) := by decide +kernel
theorem d_La_law_634 : decode b_La_law 634 = .ok (.iload 6, 2) := by decide +kernel
theorem d_La_law_636 : decode b_La_law 636 = .ok (.i2l, 1) := by decide +kernel
theorem d_La_law_637 : decode b_La_law 637 = .ok (.lcmp, 1) := by decide +kernel
theorem d_La_law_638 : decode b_La_law 638 = .ok (.ifCond .eq 5, 3) := by decide +kernel
theorem d_La_law_641 : decode b_La_law 641 = .ok (.iconst 0, 1) := by decide +kernel
theorem d_La_law_642 : decode b_La_law 642 = .ok (.ireturn, 1) := by decide +kernel
theorem d_La_law_643 : decode b_La_law 643 = .ok (.goto 195, 3) := by decide +kernel
theorem d_La_law_646 : decode b_La_law 646 = .ok (.aload_n 1, 1) := by decide +kernel
theorem d_La_law_647 : decode b_La_law 647 = .ok (.aload_n 0, 1) := by decide +kernel
theorem d_La_law_648 : decode b_La_law 648 = .ok (.iload 4, 2) := by decide +kernel
theorem d_La_law_650 : decode b_La_law 650 = .ok (.iconst 1, 1) := by decide +kernel
theorem d_La_law_651 : decode b_La_law 651 = .ok (.iadd, 1) := by decide +kernel
theorem d_La_law_652 : decode b_La_law 652 = .ok (.iaload, 1) := by decide +kernel
theorem d_La_law_653 : decode b_La_law 653 = .ok (.aload_n 3, 1) := by decide +kernel
theorem d_La_law_654 : decode b_La_law 654 = .ok (.invokestatic 102, 3) := by decide +kernel
theorem d_La_law_657 : decode b_La_law 657 = .ok (.istore 5, 2) := by decide +kernel
theorem d_La_law_659 : decode b_La_law 659 = .ok (.aload_n 2, 1) := by decide +kernel
theorem d_La_law_660 : decode b_La_law 660 = .ok (.aload_n 0, 1) := by decide +kernel
theorem d_La_law_661 : decode b_La_law 661 = .ok (.iload 4, 2) := by decide +kernel
theorem d_La_law_663 : decode b_La_law 663 = .ok (.iconst 1, 1) := by decide +kernel
theorem d_La_law_664 : decode b_La_law 664 = .ok (.iadd, 1) := by decide +kernel
theorem d_La_law_665 : decode b_La_law 665 = .ok (.iaload, 1) := by decide +kernel
theorem d_La_law_666 : decode b_La_law 666 = .ok (.invokevirtual 104, 3) := by decide +kernel
theorem d_La_law_669 : decode b_La_law 669 = .ok (.istore 6, 2) := by decide +kernel
theorem d_La_law_671 : decode b_La_law 671 = .ok (.aload_n 2, 1) := by decide +kernel
theorem d_La_law_672 : decode b_La_law 672 = .ok (.invokevirtual 65, 3) := by decide +kernel
theorem d_La_law_675 : decode b_La_law 675 = .ok (.iload 5, 2) := by decide +kernel
theorem d_La_law_677 : decode b_La_law 677 = .ok (.if_icmp .eq 5, 3) := by decide +kernel
theorem d_La_law_680 : decode b_La_law 680 = .ok (.iconst 0, 1) := by decide +kernel
theorem d_La_law_681 : decode b_La_law 681 = .ok (.ireturn, 1) := by decide +kernel
theorem d_La_law_682 : decode b_La_law 682 = .ok (.iload 5, 2) := by decide +kernel
theorem d_La_law_684 : decode b_La_law 684 = .ok (.ifCond .ne 15, 3) := by decide +kernel
theorem d_La_law_687 : decode b_La_law 687 = .ok (.aload_n 3, 1) := by decide +kernel
theorem d_La_law_688 : decode b_La_law 688 = .ok (.iconst 0, 1) := by decide +kernel
theorem d_La_law_689 : decode b_La_law 689 = .ok (.laload, 1) := by decide +kernel
theorem d_La_law_690 : decode b_La_law 690 = .ok (.iload 6, 2) := by decide +kernel
theorem d_La_law_692 : decode b_La_law 692 = .ok (.i2l, 1) := by decide +kernel
theorem d_La_law_693 : decode b_La_law 693 = .ok (.lcmp, 1) := by decide +kernel
theorem d_La_law_694 : decode b_La_law 694 = .ok (.ifCond .eq 5, 3) := by decide +kernel
theorem d_La_law_697 : decode b_La_law 697 = .ok (.iconst 0, 1) := by decide +kernel
theorem d_La_law_698 : decode b_La_law 698 = .ok (.ireturn, 1) := by decide +kernel
theorem d_La_law_699 : decode b_La_law 699 = .ok (.goto 139, 3) := by decide +kernel
theorem d_La_law_702 : decode b_La_law 702 = .ok (.aload_n 1, 1) := by decide +kernel
theorem d_La_law_703 : decode b_La_law 703 = .ok (.aload_n 0, 1) := by decide +kernel
theorem d_La_law_704 : decode b_La_law 704 = .ok (.iload 4, 2) := by decide +kernel
theorem d_La_law_706 : decode b_La_law 706 = .ok (.iconst 1, 1) := by decide +kernel
theorem d_La_law_707 : decode b_La_law 707 = .ok (.iadd, 1) := by decide +kernel
theorem d_La_law_708 : decode b_La_law 708 = .ok (.iaload, 1) := by decide +kernel
theorem d_La_law_709 : decode b_La_law 709 = .ok (.aload_n 3, 1) := by decide +kernel
theorem d_La_law_710 : decode b_La_law 710 = .ok (.invokestatic 105, 3) := by decide +kernel
theorem d_La_law_713 : decode b_La_law 713 = .ok (.istore 5, 2) := by decide +kernel
theorem d_La_law_715 : decode b_La_law 715 = .ok (.aload_n 2, 1) := by decide +kernel
theorem d_La_law_716 : decode b_La_law 716 = .ok (.aload_n 0, 1) := by decide +kernel
theorem d_La_law_717 : decode b_La_law 717 = .ok (.iload 4, 2) := by decide +kernel
theorem d_La_law_719 : decode b_La_law 719 = .ok (.iconst 1, 1) := by decide +kernel
theorem d_La_law_720 : decode b_La_law 720 = .ok (.iadd, 1) := by decide +kernel
theorem d_La_law_721 : decode b_La_law 721 = .ok (.iaload, 1) := by decide +kernel
theorem d_La_law_722 : decode b_La_law 722 = .ok (.invokevirtual 107, 3) := by decide +kernel
theorem d_La_law_725 : decode b_La_law 725 = .ok (.istore 6, 2) := by decide +kernel
theorem d_La_law_727 : decode b_La_law 727 = .ok (.aload_n 2, 1) := by decide +kernel
theorem d_La_law_728 : decode b_La_law 728 = .ok (.invokevirtual 65, 3) := by decide +kernel
theorem d_La_law_731 : decode b_La_law 731 = .ok (.iload 5, 2) := by decide +kernel
theorem d_La_law_733 : decode b_La_law 733 = .ok (.if_icmp .eq 5, 3) := by decide +kernel
theorem d_La_law_736 : decode b_La_law 736 = .ok (.iconst 0, 1) := by decide +kernel
theorem d_La_law_737 : decode b_La_law 737 = .ok (.ireturn, 1) := by decide +kernel
theorem d_La_law_738 : decode b_La_law 738 = .ok (.iload 5, 2) := by decide +kernel
theorem d_La_law_740 : decode b_La_law 740 = .ok (.ifCond .ne 15, 3) := by decide +kernel
theorem d_La_law_743 : decode b_La_law 743 = .ok (.aload_n 3, 1) := by decide +kernel
theorem d_La_law_744 : decode b_La_law 744 = .ok (.iconst 0, 1) := by decide +kernel
theorem d_La_law_745 : decode b_La_law 745 = .ok (.laload, 1) := by decide +kernel
theorem d_La_law_746 : decode b_La_law 746 = .ok (.iload 6, 2) := by decide +kernel
theorem d_La_law_748 : decode b_La_law 748 = .ok (.i2l, 1) := by decide +kernel
theorem d_La_law_749 : decode b_La_law 749 = .ok (.lcmp, 1) := by decide +kernel
theorem d_La_law_750 : decode b_La_law 750 = .ok (.ifCond .eq 5, 3) := by decide +kernel
theorem d_La_law_753 : decode b_La_law 753 = .ok (.iconst 0, 1) := by decide +kernel
theorem d_La_law_754 : decode b_La_law 754 = .ok (.ireturn, 1) := by decide +kernel
theorem d_La_law_755 : decode b_La_law 755 = .ok (.goto 83, 3) := by decide +kernel
theorem d_La_law_758 : decode b_La_law 758 = .ok (.aload_n 1, 1) := by decide +kernel
theorem d_La_law_759 : decode b_La_law 759 = .ok (.aload_n 0, 1) := by decide +kernel
theorem d_La_law_760 : decode b_La_law 760 = .ok (.iload 4, 2) := by decide +kernel
theorem d_La_law_762 : decode b_La_law 762 = .ok (.iconst 1, 1) := by decide +kernel
theorem d_La_law_763 : decode b_La_law 763 = .ok (.iadd, 1) := by decide +kernel
theorem d_La_law_764 : decode b_La_law 764 = .ok (.iaload, 1) := by decide +kernel
theorem d_La_law_765 : decode b_La_law 765 = .ok (.aload_n 0, 1) := by decide +kernel
theorem d_La_law_766 : decode b_La_law 766 = .ok (.iload 4, 2) := by decide +kernel
theorem d_La_law_768 : decode b_La_law 768 = .ok (.iconst 2, 1) := by decide +kernel
theorem d_La_law_769 : decode b_La_law 769 = .ok (.iadd, 1) := by decide +kernel
theorem d_La_law_770 : decode b_La_law 770 = .ok (.iaload, 1) := by decide +kernel
theorem d_La_law_771 : decode b_La_law 771 = .ok (.aload_n 0, 1) := by decide +kernel
theorem d_La_law_772 : decode b_La_law 772 = .ok (.iload 4, 2) := by decide +kernel
theorem d_La_law_774 : decode b_La_law 774 = .ok (.iconst 3, 1) := by decide +kernel
theorem d_La_law_775 : decode b_La_law 775 = .ok (.iadd, 1) := by decide +kernel
theorem d_La_law_776 : decode b_La_law 776 = .ok (.iaload, 1) := by decide +kernel
theorem d_La_law_777 : decode b_La_law 777 = .ok (.aload_n 3, 1) := by decide +kernel
theorem d_La_law_778 : decode b_La_law 778 = .ok (.invokestatic 108, 3) := by decide +kernel
theorem d_La_law_781 : decode b_La_law 781 = .ok (.istore 5, 2) := by decide +kernel
theorem d_La_law_783 : decode b_La_law 783 = .ok (.aload_n 2, 1) := by decide +kernel
theorem d_La_law_784 : decode b_La_law 784 = .ok (.aload_n 0, 1) := by decide +kernel
theorem d_La_law_785 : decode b_La_law 785 = .ok (.iload 4, 2) := by decide +kernel
theorem d_La_law_787 : decode b_La_law 787 = .ok (.iconst 1, 1) := by decide +kernel
theorem d_La_law_788 : decode b_La_law 788 = .ok (.iadd, 1) := by decide +kernel
theorem d_La_law_789 : decode b_La_law 789 = .ok (.iaload, 1) := by decide +kernel
theorem d_La_law_790 : decode b_La_law 790 = .ok (.aload_n 0, 1) := by decide +kernel
theorem d_La_law_791 : decode b_La_law 791 = .ok (.iload 4, 2) := by decide +kernel
theorem d_La_law_793 : decode b_La_law 793 = .ok (.iconst 2, 1) := by decide +kernel
theorem d_La_law_794 : decode b_La_law 794 = .ok (.iadd, 1) := by decide +kernel
theorem d_La_law_795 : decode b_La_law 795 = .ok (.iaload, 1) := by decide +kernel
theorem d_La_law_796 : decode b_La_law 796 = .ok (.aload_n 0, 1) := by decide +kernel
theorem d_La_law_797 : decode b_La_law 797 = .ok (.iload 4, 2) := by decide +kernel
theorem d_La_law_799 : decode b_La_law 799 = .ok (.iconst 3, 1) := by decide +kernel
theorem d_La_law_800 : decode b_La_law 800 = .ok (.iadd, 1) := by decide +kernel
theorem d_La_law_801 : decode b_La_law 801 = .ok (.iaload, 1) := by decide +kernel
theorem d_La_law_802 : decode b_La_law 802 = .ok (.invokevirtual 111, 3) := by decide +kernel
theorem d_La_law_805 : decode b_La_law 805 = .ok (.istore 6, 2) := by decide +kernel
theorem d_La_law_807 : decode b_La_law 807 = .ok (.aload_n 2, 1) := by decide +kernel
theorem d_La_law_808 : decode b_La_law 808 = .ok (.invokevirtual 65, 3) := by decide +kernel
theorem d_La_law_811 : decode b_La_law 811 = .ok (.iload 5, 2) := by decide +kernel
theorem d_La_law_813 : decode b_La_law 813 = .ok (.if_icmp .eq 5, 3) := by decide +kernel
theorem d_La_law_816 : decode b_La_law 816 = .ok (.iconst 0, 1) := by decide +kernel
theorem d_La_law_817 : decode b_La_law 817 = .ok (.ireturn, 1) := by decide +kernel
theorem d_La_law_818 : decode b_La_law 818 = .ok (.iload 5, 2) := by decide +kernel
theorem d_La_law_820 : decode b_La_law 820 = .ok (.ifCond .ne 15, 3) := by decide +kernel
theorem d_La_law_823 : decode b_La_law 823 = .ok (.aload_n 3, 1) := by decide +kernel
theorem d_La_law_824 : decode b_La_law 824 = .ok (.iconst 0, 1) := by decide +kernel
theorem d_La_law_825 : decode b_La_law 825 = .ok (.laload, 1) := by decide +kernel
theorem d_La_law_826 : decode b_La_law 826 = .ok (.iload 6, 2) := by decide +kernel
theorem d_La_law_828 : decode b_La_law 828 = .ok (.i2l, 1) := by decide +kernel
theorem d_La_law_829 : decode b_La_law 829 = .ok (.lcmp, 1) := by decide +kernel
theorem d_La_law_830 : decode b_La_law 830 = .ok (.ifCond .eq 5, 3) := by decide +kernel
theorem d_La_law_833 : decode b_La_law 833 = .ok (.iconst 0, 1) := by decide +kernel
theorem d_La_law_834 : decode b_La_law 834 = .ok (.ireturn, 1) := by decide +kernel
theorem d_La_law_835 : decode b_La_law 835 = .ok (.goto 3, 3) := by decide +kernel
theorem d_La_law_838 : decode b_La_law 838 = .ok (.iinc 4 4, 3) := by decide +kernel
theorem d_La_law_841 : decode b_La_law 841 = .ok (.goto (-818), 3) := by decide +kernel
theorem d_La_law_844 : decode b_La_law 844 = .ok (.iconst 1, 1) := by decide +kernel
theorem d_La_law_845 : decode b_La_law 845 = .ok (.ireturn, 1) := by decide +kernel
