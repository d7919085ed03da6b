-- decode rows (printed by wip/whole/names.py)
theorem d_Q_init_0 : decode b_Q_init 0 = .ok (.aload_n 0, 1) := by decide +kernel
theorem d_Q_init_1 : decode b_Q_init 1 = .ok (.invokespecial 1, 3) := by decide +kernel
theorem d_Q_init_4 : decode b_Q_init 4 = .ok (.aload_n 0, 1) := by decide +kernel
theorem d_Q_init_5 : decode b_Q_init 5 = .ok (.new 7, 3) := by decide +kernel
theorem d_Q_init_8 : decode b_Q_init 8 = .ok (.dup, 1) := by decide +kernel
theorem d_Q_init_9 : decode b_Q_init 9 = .ok (.invokespecial 9, 3) := by decide +kernel
theorem d_Q_init_12 : decode b_Q_init 12 = .ok (.putfield 10, 3) := by decide +kernel
theorem d_Q_init_15 : decode b_Q_init 15 = .ok (.aload_n 0, 1) := by decide +kernel
theorem d_Q_init_16 : decode b_Q_init 16 = .ok (.bipush 9, 2) := by decide +kernel
theorem d_Q_init_18 : decode b_Q_init 18 = .ok (.anewarray 16, 3) := by decide +kernel
theorem d_Q_init_21 : decode b_Q_init 21 = .ok (.putfield 18, 3) := by decide +kernel
theorem d_Q_init_24 : decode b_Q_init 24 = .ok (.aload_n 0, 1) := by decide +kernel
theorem d_Q_init_25 : decode b_Q_init 25 = .ok (.new 22, 3) := by decide +kernel
theorem d_Q_init_28 : decode b_Q_init 28 = .ok (.dup, 1) := by decide +kernel
theorem d_Q_init_29 : decode b_Q_init 29 = .ok (.invokespecial 24, 3) := by decide +kernel
theorem d_Q_init_32 : decode b_Q_init 32 = .ok (.putfield 25, 3) := by decide +kernel
theorem d_Q_init_35 : decode b_Q_init 35 = .ok (.aload_n 0, 1) := by decide +kernel
theorem d_Q_init_36 : decode b_Q_init 36 = .ok (.new 16, 3) := by decide +kernel
theorem d_Q_init_39 : decode b_Q_init 39 = .ok (.dup, 1) := by decide +kernel
theorem d_Q_init_40 : decode b_Q_init 40 = .ok (.invokespecial 29, 3) := by decide +kernel
theorem d_Q_init_43 : decode b_Q_init 43 = .ok (.putfield 30, 3) := by decide +kernel
theorem d_Q_init_46 : decode b_Q_init 46 = .ok (.aload_n 0, 1) := by decide +kernel
theorem d_Q_init_47 : decode b_Q_init 47 = .ok (.iconst 0, 1) := by decide +kernel
theorem d_Q_init_48 : decode b_Q_init 48 = .ok (.putfield 34, 3) := by decide +kernel
theorem d_Q_init_51 : decode b_Q_init 51 = .ok (.aload_n 0, 1) := by decide +kernel
theorem d_Q_init_52 : decode b_Q_init 52 = .ok (.iconst (-1), 1) := by decide +kernel
theorem d_Q_init_53 : decode b_Q_init 53 = .ok (.putfield 38, 3) := by decide +kernel
theorem d_Q_init_56 : decode b_Q_init 56 = .ok (.aload_n 0, 1) := by decide +kernel
theorem d_Q_init_57 : decode b_Q_init 57 = .ok (.getfield 18, 3) := by decide +kernel
theorem d_Q_init_60 : decode b_Q_init 60 = .ok (.iconst 0, 1) := by decide +kernel
theorem d_Q_init_61 : decode b_Q_init 61 = .ok (.aload_n 0, 1) := by decide +kernel
theorem d_Q_init_62 : decode b_Q_init 62 = .ok (.getfield 30, 3) := by decide +kernel
theorem d_Q_init_65 : decode b_Q_init 65 = .ok (.aastore, 1) := by decide +kernel
theorem d_Q_init_66 : decode b_Q_init 66 = .ok (.return_, 1) := by decide +kernel
theorem d_Q_sign_0 : decode b_Q_sign 0 = .ok (.iload_n 3, 1) := by decide +kernel
theorem d_Q_sign_1 : decode b_Q_sign 1 = .ok (.iconst 1, 1) := by decide +kernel
theorem d_Q_sign_2 : decode b_Q_sign 2 = .ok (.if_icmp .lt 9, 3) := by decide +kernel
theorem d_Q_sign_5 : decode b_Q_sign 5 = .ok (.iload_n 3, 1) := by decide +kernel
theorem d_Q_sign_6 : decode b_Q_sign 6 = .ok (.bipush 8, 2) := by decide +kernel
theorem d_Q_sign_8 : decode b_Q_sign 8 = .ok (.if_icmp .le 13, 3) := by decide +kernel
theorem d_Q_sign_11 : decode b_Q_sign 11 = .ok (.new 41, 3) := by decide +kernel
theorem d_Q_sign_14 : decode b_Q_sign 14 = .ok (.dup, 1) := by decide +kernel
theorem d_Q_sign_15 : decode b_Q_sign 15 = .ok (.ldc 43, 2) := by decide +kernel
theorem d_Q_sign_17 : decode b_Q_sign 17 = .ok (.invokespecial 45, 3) := by decide +kernel
theorem d_Q_sign_20 : decode b_Q_sign 20 = .ok (.athrow, 1) := by decide +kernel
theorem d_Q_sign_21 : decode b_Q_sign 21 = .ok (.aload_n 0, 1) := by decide +kernel
theorem d_Q_sign_22 : decode b_Q_sign 22 = .ok (.getfield 10, 3) := by decide +kernel
theorem d_Q_sign_25 : decode b_Q_sign 25 = .ok (.getfield 48, 3) := by decide +kernel
theorem d_Q_sign_28 : decode b_Q_sign 28 = .ok (.iload_n 3, 1) := by decide +kernel
theorem d_Q_sign_29 : decode b_Q_sign 29 = .ok (.iadd, 1) := by decide +kernel
theorem d_Q_sign_30 : decode b_Q_sign 30 = .ok (.sipush 400, 3) := by decide +kernel
theorem d_Q_sign_33 : decode b_Q_sign 33 = .ok (.if_icmp .le 13, 3) := by decide +kernel
theorem d_Q_sign_36 : decode b_Q_sign 36 = .ok (.new 51, 3) := by decide +kernel
theorem d_Q_sign_39 : decode b_Q_sign 39 = .ok (.dup, 1) := by decide +kernel
theorem d_Q_sign_40 : decode b_Q_sign 40 = .ok (.ldc 53, 2) := by decide +kernel
theorem d_Q_sign_42 : decode b_Q_sign 42 = .ok (.invokespecial 55, 3) := by decide +kernel
theorem d_Q_sign_45 : decode b_Q_sign 45 = .ok (.athrow, 1) := by decide +kernel
theorem d_Q_sign_46 : decode b_Q_sign 46 = .ok (.iload_n 3, 1) := by decide +kernel
theorem d_Q_sign_47 : decode b_Q_sign 47 = .ok (.iconst 1, 1) := by decide +kernel
theorem d_Q_sign_48 : decode b_Q_sign 48 = .ok (.isub, 1) := by decide +kernel
theorem d_Q_sign_49 : decode b_Q_sign 49 = .ok (.istore 4, 2) := by decide +kernel
theorem d_Q_sign_51 : decode b_Q_sign 51 = .ok (.iload 4, 2) := by decide +kernel
theorem d_Q_sign_53 : decode b_Q_sign 53 = .ok (.ifCond .lt 28, 3) := by decide +kernel
theorem d_Q_sign_56 : decode b_Q_sign 56 = .ok (.aload_n 0, 1) := by decide +kernel
theorem d_Q_sign_57 : decode b_Q_sign 57 = .ok (.getfield 10, 3) := by decide +kernel
theorem d_Q_sign_60 : decode b_Q_sign 60 = .ok (.lload_n 1, 1) := by decide +kernel
theorem d_Q_sign_61 : decode b_Q_sign 61 = .ok (.bipush 8, 2) := by decide +kernel
theorem d_Q_sign_63 : decode b_Q_sign 63 = .ok (.iload 4, 2) := by decide +kernel
theorem d_Q_sign_65 : decode b_Q_sign 65 = .ok (.imul, 1) := by decide +kernel
theorem d_Q_sign_66 : decode b_Q_sign 66 = .ok (.lushr, 1) := by decide +kernel
theorem d_Q_sign_67 : decode b_Q_sign 67 = .ok (.l2i, 1) := by decide +kernel
theorem d_Q_sign_68 : decode b_Q_sign 68 = .ok (.sipush 255, 3) := by decide +kernel
theorem d_Q_sign_71 : decode b_Q_sign 71 = .ok (.iand, 1) := by decide +kernel
theorem d_Q_sign_72 : decode b_Q_sign 72 = .ok (.invokevirtual 56, 3) := by decide +kernel
theorem d_Q_sign_75 : decode b_Q_sign 75 = .ok (.iinc 4 (-1), 3) := by decide +kernel
theorem d_Q_sign_78 : decode b_Q_sign 78 = .ok (.goto (-27), 3) := by decide +kernel
theorem d_Q_sign_81 : decode b_Q_sign 81 = .ok (.aload_n 0, 1) := by decide +kernel
theorem d_Q_sign_82 : decode b_Q_sign 82 = .ok (.getfield 10, 3) := by decide +kernel
theorem d_Q_sign_85 : decode b_Q_sign 85 = .ok (.getfield 48, 3) := by decide +kernel
theorem d_Q_sign_88 : decode b_Q_sign 88 = .ok (.ireturn, 1) := by decide +kernel
theorem d_Q_read_0 : decode b_Q_read 0 = .ok (.aload_n 0, 1) := by decide +kernel
theorem d_Q_read_1 : decode b_Q_read 1 = .ok (.getfield 25, 3) := by decide +kernel
theorem d_Q_read_4 : decode b_Q_read 4 = .ok (.invokevirtual 60, 3) := by decide +kernel
theorem d_Q_read_7 : decode b_Q_read 7 = .ok (.aload_n 0, 1) := by decide +kernel
theorem d_Q_read_8 : decode b_Q_read 8 = .ok (.aload_n 0, 1) := by decide +kernel
theorem d_Q_read_9 : decode b_Q_read 9 = .ok (.getfield 10, 3) := by decide +kernel
theorem d_Q_read_12 : decode b_Q_read 12 = .ok (.invokevirtual 63, 3) := by decide +kernel
theorem d_Q_read_15 : decode b_Q_read 15 = .ok (.putfield 38, 3) := by decide +kernel
theorem d_Q_read_18 : decode b_Q_read 18 = .ok (.aload_n 0, 1) := by decide +kernel
theorem d_Q_read_19 : decode b_Q_read 19 = .ok (.getfield 38, 3) := by decide +kernel
theorem d_Q_read_22 : decode b_Q_read 22 = .ok (.iconst (-1), 1) := by decide +kernel
theorem d_Q_read_23 : decode b_Q_read 23 = .ok (.if_icmp .eq 13, 3) := by decide +kernel
theorem d_Q_read_26 : decode b_Q_read 26 = .ok (.new 41, 3) := by decide +kernel
theorem d_Q_read_29 : decode b_Q_read 29 = .ok (.dup, 1) := by decide +kernel
theorem d_Q_read_30 : decode b_Q_read 30 = .ok (.ldc 67, 2) := by decide +kernel
theorem d_Q_read_32 : decode b_Q_read 32 = .ok (.invokespecial 45, 3) := by decide +kernel
theorem d_Q_read_35 : decode b_Q_read 35 = .ok (.athrow, 1) := by decide +kernel
theorem d_Q_read_36 : decode b_Q_read 36 = .ok (.aload_n 0, 1) := by decide +kernel
theorem d_Q_read_37 : decode b_Q_read 37 = .ok (.getfield 34, 3) := by decide +kernel
theorem d_Q_read_40 : decode b_Q_read 40 = .ok (.bipush 8, 2) := by decide +kernel
theorem d_Q_read_42 : decode b_Q_read 42 = .ok (.if_icmp .lt 13, 3) := by decide +kernel
theorem d_Q_read_45 : decode b_Q_read 45 = .ok (.new 51, 3) := by decide +kernel
theorem d_Q_read_48 : decode b_Q_read 48 = .ok (.dup, 1) := by decide +kernel
theorem d_Q_read_49 : decode b_Q_read 49 = .ok (.ldc 69, 2) := by decide +kernel
theorem d_Q_read_51 : decode b_Q_read 51 = .ok (.invokespecial 55, 3) := by decide +kernel
theorem d_Q_read_54 : decode b_Q_read 54 = .ok (.athrow, 1) := by decide +kernel
theorem d_Q_read_55 : decode b_Q_read 55 = .ok (.new 16, 3) := by decide +kernel
theorem d_Q_read_58 : decode b_Q_read 58 = .ok (.dup, 1) := by decide +kernel
theorem d_Q_read_59 : decode b_Q_read 59 = .ok (.invokespecial 29, 3) := by decide +kernel
theorem d_Q_read_62 : decode b_Q_read 62 = .ok (.astore_n 1, 1) := by decide +kernel
theorem d_Q_read_63 : decode b_Q_read 63 = .ok (.aload_n 1, 1) := by decide +kernel
theorem d_Q_read_64 : decode b_Q_read 64 = .ok (.aload_n 0, 1) := by decide +kernel
theorem d_Q_read_65 : decode b_Q_read 65 = .ok (.getfield 30, 3) := by decide +kernel
theorem d_Q_read_68 : decode b_Q_read 68 = .ok (.getfield 71, 3) := by decide +kernel
theorem d_Q_read_71 : decode b_Q_read 71 = .ok (.aload_n 0, 1) := by decide +kernel
theorem d_Q_read_72 : decode b_Q_read 72 = .ok (.getfield 30, 3) := by decide +kernel
theorem d_Q_read_75 : decode b_Q_read 75 = .ok (.getfield 75, 3) := by decide +kernel
theorem d_Q_read_78 : decode b_Q_read 78 = .ok (.invokevirtual 79, 3) := by decide +kernel
theorem d_Q_read_81 : decode b_Q_read 81 = .ok (.aload_n 1, 1) := by decide +kernel
theorem d_Q_read_82 : decode b_Q_read 82 = .ok (.aload_n 0, 1) := by decide +kernel
theorem d_Q_read_83 : decode b_Q_read 83 = .ok (.getfield 10, 3) := by decide +kernel
theorem d_Q_read_86 : decode b_Q_read 86 = .ok (.getfield 83, 3) := by decide +kernel
theorem d_Q_read_89 : decode b_Q_read 89 = .ok (.aload_n 0, 1) := by decide +kernel
theorem d_Q_read_90 : decode b_Q_read 90 = .ok (.getfield 10, 3) := by decide +kernel
theorem d_Q_read_93 : decode b_Q_read 93 = .ok (.getfield 84, 3) := by decide +kernel
theorem d_Q_read_96 : decode b_Q_read 96 = .ok (.invokevirtual 79, 3) := by decide +kernel
theorem d_Q_read_99 : decode b_Q_read 99 = .ok (.aload_n 1, 1) := by decide +kernel
theorem d_Q_read_100 : decode b_Q_read 100 = .ok (.invokevirtual 85, 3) := by decide +kernel
theorem d_Q_read_103 : decode b_Q_read 103 = .ok (.aload_n 0, 1) := by decide +kernel
theorem d_Q_read_104 : decode b_Q_read 104 = .ok (.dup, 1) := by decide +kernel
theorem d_Q_read_105 : decode b_Q_read 105 = .ok (.getfield 34, 3) := by decide +kernel
theorem d_Q_read_108 : decode b_Q_read 108 = .ok (.iconst 1, 1) := by decide +kernel
theorem d_Q_read_109 : decode b_Q_read 109 = .ok (.iadd, 1) := by decide +kernel
theorem d_Q_read_110 : decode b_Q_read 110 = .ok (.putfield 34, 3) := by decide +kernel
theorem d_Q_read_113 : decode b_Q_read 113 = .ok (.aload_n 0, 1) := by decide +kernel
theorem d_Q_read_114 : decode b_Q_read 114 = .ok (.getfield 18, 3) := by decide +kernel
theorem d_Q_read_117 : decode b_Q_read 117 = .ok (.aload_n 0, 1) := by decide +kernel
theorem d_Q_read_118 : decode b_Q_read 118 = .ok (.getfield 34, 3) := by decide +kernel
theorem d_Q_read_121 : decode b_Q_read 121 = .ok (.aload_n 1, 1) := by decide +kernel
theorem d_Q_read_122 : decode b_Q_read 122 = .ok (.aastore, 1) := by decide +kernel
theorem d_Q_read_123 : decode b_Q_read 123 = .ok (.aload_n 0, 1) := by decide +kernel
theorem d_Q_read_124 : decode b_Q_read 124 = .ok (.aload_n 1, 1) := by decide +kernel
theorem d_Q_read_125 : decode b_Q_read 125 = .ok (.putfield 30, 3) := by decide +kernel
theorem d_Q_read_128 : decode b_Q_read 128 = .ok (.aload_n 0, 1) := by decide +kernel
theorem d_Q_read_129 : decode b_Q_read 129 = .ok (.getfield 30, 3) := by decide +kernel
theorem d_Q_read_132 : decode b_Q_read 132 = .ok (.getfield 88, 3) := by decide +kernel
theorem d_Q_read_135 : decode b_Q_read 135 = .ok (.ireturn, 1) := by decide +kernel
theorem d_Q_place_0 : decode b_Q_place 0 = .ok (.aload_n 0, 1) := by decide +kernel
theorem d_Q_place_1 : decode b_Q_place 1 = .ok (.getfield 38, 3) := by decide +kernel
theorem d_Q_place_4 : decode b_Q_place 4 = .ok (.ireturn, 1) := by decide +kernel
theorem d_Q_edition_0 : decode b_Q_edition 0 = .ok (.iload_n 1, 1) := by decide +kernel
theorem d_Q_edition_1 : decode b_Q_edition 1 = .ok (.ifCond .lt 11, 3) := by decide +kernel
theorem d_Q_edition_4 : decode b_Q_edition 4 = .ok (.iload_n 1, 1) := by decide +kernel
theorem d_Q_edition_5 : decode b_Q_edition 5 = .ok (.aload_n 0, 1) := by decide +kernel
theorem d_Q_edition_6 : decode b_Q_edition 6 = .ok (.getfield 34, 3) := by decide +kernel
theorem d_Q_edition_9 : decode b_Q_edition 9 = .ok (.if_icmp .le 13, 3) := by decide +kernel
theorem d_Q_edition_12 : decode b_Q_edition 12 = .ok (.new 41, 3) := by decide +kernel
theorem d_Q_edition_15 : decode b_Q_edition 15 = .ok (.dup, 1) := by decide +kernel
theorem d_Q_edition_16 : decode b_Q_edition 16 = .ok (.ldc 91, 2) := by decide +kernel
theorem d_Q_edition_18 : decode b_Q_edition 18 = .ok (.invokespecial 45, 3) := by decide +kernel
theorem d_Q_edition_21 : decode b_Q_edition 21 = .ok (.athrow, 1) := by decide +kernel
theorem d_Q_edition_22 : decode b_Q_edition 22 = .ok (.aload_n 0, 1) := by decide +kernel
theorem d_Q_edition_23 : decode b_Q_edition 23 = .ok (.getfield 25, 3) := by decide +kernel
theorem d_Q_edition_26 : decode b_Q_edition 26 = .ok (.invokevirtual 60, 3) := by decide +kernel
theorem d_Q_edition_29 : decode b_Q_edition 29 = .ok (.aload_n 0, 1) := by decide +kernel
theorem d_Q_edition_30 : decode b_Q_edition 30 = .ok (.aload_n 0, 1) := by decide +kernel
theorem d_Q_edition_31 : decode b_Q_edition 31 = .ok (.getfield 18, 3) := by decide +kernel
theorem d_Q_edition_34 : decode b_Q_edition 34 = .ok (.iload_n 1, 1) := by decide +kernel
theorem d_Q_edition_35 : decode b_Q_edition 35 = .ok (.aaload, 1) := by decide +kernel
theorem d_Q_edition_36 : decode b_Q_edition 36 = .ok (.putfield 30, 3) := by decide +kernel
theorem d_Q_edition_39 : decode b_Q_edition 39 = .ok (.aload_n 0, 1) := by decide +kernel
theorem d_Q_edition_40 : decode b_Q_edition 40 = .ok (.getfield 30, 3) := by decide +kernel
theorem d_Q_edition_43 : decode b_Q_edition 43 = .ok (.getfield 88, 3) := by decide +kernel
theorem d_Q_edition_46 : decode b_Q_edition 46 = .ok (.ireturn, 1) := by decide +kernel
theorem d_Q_first_0 : decode b_Q_first 0 = .ok (.aload_n 0, 1) := by decide +kernel
theorem d_Q_first_1 : decode b_Q_first 1 = .ok (.getfield 30, 3) := by decide +kernel
theorem d_Q_first_4 : decode b_Q_first 4 = .ok (.iload_n 1, 1) := by decide +kernel
theorem d_Q_first_5 : decode b_Q_first 5 = .ok (.invokevirtual 93, 3) := by decide +kernel
theorem d_Q_first_8 : decode b_Q_first 8 = .ok (.astore_n 2, 1) := by decide +kernel
theorem d_Q_first_9 : decode b_Q_first 9 = .ok (.aload_n 2, 1) := by decide +kernel
theorem d_Q_first_10 : decode b_Q_first 10 = .ok (.ifnonnull 13, 3) := by decide +kernel
theorem d_Q_first_13 : decode b_Q_first 13 = .ok (.new 41, 3) := by decide +kernel
theorem d_Q_first_16 : decode b_Q_first 16 = .ok (.dup, 1) := by decide +kernel
theorem d_Q_first_17 : decode b_Q_first 17 = .ok (.ldc 97, 2) := by decide +kernel
theorem d_Q_first_19 : decode b_Q_first 19 = .ok (.invokespecial 45, 3) := by decide +kernel
theorem d_Q_first_22 : decode b_Q_first 22 = .ok (.athrow, 1) := by decide +kernel
theorem d_Q_first_23 : decode b_Q_first 23 = .ok (.aload_n 0, 1) := by decide +kernel
theorem d_Q_first_24 : decode b_Q_first 24 = .ok (.getfield 25, 3) := by decide +kernel
theorem d_Q_first_27 : decode b_Q_first 27 = .ok (.invokevirtual 60, 3) := by decide +kernel
theorem d_Q_first_30 : decode b_Q_first 30 = .ok (.aload_n 0, 1) := by decide +kernel
theorem d_Q_first_31 : decode b_Q_first 31 = .ok (.getfield 25, 3) := by decide +kernel
theorem d_Q_first_34 : decode b_Q_first 34 = .ok (.iload_n 1, 1) := by decide +kernel
theorem d_Q_first_35 : decode b_Q_first 35 = .ok (.putfield 99, 3) := by decide +kernel
theorem d_Q_first_38 : decode b_Q_first 38 = .ok (.aload_n 0, 1) := by decide +kernel
theorem d_Q_first_39 : decode b_Q_first 39 = .ok (.getfield 25, 3) := by decide +kernel
theorem d_Q_first_42 : decode b_Q_first 42 = .ok (.aload_n 0, 1) := by decide +kernel
theorem d_Q_first_43 : decode b_Q_first 43 = .ok (.getfield 30, 3) := by decide +kernel
theorem d_Q_first_46 : decode b_Q_first 46 = .ok (.aload_n 2, 1) := by decide +kernel
theorem d_Q_first_47 : decode b_Q_first 47 = .ok (.getfield 102, 3) := by decide +kernel
theorem d_Q_first_50 : decode b_Q_first 50 = .ok (.invokevirtual 107, 3) := by decide +kernel
theorem d_Q_first_53 : decode b_Q_first 53 = .ok (.invokevirtual 111, 3) := by decide +kernel
theorem d_Q_first_56 : decode b_Q_first 56 = .ok (.aload_n 0, 1) := by decide +kernel
theorem d_Q_first_57 : decode b_Q_first 57 = .ok (.getfield 25, 3) := by decide +kernel
theorem d_Q_first_60 : decode b_Q_first 60 = .ok (.getfield 114, 3) := by decide +kernel
theorem d_Q_first_63 : decode b_Q_first 63 = .ok (.ireturn, 1) := by decide +kernel
theorem d_Q_answer_0 : decode b_Q_answer 0 = .ok (.aload_n 0, 1) := by decide +kernel
theorem d_Q_answer_1 : decode b_Q_answer 1 = .ok (.getfield 30, 3) := by decide +kernel
theorem d_Q_answer_4 : decode b_Q_answer 4 = .ok (.aload_n 0, 1) := by decide +kernel
theorem d_Q_answer_5 : decode b_Q_answer 5 = .ok (.getfield 25, 3) := by decide +kernel
theorem d_Q_answer_8 : decode b_Q_answer 8 = .ok (.getfield 114, 3) := by decide +kernel
theorem d_Q_answer_11 : decode b_Q_answer 11 = .ok (.invokevirtual 117, 3) := by decide +kernel
theorem d_Q_answer_14 : decode b_Q_answer 14 = .ok (.astore_n 2, 1) := by decide +kernel
theorem d_Q_answer_15 : decode b_Q_answer 15 = .ok (.aload_n 2, 1) := by decide +kernel
theorem d_Q_answer_16 : decode b_Q_answer 16 = .ok (.ifnonnull 13, 3) := by decide +kernel
theorem d_Q_answer_19 : decode b_Q_answer 19 = .ok (.new 51, 3) := by decide +kernel
theorem d_Q_answer_22 : decode b_Q_answer 22 = .ok (.dup, 1) := by decide +kernel
theorem d_Q_answer_23 : decode b_Q_answer 23 = .ok (.ldc 121, 2) := by decide +kernel
theorem d_Q_answer_25 : decode b_Q_answer 25 = .ok (.invokespecial 55, 3) := by decide +kernel
theorem d_Q_answer_28 : decode b_Q_answer 28 = .ok (.athrow, 1) := by decide +kernel
theorem d_Q_answer_29 : decode b_Q_answer 29 = .ok (.aload_n 2, 1) := by decide +kernel
theorem d_Q_answer_30 : decode b_Q_answer 30 = .ok (.iload_n 1, 1) := by decide +kernel
theorem d_Q_answer_31 : decode b_Q_answer 31 = .ok (.invokevirtual 123, 3) := by decide +kernel
theorem d_Q_answer_34 : decode b_Q_answer 34 = .ok (.ifCond .ne 13, 3) := by decide +kernel
theorem d_Q_answer_37 : decode b_Q_answer 37 = .ok (.new 41, 3) := by decide +kernel
theorem d_Q_answer_40 : decode b_Q_answer 40 = .ok (.dup, 1) := by decide +kernel
theorem d_Q_answer_41 : decode b_Q_answer 41 = .ok (.ldc 129, 2) := by decide +kernel
theorem d_Q_answer_43 : decode b_Q_answer 43 = .ok (.invokespecial 45, 3) := by decide +kernel
theorem d_Q_answer_46 : decode b_Q_answer 46 = .ok (.athrow, 1) := by decide +kernel
theorem d_Q_answer_47 : decode b_Q_answer 47 = .ok (.aload_n 2, 1) := by decide +kernel
theorem d_Q_answer_48 : decode b_Q_answer 48 = .ok (.iload_n 1, 1) := by decide +kernel
theorem d_Q_answer_49 : decode b_Q_answer 49 = .ok (.invokevirtual 131, 3) := by decide +kernel
theorem d_Q_answer_52 : decode b_Q_answer 52 = .ok (.astore_n 3, 1) := by decide +kernel
theorem d_Q_answer_53 : decode b_Q_answer 53 = .ok (.aload_n 0, 1) := by decide +kernel
theorem d_Q_answer_54 : decode b_Q_answer 54 = .ok (.getfield 30, 3) := by decide +kernel
theorem d_Q_answer_57 : decode b_Q_answer 57 = .ok (.aload_n 3, 1) := by decide +kernel
theorem d_Q_answer_58 : decode b_Q_answer 58 = .ok (.getfield 135, 3) := by decide +kernel
theorem d_Q_answer_61 : decode b_Q_answer 61 = .ok (.invokevirtual 107, 3) := by decide +kernel
theorem d_Q_answer_64 : decode b_Q_answer 64 = .ok (.istore 4, 2) := by decide +kernel
theorem d_Q_answer_66 : decode b_Q_answer 66 = .ok (.iload 4, 2) := by decide +kernel
theorem d_Q_answer_68 : decode b_Q_answer 68 = .ok (.ifCond .eq 25, 3) := by decide +kernel
theorem d_Q_answer_71 : decode b_Q_answer 71 = .ok (.aload_n 0, 1) := by decide +kernel
theorem d_Q_answer_72 : decode b_Q_answer 72 = .ok (.getfield 25, 3) := by decide +kernel
theorem d_Q_answer_75 : decode b_Q_answer 75 = .ok (.getfield 140, 3) := by decide +kernel
theorem d_Q_answer_78 : decode b_Q_answer 78 = .ok (.bipush 40, 2) := by decide +kernel
theorem d_Q_answer_80 : decode b_Q_answer 80 = .ok (.if_icmp .lt 13, 3) := by decide +kernel
theorem d_Q_answer_83 : decode b_Q_answer 83 = .ok (.new 51, 3) := by decide +kernel
theorem d_Q_answer_86 : decode b_Q_answer 86 = .ok (.dup, 1) := by decide +kernel
theorem d_Q_answer_87 : decode b_Q_answer 87 = .ok (.ldc 143, 2) := by decide +kernel
theorem d_Q_answer_89 : decode b_Q_answer 89 = .ok (.invokespecial 55, 3) := by decide +kernel
theorem d_Q_answer_92 : decode b_Q_answer 92 = .ok (.athrow, 1) := by decide +kernel
theorem d_Q_answer_93 : decode b_Q_answer 93 = .ok (.aload_n 0, 1) := by decide +kernel
theorem d_Q_answer_94 : decode b_Q_answer 94 = .ok (.getfield 25, 3) := by decide +kernel
theorem d_Q_answer_97 : decode b_Q_answer 97 = .ok (.getfield 145, 3) := by decide +kernel
theorem d_Q_answer_100 : decode b_Q_answer 100 = .ok (.aload_n 0, 1) := by decide +kernel
theorem d_Q_answer_101 : decode b_Q_answer 101 = .ok (.getfield 25, 3) := by decide +kernel
theorem d_Q_answer_104 : decode b_Q_answer 104 = .ok (.getfield 114, 3) := by decide +kernel
theorem d_Q_answer_107 : decode b_Q_answer 107 = .ok (.iload_n 1, 1) := by decide +kernel
theorem d_Q_answer_108 : decode b_Q_answer 108 = .ok (.iastore, 1) := by decide +kernel
theorem d_Q_answer_109 : decode b_Q_answer 109 = .ok (.aload_n 0, 1) := by decide +kernel
theorem d_Q_answer_110 : decode b_Q_answer 110 = .ok (.getfield 25, 3) := by decide +kernel
theorem d_Q_answer_113 : decode b_Q_answer 113 = .ok (.dup, 1) := by decide +kernel
theorem d_Q_answer_114 : decode b_Q_answer 114 = .ok (.getfield 149, 3) := by decide +kernel
theorem d_Q_answer_117 : decode b_Q_answer 117 = .ok (.aload_n 3, 1) := by decide +kernel
theorem d_Q_answer_118 : decode b_Q_answer 118 = .ok (.getfield 152, 3) := by decide +kernel
theorem d_Q_answer_121 : decode b_Q_answer 121 = .ok (.iadd, 1) := by decide +kernel
theorem d_Q_answer_122 : decode b_Q_answer 122 = .ok (.putfield 149, 3) := by decide +kernel
theorem d_Q_answer_125 : decode b_Q_answer 125 = .ok (.aload_n 0, 1) := by decide +kernel
theorem d_Q_answer_126 : decode b_Q_answer 126 = .ok (.getfield 25, 3) := by decide +kernel
theorem d_Q_answer_129 : decode b_Q_answer 129 = .ok (.iload 4, 2) := by decide +kernel
theorem d_Q_answer_131 : decode b_Q_answer 131 = .ok (.invokevirtual 111, 3) := by decide +kernel
theorem d_Q_answer_134 : decode b_Q_answer 134 = .ok (.iload 4, 2) := by decide +kernel
theorem d_Q_answer_136 : decode b_Q_answer 136 = .ok (.ireturn, 1) := by decide +kernel
theorem d_Q_kind_0 : decode b_Q_kind 0 = .ok (.aload_n 0, 1) := by decide +kernel
theorem d_Q_kind_1 : decode b_Q_kind 1 = .ok (.getfield 25, 3) := by decide +kernel
theorem d_Q_kind_4 : decode b_Q_kind 4 = .ok (.getfield 99, 3) := by decide +kernel
theorem d_Q_kind_7 : decode b_Q_kind 7 = .ok (.ireturn, 1) := by decide +kernel
theorem d_Q_priority_0 : decode b_Q_priority 0 = .ok (.aload_n 0, 1) := by decide +kernel
theorem d_Q_priority_1 : decode b_Q_priority 1 = .ok (.getfield 30, 3) := by decide +kernel
theorem d_Q_priority_4 : decode b_Q_priority 4 = .ok (.aload_n 0, 1) := by decide +kernel
theorem d_Q_priority_5 : decode b_Q_priority 5 = .ok (.getfield 25, 3) := by decide +kernel
theorem d_Q_priority_8 : decode b_Q_priority 8 = .ok (.getfield 99, 3) := by decide +kernel
theorem d_Q_priority_11 : decode b_Q_priority 11 = .ok (.invokevirtual 93, 3) := by decide +kernel
theorem d_Q_priority_14 : decode b_Q_priority 14 = .ok (.astore_n 1, 1) := by decide +kernel
theorem d_Q_priority_15 : decode b_Q_priority 15 = .ok (.aload_n 1, 1) := by decide +kernel
theorem d_Q_priority_16 : decode b_Q_priority 16 = .ok (.ifnonnull 13, 3) := by decide +kernel
theorem d_Q_priority_19 : decode b_Q_priority 19 = .ok (.new 51, 3) := by decide +kernel
theorem d_Q_priority_22 : decode b_Q_priority 22 = .ok (.dup, 1) := by decide +kernel
theorem d_Q_priority_23 : decode b_Q_priority 23 = .ok (.ldc 153, 2) := by decide +kernel
theorem d_Q_priority_25 : decode b_Q_priority 25 = .ok (.invokespecial 55, 3) := by decide +kernel
theorem d_Q_priority_28 : decode b_Q_priority 28 = .ok (.athrow, 1) := by decide +kernel
theorem d_Q_priority_29 : decode b_Q_priority 29 = .ok (.aload_n 1, 1) := by decide +kernel
theorem d_Q_priority_30 : decode b_Q_priority 30 = .ok (.aload_n 0, 1) := by decide +kernel
theorem d_Q_priority_31 : decode b_Q_priority 31 = .ok (.getfield 25, 3) := by decide +kernel
theorem d_Q_priority_34 : decode b_Q_priority 34 = .ok (.invokevirtual 155, 3) := by decide +kernel
theorem d_Q_priority_37 : decode b_Q_priority 37 = .ok (.ireturn, 1) := by decide +kernel
theorem d_Q_points_0 : decode b_Q_points 0 = .ok (.aload_n 0, 1) := by decide +kernel
theorem d_Q_points_1 : decode b_Q_points 1 = .ok (.getfield 25, 3) := by decide +kernel
theorem d_Q_points_4 : decode b_Q_points 4 = .ok (.getfield 99, 3) := by decide +kernel
theorem d_Q_points_7 : decode b_Q_points 7 = .ok (.ifCond .ne 13, 3) := by decide +kernel
theorem d_Q_points_10 : decode b_Q_points 10 = .ok (.new 51, 3) := by decide +kernel
theorem d_Q_points_13 : decode b_Q_points 13 = .ok (.dup, 1) := by decide +kernel
theorem d_Q_points_14 : decode b_Q_points 14 = .ok (.ldc 153, 2) := by decide +kernel
theorem d_Q_points_16 : decode b_Q_points 16 = .ok (.invokespecial 55, 3) := by decide +kernel
theorem d_Q_points_19 : decode b_Q_points 19 = .ok (.athrow, 1) := by decide +kernel
theorem d_Q_points_20 : decode b_Q_points 20 = .ok (.aload_n 0, 1) := by decide +kernel
theorem d_Q_points_21 : decode b_Q_points 21 = .ok (.getfield 25, 3) := by decide +kernel
theorem d_Q_points_24 : decode b_Q_points 24 = .ok (.getfield 149, 3) := by decide +kernel
theorem d_Q_points_27 : decode b_Q_points 27 = .ok (.ireturn, 1) := by decide +kernel
theorem d_Q_asked_0 : decode b_Q_asked 0 = .ok (.iload_n 1, 1) := by decide +kernel
theorem d_Q_asked_1 : decode b_Q_asked 1 = .ok (.ifCond .ge 13, 3) := by decide +kernel
theorem d_Q_asked_4 : decode b_Q_asked 4 = .ok (.new 41, 3) := by decide +kernel
theorem d_Q_asked_7 : decode b_Q_asked 7 = .ok (.dup, 1) := by decide +kernel
theorem d_Q_asked_8 : decode b_Q_asked 8 = .ok (.ldc 159, 2) := by decide +kernel
theorem d_Q_asked_10 : decode b_Q_asked 10 = .ok (.invokespecial 45, 3) := by decide +kernel
theorem d_Q_asked_13 : decode b_Q_asked 13 = .ok (.athrow, 1) := by decide +kernel
theorem d_Q_asked_14 : decode b_Q_asked 14 = .ok (.iload_n 1, 1) := by decide +kernel
theorem d_Q_asked_15 : decode b_Q_asked 15 = .ok (.aload_n 0, 1) := by decide +kernel
theorem d_Q_asked_16 : decode b_Q_asked 16 = .ok (.getfield 25, 3) := by decide +kernel
theorem d_Q_asked_19 : decode b_Q_asked 19 = .ok (.getfield 140, 3) := by decide +kernel
theorem d_Q_asked_22 : decode b_Q_asked 22 = .ok (.if_icmp .ge 15, 3) := by decide +kernel
theorem d_Q_asked_25 : decode b_Q_asked 25 = .ok (.aload_n 0, 1) := by decide +kernel
theorem d_Q_asked_26 : decode b_Q_asked 26 = .ok (.getfield 25, 3) := by decide +kernel
theorem d_Q_asked_29 : decode b_Q_asked 29 = .ok (.getfield 161, 3) := by decide +kernel
theorem d_Q_asked_32 : decode b_Q_asked 32 = .ok (.iload_n 1, 1) := by decide +kernel
theorem d_Q_asked_33 : decode b_Q_asked 33 = .ok (.iaload, 1) := by decide +kernel
theorem d_Q_asked_34 : decode b_Q_asked 34 = .ok (.goto 4, 3) := by decide +kernel
theorem d_Q_asked_37 : decode b_Q_asked 37 = .ok (.iconst 0, 1) := by decide +kernel
theorem d_Q_asked_38 : decode b_Q_asked 38 = .ok (.ireturn, 1) := by decide +kernel
theorem d_Q_loop_0 : decode b_Q_loop 0 = .ok (.iload_n 1, 1) := by decide +kernel
theorem d_Q_loop_1 : decode b_Q_loop 1 = .ok (.ifCond .ge 13, 3) := by decide +kernel
theorem d_Q_loop_4 : decode b_Q_loop 4 = .ok (.new 41, 3) := by decide +kernel
theorem d_Q_loop_7 : decode b_Q_loop 7 = .ok (.dup, 1) := by decide +kernel
theorem d_Q_loop_8 : decode b_Q_loop 8 = .ok (.ldc 159, 2) := by decide +kernel
theorem d_Q_loop_10 : decode b_Q_loop 10 = .ok (.invokespecial 45, 3) := by decide +kernel
theorem d_Q_loop_13 : decode b_Q_loop 13 = .ok (.athrow, 1) := by decide +kernel
theorem d_Q_loop_14 : decode b_Q_loop 14 = .ok (.aload_n 0, 1) := by decide +kernel
theorem d_Q_loop_15 : decode b_Q_loop 15 = .ok (.getfield 30, 3) := by decide +kernel
theorem d_Q_loop_18 : decode b_Q_loop 18 = .ok (.getfield 164, 3) := by decide +kernel
theorem d_Q_loop_21 : decode b_Q_loop 21 = .ok (.iload_n 1, 1) := by decide +kernel
theorem d_Q_loop_22 : decode b_Q_loop 22 = .ok (.invokestatic 168, 3) := by decide +kernel
theorem d_Q_loop_25 : decode b_Q_loop 25 = .ok (.ireturn, 1) := by decide +kernel
theorem d_Q_never_0 : decode b_Q_never 0 = .ok (.iload_n 1, 1) := by decide +kernel
theorem d_Q_never_1 : decode b_Q_never 1 = .ok (.ifCond .ge 13, 3) := by decide +kernel
theorem d_Q_never_4 : decode b_Q_never 4 = .ok (.new 41, 3) := by decide +kernel
theorem d_Q_never_7 : decode b_Q_never 7 = .ok (.dup, 1) := by decide +kernel
theorem d_Q_never_8 : decode b_Q_never 8 = .ok (.ldc 159, 2) := by decide +kernel
theorem d_Q_never_10 : decode b_Q_never 10 = .ok (.invokespecial 45, 3) := by decide +kernel
theorem d_Q_never_13 : decode b_Q_never 13 = .ok (.athrow, 1) := by decide +kernel
theorem d_Q_never_14 : decode b_Q_never 14 = .ok (.aload_n 0, 1) := by decide +kernel
theorem d_Q_never_15 : decode b_Q_never 15 = .ok (.getfield 30, 3) := by decide +kernel
theorem d_Q_never_18 : decode b_Q_never 18 = .ok (.getfield 172, 3) := by decide +kernel
theorem d_Q_never_21 : decode b_Q_never 21 = .ok (.iload_n 1, 1) := by decide +kernel
theorem d_Q_never_22 : decode b_Q_never 22 = .ok (.invokestatic 168, 3) := by decide +kernel
theorem d_Q_never_25 : decode b_Q_never 25 = .ok (.ireturn, 1) := by decide +kernel
theorem d_Q_endless_0 : decode b_Q_endless 0 = .ok (.iload_n 1, 1) := by decide +kernel
theorem d_Q_endless_1 : decode b_Q_endless 1 = .ok (.ifCond .ge 13, 3) := by decide +kernel
theorem d_Q_endless_4 : decode b_Q_endless 4 = .ok (.new 41, 3) := by decide +kernel
theorem d_Q_endless_7 : decode b_Q_endless 7 = .ok (.dup, 1) := by decide +kernel
theorem d_Q_endless_8 : decode b_Q_endless 8 = .ok (.ldc 159, 2) := by decide +kernel
theorem d_Q_endless_10 : decode b_Q_endless 10 = .ok (.invokespecial 45, 3) := by decide +kernel
theorem d_Q_endless_13 : decode b_Q_endless 13 = .ok (.athrow, 1) := by decide +kernel
theorem d_Q_endless_14 : decode b_Q_endless 14 = .ok (.aload_n 0, 1) := by decide +kernel
theorem d_Q_endless_15 : decode b_Q_endless 15 = .ok (.getfield 30, 3) := by decide +kernel
theorem d_Q_endless_18 : decode b_Q_endless 18 = .ok (.getfield 175, 3) := by decide +kernel
theorem d_Q_endless_21 : decode b_Q_endless 21 = .ok (.iload_n 1, 1) := by decide +kernel
theorem d_Q_endless_22 : decode b_Q_endless 22 = .ok (.invokestatic 168, 3) := by decide +kernel
theorem d_Q_endless_25 : decode b_Q_endless 25 = .ok (.ireturn, 1) := by decide +kernel
theorem d_Q_word_0 : decode b_Q_word 0 = .ok (.aload_n 0, 1) := by decide +kernel
theorem d_Q_word_1 : decode b_Q_word 1 = .ok (.getfield 30, 3) := by decide +kernel
theorem d_Q_word_4 : decode b_Q_word 4 = .ok (.iload_n 1, 1) := by decide +kernel
theorem d_Q_word_5 : decode b_Q_word 5 = .ok (.invokevirtual 117, 3) := by decide +kernel
theorem d_Q_word_8 : decode b_Q_word 8 = .ok (.astore 4, 2) := by decide +kernel
theorem d_Q_word_10 : decode b_Q_word 10 = .ok (.aload 4, 2) := by decide +kernel
theorem d_Q_word_12 : decode b_Q_word 12 = .ok (.ifnull 16, 3) := by decide +kernel
theorem d_Q_word_15 : decode b_Q_word 15 = .ok (.iload_n 2, 1) := by decide +kernel
theorem d_Q_word_16 : decode b_Q_word 16 = .ok (.ifCond .lt 12, 3) := by decide +kernel
theorem d_Q_word_19 : decode b_Q_word 19 = .ok (.iload_n 2, 1) := by decide +kernel
theorem d_Q_word_20 : decode b_Q_word 20 = .ok (.iconst 1, 1) := by decide +kernel
theorem d_Q_word_21 : decode b_Q_word 21 = .ok (.if_icmp .gt 7, 3) := by decide +kernel
theorem d_Q_word_24 : decode b_Q_word 24 = .ok (.iload_n 3, 1) := by decide +kernel
theorem d_Q_word_25 : decode b_Q_word 25 = .ok (.ifCond .ge 13, 3) := by decide +kernel
theorem d_Q_word_28 : decode b_Q_word 28 = .ok (.new 41, 3) := by decide +kernel
theorem d_Q_word_31 : decode b_Q_word 31 = .ok (.dup, 1) := by decide +kernel
theorem d_Q_word_32 : decode b_Q_word 32 = .ok (.ldc 178, 2) := by decide +kernel
theorem d_Q_word_34 : decode b_Q_word 34 = .ok (.invokespecial 45, 3) := by decide +kernel
theorem d_Q_word_37 : decode b_Q_word 37 = .ok (.athrow, 1) := by decide +kernel
theorem d_Q_word_38 : decode b_Q_word 38 = .ok (.iload_n 2, 1) := by decide +kernel
theorem d_Q_word_39 : decode b_Q_word 39 = .ok (.ifCond .ne 11, 3) := by decide +kernel
theorem d_Q_word_42 : decode b_Q_word 42 = .ok (.aload 4, 2) := by decide +kernel
theorem d_Q_word_44 : decode b_Q_word 44 = .ok (.getfield 180, 3) := by decide +kernel
theorem d_Q_word_47 : decode b_Q_word 47 = .ok (.goto 8, 3) := by decide +kernel
theorem d_Q_word_50 : decode b_Q_word 50 = .ok (.aload 4, 2) := by decide +kernel
theorem d_Q_word_52 : decode b_Q_word 52 = .ok (.getfield 183, 3) := by decide +kernel
theorem d_Q_word_55 : decode b_Q_word 55 = .ok (.astore 5, 2) := by decide +kernel
theorem d_Q_word_57 : decode b_Q_word 57 = .ok (.iload_n 3, 1) := by decide +kernel
theorem d_Q_word_58 : decode b_Q_word 58 = .ok (.aload 5, 2) := by decide +kernel
theorem d_Q_word_60 : decode b_Q_word 60 = .ok (.arraylength, 1) := by decide +kernel
theorem d_Q_word_61 : decode b_Q_word 61 = .ok (.if_icmp .ge 10, 3) := by decide +kernel
theorem d_Q_word_64 : decode b_Q_word 64 = .ok (.aload 5, 2) := by decide +kernel
theorem d_Q_word_66 : decode b_Q_word 66 = .ok (.iload_n 3, 1) := by decide +kernel
theorem d_Q_word_67 : decode b_Q_word 67 = .ok (.iaload, 1) := by decide +kernel
theorem d_Q_word_68 : decode b_Q_word 68 = .ok (.goto 4, 3) := by decide +kernel
theorem d_Q_word_71 : decode b_Q_word 71 = .ok (.iconst (-1), 1) := by decide +kernel
theorem d_Q_word_72 : decode b_Q_word 72 = .ok (.ireturn, 1) := by decide +kernel
theorem d_Q_memberOf_0 : decode b_Q_memberOf 0 = .ok (.iconst 0, 1) := by decide +kernel
theorem d_Q_memberOf_1 : decode b_Q_memberOf 1 = .ok (.istore_n 3, 1) := by decide +kernel
theorem d_Q_memberOf_2 : decode b_Q_memberOf 2 = .ok (.iconst 1, 1) := by decide +kernel
theorem d_Q_memberOf_3 : decode b_Q_memberOf 3 = .ok (.istore 4, 2) := by decide +kernel
theorem d_Q_memberOf_5 : decode b_Q_memberOf 5 = .ok (.iload 4, 2) := by decide +kernel
theorem d_Q_memberOf_7 : decode b_Q_memberOf 7 = .ok (.bipush 60, 2) := by decide +kernel
theorem d_Q_memberOf_9 : decode b_Q_memberOf 9 = .ok (.if_icmp .gt 29, 3) := by decide +kernel
theorem d_Q_memberOf_12 : decode b_Q_memberOf 12 = .ok (.lload_n 0, 1) := by decide +kernel
theorem d_Q_memberOf_13 : decode b_Q_memberOf 13 = .ok (.iload 4, 2) := by decide +kernel
theorem d_Q_memberOf_15 : decode b_Q_memberOf 15 = .ok (.invokestatic 186, 3) := by decide +kernel
theorem d_Q_memberOf_18 : decode b_Q_memberOf 18 = .ok (.ifCond .eq 14, 3) := by decide +kernel
theorem d_Q_memberOf_21 : decode b_Q_memberOf 21 = .ok (.iload_n 3, 1) := by decide +kernel
theorem d_Q_memberOf_22 : decode b_Q_memberOf 22 = .ok (.iload_n 2, 1) := by decide +kernel
theorem d_Q_memberOf_23 : decode b_Q_memberOf 23 = .ok (.if_icmp .ne 6, 3) := by decide +kernel
theorem d_Q_memberOf_26 : decode b_Q_memberOf 26 = .ok (.iload 4, 2) := by decide +kernel
theorem d_Q_memberOf_28 : decode b_Q_memberOf 28 = .ok (.ireturn, 1) := by decide +kernel
theorem d_Q_memberOf_29 : decode b_Q_memberOf 29 = .ok (.iinc 3 1, 3) := by decide +kernel
theorem d_Q_memberOf_32 : decode b_Q_memberOf 32 = .ok (.iinc 4 1, 3) := by decide +kernel
theorem d_Q_memberOf_35 : decode b_Q_memberOf 35 = .ok (.goto (-30), 3) := by decide +kernel
theorem d_Q_memberOf_38 : decode b_Q_memberOf 38 = .ok (.iconst 0, 1) := by decide +kernel
theorem d_Q_memberOf_39 : decode b_Q_memberOf 39 = .ok (.ireturn, 1) := by decide +kernel
theorem d_Q_hasMember_0 : decode b_Q_hasMember 0 = .ok (.lload_n 0, 1) := by decide +kernel
theorem d_Q_hasMember_1 : decode b_Q_hasMember 1 = .ok (.iload_n 2, 1) := by decide +kernel
theorem d_Q_hasMember_2 : decode b_Q_hasMember 2 = .ok (.lushr, 1) := by decide +kernel
theorem d_Q_hasMember_3 : decode b_Q_hasMember 3 = .ok (.lconst 1, 1) := by decide +kernel
theorem d_Q_hasMember_4 : decode b_Q_hasMember 4 = .ok (.land, 1) := by decide +kernel
theorem d_Q_hasMember_5 : decode b_Q_hasMember 5 = .ok (.lconst 0, 1) := by decide +kernel
theorem d_Q_hasMember_6 : decode b_Q_hasMember 6 = .ok (.lcmp, 1) := by decide +kernel
theorem d_Q_hasMember_7 : decode b_Q_hasMember 7 = .ok (.ifCond .eq 7, 3) := by decide +kernel
theorem d_Q_hasMember_10 : decode b_Q_hasMember 10 = .ok (.iconst 1, 1) := by decide +kernel
theorem d_Q_hasMember_11 : decode b_Q_hasMember 11 = .ok (.goto 4, 3) := by decide +kernel
theorem d_Q_hasMember_14 : decode b_Q_hasMember 14 = .ok (.iconst 0, 1) := by decide +kernel
theorem d_Q_hasMember_15 : decode b_Q_hasMember 15 = .ok (.ireturn, 1) := by decide +kernel
theorem d_Ca_init_0 : decode b_Ca_init 0 = .ok (.aload_n 0, 1) := by decide +kernel
theorem d_Ca_init_1 : decode b_Ca_init 1 = .ok (.invokespecial 3, 3) := by decide +kernel
theorem d_Ca_init_4 : decode b_Ca_init 4 = .ok (.aload_n 0, 1) := by decide +kernel
theorem d_Ca_init_5 : decode b_Ca_init 5 = .ok (.bipush 40, 2) := by decide +kernel
theorem d_Ca_init_7 : decode b_Ca_init 7 = .ok (.newarray .int, 2) := by decide +kernel
theorem d_Ca_init_9 : decode b_Ca_init 9 = .ok (.putfield 9, 3) := by decide +kernel
theorem d_Ca_init_12 : decode b_Ca_init 12 = .ok (.aload_n 0, 1) := by decide +kernel
theorem d_Ca_init_13 : decode b_Ca_init 13 = .ok (.bipush 61, 2) := by decide +kernel
theorem d_Ca_init_15 : decode b_Ca_init 15 = .ok (.newarray .int, 2) := by decide +kernel
theorem d_Ca_init_17 : decode b_Ca_init 17 = .ok (.putfield 15, 3) := by decide +kernel
theorem d_Ca_init_20 : decode b_Ca_init 20 = .ok (.aload_n 0, 1) := by decide +kernel
theorem d_Ca_init_21 : decode b_Ca_init 21 = .ok (.iconst 0, 1) := by decide +kernel
theorem d_Ca_init_22 : decode b_Ca_init 22 = .ok (.putfield 18, 3) := by decide +kernel
theorem d_Ca_init_25 : decode b_Ca_init 25 = .ok (.aload_n 0, 1) := by decide +kernel
theorem d_Ca_init_26 : decode b_Ca_init 26 = .ok (.iconst 0, 1) := by decide +kernel
theorem d_Ca_init_27 : decode b_Ca_init 27 = .ok (.putfield 22, 3) := by decide +kernel
theorem d_Ca_init_30 : decode b_Ca_init 30 = .ok (.aload_n 0, 1) := by decide +kernel
theorem d_Ca_init_31 : decode b_Ca_init 31 = .ok (.iconst 0, 1) := by decide +kernel
theorem d_Ca_init_32 : decode b_Ca_init 32 = .ok (.putfield 25, 3) := by decide +kernel
theorem d_Ca_init_35 : decode b_Ca_init 35 = .ok (.aload_n 0, 1) := by decide +kernel
theorem d_Ca_init_36 : decode b_Ca_init 36 = .ok (.iconst 0, 1) := by decide +kernel
theorem d_Ca_init_37 : decode b_Ca_init 37 = .ok (.putfield 28, 3) := by decide +kernel
theorem d_Ca_init_40 : decode b_Ca_init 40 = .ok (.return_, 1) := by decide +kernel
theorem d_Ca_clear_0 : decode b_Ca_clear 0 = .ok (.aload_n 0, 1) := by decide +kernel
theorem d_Ca_clear_1 : decode b_Ca_clear 1 = .ok (.getfield 15, 3) := by decide +kernel
theorem d_Ca_clear_4 : decode b_Ca_clear 4 = .ok (.iconst (-1), 1) := by decide +kernel
theorem d_Ca_clear_5 : decode b_Ca_clear 5 = .ok (.invokestatic 31, 3) := by decide +kernel
theorem d_Ca_clear_8 : decode b_Ca_clear 8 = .ok (.aload_n 0, 1) := by decide +kernel
theorem d_Ca_clear_9 : decode b_Ca_clear 9 = .ok (.iconst 0, 1) := by decide +kernel
theorem d_Ca_clear_10 : decode b_Ca_clear 10 = .ok (.putfield 18, 3) := by decide +kernel
theorem d_Ca_clear_13 : decode b_Ca_clear 13 = .ok (.aload_n 0, 1) := by decide +kernel
theorem d_Ca_clear_14 : decode b_Ca_clear 14 = .ok (.iconst 0, 1) := by decide +kernel
theorem d_Ca_clear_15 : decode b_Ca_clear 15 = .ok (.putfield 22, 3) := by decide +kernel
theorem d_Ca_clear_18 : decode b_Ca_clear 18 = .ok (.aload_n 0, 1) := by decide +kernel
theorem d_Ca_clear_19 : decode b_Ca_clear 19 = .ok (.iconst 0, 1) := by decide +kernel
theorem d_Ca_clear_20 : decode b_Ca_clear 20 = .ok (.putfield 25, 3) := by decide +kernel
theorem d_Ca_clear_23 : decode b_Ca_clear 23 = .ok (.aload_n 0, 1) := by decide +kernel
theorem d_Ca_clear_24 : decode b_Ca_clear 24 = .ok (.iconst 0, 1) := by decide +kernel
theorem d_Ca_clear_25 : decode b_Ca_clear 25 = .ok (.putfield 28, 3) := by decide +kernel
theorem d_Ca_clear_28 : decode b_Ca_clear 28 = .ok (.return_, 1) := by decide +kernel
theorem d_Ca_ask_0 : decode b_Ca_ask 0 = .ok (.aload_n 0, 1) := by decide +kernel
theorem d_Ca_ask_1 : decode b_Ca_ask 1 = .ok (.iload_n 1, 1) := by decide +kernel
theorem d_Ca_ask_2 : decode b_Ca_ask 2 = .ok (.putfield 22, 3) := by decide +kernel
theorem d_Ca_ask_5 : decode b_Ca_ask 5 = .ok (.iload_n 1, 1) := by decide +kernel
theorem d_Ca_ask_6 : decode b_Ca_ask 6 = .ok (.ifCond .eq 32, 3) := by decide +kernel
theorem d_Ca_ask_9 : decode b_Ca_ask 9 = .ok (.aload_n 0, 1) := by decide +kernel
theorem d_Ca_ask_10 : decode b_Ca_ask 10 = .ok (.getfield 18, 3) := by decide +kernel
theorem d_Ca_ask_13 : decode b_Ca_ask 13 = .ok (.bipush 40, 2) := by decide +kernel
theorem d_Ca_ask_15 : decode b_Ca_ask 15 = .ok (.if_icmp .ge 23, 3) := by decide +kernel
theorem d_Ca_ask_18 : decode b_Ca_ask 18 = .ok (.aload_n 0, 1) := by decide +kernel
theorem d_Ca_ask_19 : decode b_Ca_ask 19 = .ok (.getfield 9, 3) := by decide +kernel
theorem d_Ca_ask_22 : decode b_Ca_ask 22 = .ok (.aload_n 0, 1) := by decide +kernel
theorem d_Ca_ask_23 : decode b_Ca_ask 23 = .ok (.getfield 18, 3) := by decide +kernel
theorem d_Ca_ask_26 : decode b_Ca_ask 26 = .ok (.iload_n 1, 1) := by decide +kernel
theorem d_Ca_ask_27 : decode b_Ca_ask 27 = .ok (.iastore, 1) := by decide +kernel
theorem d_Ca_ask_28 : decode b_Ca_ask 28 = .ok (.aload_n 0, 1) := by decide +kernel
theorem d_Ca_ask_29 : decode b_Ca_ask 29 = .ok (.dup, 1) := by decide +kernel
theorem d_Ca_ask_30 : decode b_Ca_ask 30 = .ok (.getfield 18, 3) := by decide +kernel
theorem d_Ca_ask_33 : decode b_Ca_ask 33 = .ok (.iconst 1, 1) := by decide +kernel
theorem d_Ca_ask_34 : decode b_Ca_ask 34 = .ok (.iadd, 1) := by decide +kernel
theorem d_Ca_ask_35 : decode b_Ca_ask 35 = .ok (.putfield 18, 3) := by decide +kernel
theorem d_Ca_ask_38 : decode b_Ca_ask 38 = .ok (.return_, 1) := by decide +kernel
theorem d_Co_init_0 : decode b_Co_init 0 = .ok (.aload_n 0, 1) := by decide +kernel
theorem d_Co_init_1 : decode b_Co_init 1 = .ok (.invokespecial 1, 3) := by decide +kernel
theorem d_Co_init_4 : decode b_Co_init 4 = .ok (.aload_n 0, 1) := by decide +kernel
theorem d_Co_init_5 : decode b_Co_init 5 = .ok (.aload_n 1, 1) := by decide +kernel
theorem d_Co_init_6 : decode b_Co_init 6 = .ok (.putfield 7, 3) := by decide +kernel
theorem d_Co_init_9 : decode b_Co_init 9 = .ok (.aload_n 0, 1) := by decide +kernel
theorem d_Co_init_10 : decode b_Co_init 10 = .ok (.iload_n 2, 1) := by decide +kernel
theorem d_Co_init_11 : decode b_Co_init 11 = .ok (.putfield 13, 3) := by decide +kernel
theorem d_Co_init_14 : decode b_Co_init 14 = .ok (.return_, 1) := by decide +kernel
theorem d_Co_holds_0 : decode b_Co_holds 0 = .ok (.iconst 0, 1) := by decide +kernel
theorem d_Co_holds_1 : decode b_Co_holds 1 = .ok (.istore_n 2, 1) := by decide +kernel
theorem d_Co_holds_2 : decode b_Co_holds 2 = .ok (.iload_n 2, 1) := by decide +kernel
theorem d_Co_holds_3 : decode b_Co_holds 3 = .ok (.aload_n 0, 1) := by decide +kernel
theorem d_Co_holds_4 : decode b_Co_holds 4 = .ok (.getfield 7, 3) := by decide +kernel
theorem d_Co_holds_7 : decode b_Co_holds 7 = .ok (.invokeinterface 17 1, 5) := by decide +kernel
theorem d_Co_holds_12 : decode b_Co_holds 12 = .ok (.if_icmp .ge 31, 3) := by decide +kernel
theorem d_Co_holds_15 : decode b_Co_holds 15 = .ok (.aload_n 0, 1) := by decide +kernel
theorem d_Co_holds_16 : decode b_Co_holds 16 = .ok (.getfield 7, 3) := by decide +kernel
theorem d_Co_holds_19 : decode b_Co_holds 19 = .ok (.iload_n 2, 1) := by decide +kernel
theorem d_Co_holds_20 : decode b_Co_holds 20 = .ok (.invokeinterface 23 2, 5) := by decide +kernel
theorem d_Co_holds_25 : decode b_Co_holds 25 = .ok (.checkcast 27, 3) := by decide +kernel
theorem d_Co_holds_28 : decode b_Co_holds 28 = .ok (.aload_n 1, 1) := by decide +kernel
theorem d_Co_holds_29 : decode b_Co_holds 29 = .ok (.invokevirtual 29, 3) := by decide +kernel
theorem d_Co_holds_32 : decode b_Co_holds 32 = .ok (.ifCond .ne 5, 3) := by decide +kernel
theorem d_Co_holds_35 : decode b_Co_holds 35 = .ok (.iconst 0, 1) := by decide +kernel
theorem d_Co_holds_36 : decode b_Co_holds 36 = .ok (.ireturn, 1) := by decide +kernel
theorem d_Co_holds_37 : decode b_Co_holds 37 = .ok (.iinc 2 1, 3) := by decide +kernel
theorem d_Co_holds_40 : decode b_Co_holds 40 = .ok (.goto (-38), 3) := by decide +kernel
theorem d_Co_holds_43 : decode b_Co_holds 43 = .ok (.iconst 1, 1) := by decide +kernel
theorem d_Co_holds_44 : decode b_Co_holds 44 = .ok (.ireturn, 1) := by decide +kernel
theorem d_Ed_init_0 : decode b_Ed_init 0 = .ok (.aload_n 0, 1) := by decide +kernel
theorem d_Ed_init_1 : decode b_Ed_init 1 = .ok (.invokespecial 3, 3) := by decide +kernel
theorem d_Ed_init_4 : decode b_Ed_init 4 = .ok (.aload_n 0, 1) := by decide +kernel
theorem d_Ed_init_5 : decode b_Ed_init 5 = .ok (.bipush 61, 2) := by decide +kernel
theorem d_Ed_init_7 : decode b_Ed_init 7 = .ok (.anewarray 9, 3) := by decide +kernel
theorem d_Ed_init_10 : decode b_Ed_init 10 = .ok (.putfield 11, 3) := by decide +kernel
theorem d_Ed_init_13 : decode b_Ed_init 13 = .ok (.aload_n 0, 1) := by decide +kernel
theorem d_Ed_init_14 : decode b_Ed_init 14 = .ok (.bipush 10, 2) := by decide +kernel
theorem d_Ed_init_16 : decode b_Ed_init 16 = .ok (.anewarray 17, 3) := by decide +kernel
theorem d_Ed_init_19 : decode b_Ed_init 19 = .ok (.putfield 19, 3) := by decide +kernel
theorem d_Ed_init_22 : decode b_Ed_init 22 = .ok (.aload_n 0, 1) := by decide +kernel
theorem d_Ed_init_23 : decode b_Ed_init 23 = .ok (.iconst 0, 1) := by decide +kernel
theorem d_Ed_init_24 : decode b_Ed_init 24 = .ok (.putfield 23, 3) := by decide +kernel
theorem d_Ed_init_27 : decode b_Ed_init 27 = .ok (.aload_n 0, 1) := by decide +kernel
theorem d_Ed_init_28 : decode b_Ed_init 28 = .ok (.lconst 0, 1) := by decide +kernel
theorem d_Ed_init_29 : decode b_Ed_init 29 = .ok (.putfield 27, 3) := by decide +kernel
theorem d_Ed_init_32 : decode b_Ed_init 32 = .ok (.aload_n 0, 1) := by decide +kernel
theorem d_Ed_init_33 : decode b_Ed_init 33 = .ok (.lconst 0, 1) := by decide +kernel
theorem d_Ed_init_34 : decode b_Ed_init 34 = .ok (.putfield 31, 3) := by decide +kernel
theorem d_Ed_init_37 : decode b_Ed_init 37 = .ok (.aload_n 0, 1) := by decide +kernel
theorem d_Ed_init_38 : decode b_Ed_init 38 = .ok (.lconst 0, 1) := by decide +kernel
theorem d_Ed_init_39 : decode b_Ed_init 39 = .ok (.putfield 34, 3) := by decide +kernel
theorem d_Ed_init_42 : decode b_Ed_init 42 = .ok (.return_, 1) := by decide +kernel
theorem d_Ed_questionAt_0 : decode b_Ed_questionAt 0 = .ok (.iload_n 1, 1) := by decide +kernel
theorem d_Ed_questionAt_1 : decode b_Ed_questionAt 1 = .ok (.iconst 1, 1) := by decide +kernel
theorem d_Ed_questionAt_2 : decode b_Ed_questionAt 2 = .ok (.if_icmp .lt 9, 3) := by decide +kernel
theorem d_Ed_questionAt_5 : decode b_Ed_questionAt 5 = .ok (.iload_n 1, 1) := by decide +kernel
theorem d_Ed_questionAt_6 : decode b_Ed_questionAt 6 = .ok (.bipush 60, 2) := by decide +kernel
theorem d_Ed_questionAt_8 : decode b_Ed_questionAt 8 = .ok (.if_icmp .le 7, 3) := by decide +kernel
theorem d_Ed_questionAt_11 : decode b_Ed_questionAt 11 = .ok (.aconst_null, 1) := by decide +kernel
theorem d_Ed_questionAt_12 : decode b_Ed_questionAt 12 = .ok (.goto 9, 3) := by decide +kernel
theorem d_Ed_questionAt_15 : decode b_Ed_questionAt 15 = .ok (.aload_n 0, 1) := by decide +kernel
theorem d_Ed_questionAt_16 : decode b_Ed_questionAt 16 = .ok (.getfield 11, 3) := by decide +kernel
theorem d_Ed_questionAt_19 : decode b_Ed_questionAt 19 = .ok (.iload_n 1, 1) := by decide +kernel
theorem d_Ed_questionAt_20 : decode b_Ed_questionAt 20 = .ok (.aaload, 1) := by decide +kernel
theorem d_Ed_questionAt_21 : decode b_Ed_questionAt 21 = .ok (.areturn, 1) := by decide +kernel
theorem d_Ed_kindAt_0 : decode b_Ed_kindAt 0 = .ok (.iload_n 1, 1) := by decide +kernel
theorem d_Ed_kindAt_1 : decode b_Ed_kindAt 1 = .ok (.iconst 1, 1) := by decide +kernel
theorem d_Ed_kindAt_2 : decode b_Ed_kindAt 2 = .ok (.if_icmp .lt 9, 3) := by decide +kernel
theorem d_Ed_kindAt_5 : decode b_Ed_kindAt 5 = .ok (.iload_n 1, 1) := by decide +kernel
theorem d_Ed_kindAt_6 : decode b_Ed_kindAt 6 = .ok (.bipush 9, 2) := by decide +kernel
theorem d_Ed_kindAt_8 : decode b_Ed_kindAt 8 = .ok (.if_icmp .le 7, 3) := by decide +kernel
theorem d_Ed_kindAt_11 : decode b_Ed_kindAt 11 = .ok (.aconst_null, 1) := by decide +kernel
theorem d_Ed_kindAt_12 : decode b_Ed_kindAt 12 = .ok (.goto 9, 3) := by decide +kernel
theorem d_Ed_kindAt_15 : decode b_Ed_kindAt 15 = .ok (.aload_n 0, 1) := by decide +kernel
theorem d_Ed_kindAt_16 : decode b_Ed_kindAt 16 = .ok (.getfield 19, 3) := by decide +kernel
theorem d_Ed_kindAt_19 : decode b_Ed_kindAt 19 = .ok (.iload_n 1, 1) := by decide +kernel
theorem d_Ed_kindAt_20 : decode b_Ed_kindAt 20 = .ok (.aaload, 1) := by decide +kernel
theorem d_Ed_kindAt_21 : decode b_Ed_kindAt 21 = .ok (.areturn, 1) := by decide +kernel
theorem d_Ed_asNext_0 : decode b_Ed_asNext 0 = .ok (.aload_n 0, 1) := by decide +kernel
theorem d_Ed_asNext_1 : decode b_Ed_asNext 1 = .ok (.iload_n 1, 1) := by decide +kernel
theorem d_Ed_asNext_2 : decode b_Ed_asNext 2 = .ok (.invokevirtual 37, 3) := by decide +kernel
theorem d_Ed_asNext_5 : decode b_Ed_asNext 5 = .ok (.ifnonnull 7, 3) := by decide +kernel
theorem d_Ed_asNext_8 : decode b_Ed_asNext 8 = .ok (.iconst 0, 1) := by decide +kernel
theorem d_Ed_asNext_9 : decode b_Ed_asNext 9 = .ok (.goto 4, 3) := by decide +kernel
theorem d_Ed_asNext_12 : decode b_Ed_asNext 12 = .ok (.iload_n 1, 1) := by decide +kernel
theorem d_Ed_asNext_13 : decode b_Ed_asNext 13 = .ok (.ireturn, 1) := by decide +kernel
theorem d_Ed_putRows_0 : decode b_Ed_putRows 0 = .ok (.iconst 1, 1) := by decide +kernel
theorem d_Ed_putRows_1 : decode b_Ed_putRows 1 = .ok (.istore_n 3, 1) := by decide +kernel
theorem d_Ed_putRows_2 : decode b_Ed_putRows 2 = .ok (.iload_n 3, 1) := by decide +kernel
theorem d_Ed_putRows_3 : decode b_Ed_putRows 3 = .ok (.bipush 60, 2) := by decide +kernel
theorem d_Ed_putRows_5 : decode b_Ed_putRows 5 = .ok (.if_icmp .gt 30, 3) := by decide +kernel
theorem d_Ed_putRows_8 : decode b_Ed_putRows 8 = .ok (.iload_n 3, 1) := by decide +kernel
theorem d_Ed_putRows_9 : decode b_Ed_putRows 9 = .ok (.aload_n 1, 1) := by decide +kernel
theorem d_Ed_putRows_10 : decode b_Ed_putRows 10 = .ok (.arraylength, 1) := by decide +kernel
theorem d_Ed_putRows_11 : decode b_Ed_putRows 11 = .ok (.if_icmp .ge 24, 3) := by decide +kernel
theorem d_Ed_putRows_14 : decode b_Ed_putRows 14 = .ok (.aload_n 1, 1) := by decide +kernel
theorem d_Ed_putRows_15 : decode b_Ed_putRows 15 = .ok (.iload_n 3, 1) := by decide +kernel
theorem d_Ed_putRows_16 : decode b_Ed_putRows 16 = .ok (.aaload, 1) := by decide +kernel
theorem d_Ed_putRows_17 : decode b_Ed_putRows 17 = .ok (.ifnull 12, 3) := by decide +kernel
theorem d_Ed_putRows_20 : decode b_Ed_putRows 20 = .ok (.aload_n 0, 1) := by decide +kernel
theorem d_Ed_putRows_21 : decode b_Ed_putRows 21 = .ok (.getfield 11, 3) := by decide +kernel
theorem d_Ed_putRows_24 : decode b_Ed_putRows 24 = .ok (.iload_n 3, 1) := by decide +kernel
theorem d_Ed_putRows_25 : decode b_Ed_putRows 25 = .ok (.aload_n 1, 1) := by decide +kernel
theorem d_Ed_putRows_26 : decode b_Ed_putRows 26 = .ok (.iload_n 3, 1) := by decide +kernel
theorem d_Ed_putRows_27 : decode b_Ed_putRows 27 = .ok (.aaload, 1) := by decide +kernel
theorem d_Ed_putRows_28 : decode b_Ed_putRows 28 = .ok (.aastore, 1) := by decide +kernel
theorem d_Ed_putRows_29 : decode b_Ed_putRows 29 = .ok (.iinc 3 1, 3) := by decide +kernel
theorem d_Ed_putRows_32 : decode b_Ed_putRows 32 = .ok (.goto (-30), 3) := by decide +kernel
theorem d_Ed_putRows_35 : decode b_Ed_putRows 35 = .ok (.iconst 1, 1) := by decide +kernel
theorem d_Ed_putRows_36 : decode b_Ed_putRows 36 = .ok (.istore_n 3, 1) := by decide +kernel
theorem d_Ed_putRows_37 : decode b_Ed_putRows 37 = .ok (.iload_n 3, 1) := by decide +kernel
theorem d_Ed_putRows_38 : decode b_Ed_putRows 38 = .ok (.bipush 9, 2) := by decide +kernel
theorem d_Ed_putRows_40 : decode b_Ed_putRows 40 = .ok (.if_icmp .gt 30, 3) := by decide +kernel
theorem d_Ed_putRows_43 : decode b_Ed_putRows 43 = .ok (.iload_n 3, 1) := by decide +kernel
theorem d_Ed_putRows_44 : decode b_Ed_putRows 44 = .ok (.aload_n 2, 1) := by decide +kernel
theorem d_Ed_putRows_45 : decode b_Ed_putRows 45 = .ok (.arraylength, 1) := by decide +kernel
theorem d_Ed_putRows_46 : decode b_Ed_putRows 46 = .ok (.if_icmp .ge 24, 3) := by decide +kernel
theorem d_Ed_putRows_49 : decode b_Ed_putRows 49 = .ok (.aload_n 2, 1) := by decide +kernel
theorem d_Ed_putRows_50 : decode b_Ed_putRows 50 = .ok (.iload_n 3, 1) := by decide +kernel
theorem d_Ed_putRows_51 : decode b_Ed_putRows 51 = .ok (.aaload, 1) := by decide +kernel
theorem d_Ed_putRows_52 : decode b_Ed_putRows 52 = .ok (.ifnull 12, 3) := by decide +kernel
theorem d_Ed_putRows_55 : decode b_Ed_putRows 55 = .ok (.aload_n 0, 1) := by decide +kernel
theorem d_Ed_putRows_56 : decode b_Ed_putRows 56 = .ok (.getfield 19, 3) := by decide +kernel
theorem d_Ed_putRows_59 : decode b_Ed_putRows 59 = .ok (.iload_n 3, 1) := by decide +kernel
theorem d_Ed_putRows_60 : decode b_Ed_putRows 60 = .ok (.aload_n 2, 1) := by decide +kernel
theorem d_Ed_putRows_61 : decode b_Ed_putRows 61 = .ok (.iload_n 3, 1) := by decide +kernel
theorem d_Ed_putRows_62 : decode b_Ed_putRows 62 = .ok (.aaload, 1) := by decide +kernel
theorem d_Ed_putRows_63 : decode b_Ed_putRows 63 = .ok (.aastore, 1) := by decide +kernel
theorem d_Ed_putRows_64 : decode b_Ed_putRows 64 = .ok (.iinc 3 1, 3) := by decide +kernel
theorem d_Ed_putRows_67 : decode b_Ed_putRows 67 = .ok (.goto (-30), 3) := by decide +kernel
theorem d_Ed_putRows_70 : decode b_Ed_putRows 70 = .ok (.return_, 1) := by decide +kernel
theorem d_Ed_study_0 : decode b_Ed_study 0 = .ok (.aload_n 0, 1) := by decide +kernel
theorem d_Ed_study_1 : decode b_Ed_study 1 = .ok (.invokevirtual 41, 3) := by decide +kernel
theorem d_Ed_study_4 : decode b_Ed_study 4 = .ok (.astore_n 1, 1) := by decide +kernel
theorem d_Ed_study_5 : decode b_Ed_study 5 = .ok (.lconst 0, 1) := by decide +kernel
theorem d_Ed_study_6 : decode b_Ed_study 6 = .ok (.lstore_n 2, 1) := by decide +kernel
theorem d_Ed_study_7 : decode b_Ed_study 7 = .ok (.iconst 1, 1) := by decide +kernel
theorem d_Ed_study_8 : decode b_Ed_study 8 = .ok (.istore 4, 2) := by decide +kernel
theorem d_Ed_study_10 : decode b_Ed_study 10 = .ok (.iload 4, 2) := by decide +kernel
theorem d_Ed_study_12 : decode b_Ed_study 12 = .ok (.bipush 9, 2) := by decide +kernel
theorem d_Ed_study_14 : decode b_Ed_study 14 = .ok (.if_icmp .gt 84, 3) := by decide +kernel
theorem d_Ed_study_17 : decode b_Ed_study 17 = .ok (.aload_n 0, 1) := by decide +kernel
theorem d_Ed_study_18 : decode b_Ed_study 18 = .ok (.getfield 19, 3) := by decide +kernel
theorem d_Ed_study_21 : decode b_Ed_study 21 = .ok (.iload 4, 2) := by decide +kernel
theorem d_Ed_study_23 : decode b_Ed_study 23 = .ok (.aaload, 1) := by decide +kernel
theorem d_Ed_study_24 : decode b_Ed_study 24 = .ok (.ifnonnull 7, 3) := by decide +kernel
theorem d_Ed_study_27 : decode b_Ed_study 27 = .ok (.iconst 0, 1) := by decide +kernel
theorem d_Ed_study_28 : decode b_Ed_study 28 = .ok (.goto 17, 3) := by decide +kernel
theorem d_Ed_study_31 : decode b_Ed_study 31 = .ok (.aload_n 0, 1) := by decide +kernel
theorem d_Ed_study_32 : decode b_Ed_study 32 = .ok (.aload_n 0, 1) := by decide +kernel
theorem d_Ed_study_33 : decode b_Ed_study 33 = .ok (.getfield 19, 3) := by decide +kernel
theorem d_Ed_study_36 : decode b_Ed_study 36 = .ok (.iload 4, 2) := by decide +kernel
theorem d_Ed_study_38 : decode b_Ed_study 38 = .ok (.aaload, 1) := by decide +kernel
theorem d_Ed_study_39 : decode b_Ed_study 39 = .ok (.getfield 45, 3) := by decide +kernel
theorem d_Ed_study_42 : decode b_Ed_study 42 = .ok (.invokevirtual 48, 3) := by decide +kernel
theorem d_Ed_study_45 : decode b_Ed_study 45 = .ok (.istore 5, 2) := by decide +kernel
theorem d_Ed_study_47 : decode b_Ed_study 47 = .ok (.iload 5, 2) := by decide +kernel
theorem d_Ed_study_49 : decode b_Ed_study 49 = .ok (.ifCond .eq 43, 3) := by decide +kernel
theorem d_Ed_study_52 : decode b_Ed_study 52 = .ok (.lload_n 2, 1) := by decide +kernel
theorem d_Ed_study_53 : decode b_Ed_study 53 = .ok (.lconst 1, 1) := by decide +kernel
theorem d_Ed_study_54 : decode b_Ed_study 54 = .ok (.iload 5, 2) := by decide +kernel
theorem d_Ed_study_56 : decode b_Ed_study 56 = .ok (.lshl, 1) := by decide +kernel
theorem d_Ed_study_57 : decode b_Ed_study 57 = .ok (.aload_n 1, 1) := by decide +kernel
theorem d_Ed_study_58 : decode b_Ed_study 58 = .ok (.iload 5, 2) := by decide +kernel
theorem d_Ed_study_60 : decode b_Ed_study 60 = .ok (.laload, 1) := by decide +kernel
theorem d_Ed_study_61 : decode b_Ed_study 61 = .ok (.lor, 1) := by decide +kernel
theorem d_Ed_study_62 : decode b_Ed_study 62 = .ok (.lor, 1) := by decide +kernel
theorem d_Ed_study_63 : decode b_Ed_study 63 = .ok (.lstore_n 2, 1) := by decide +kernel
theorem d_Ed_study_64 : decode b_Ed_study 64 = .ok (.aload_n 0, 1) := by decide +kernel
theorem d_Ed_study_65 : decode b_Ed_study 65 = .ok (.dup, 1) := by decide +kernel
theorem d_Ed_study_66 : decode b_Ed_study 66 = .ok (.getfield 34, 3) := by decide +kernel
theorem d_Ed_study_69 : decode b_Ed_study 69 = .ok (.aload_n 1, 1) := by decide +kernel
theorem d_Ed_study_70 : decode b_Ed_study 70 = .ok (.iload 5, 2) := by decide +kernel
theorem d_Ed_study_72 : decode b_Ed_study 72 = .ok (.laload, 1) := by decide +kernel
theorem d_Ed_study_73 : decode b_Ed_study 73 = .ok (.iconst 0, 1) := by decide +kernel
theorem d_Ed_study_74 : decode b_Ed_study 74 = .ok (.invokestatic 52, 3) := by decide +kernel
theorem d_Ed_study_77 : decode b_Ed_study 77 = .ok (.ifCond .eq 7, 3) := by decide +kernel
theorem d_Ed_study_80 : decode b_Ed_study 80 = .ok (.lconst 0, 1) := by decide +kernel
theorem d_Ed_study_81 : decode b_Ed_study 81 = .ok (.goto 7, 3) := by decide +kernel
theorem d_Ed_study_84 : decode b_Ed_study 84 = .ok (.lconst 1, 1) := by decide +kernel
theorem d_Ed_study_85 : decode b_Ed_study 85 = .ok (.iload 4, 2) := by decide +kernel
theorem d_Ed_study_87 : decode b_Ed_study 87 = .ok (.lshl, 1) := by decide +kernel
theorem d_Ed_study_88 : decode b_Ed_study 88 = .ok (.lor, 1) := by decide +kernel
theorem d_Ed_study_89 : decode b_Ed_study 89 = .ok (.putfield 34, 3) := by decide +kernel
theorem d_Ed_study_92 : decode b_Ed_study 92 = .ok (.iinc 4 1, 3) := by decide +kernel
theorem d_Ed_study_95 : decode b_Ed_study 95 = .ok (.goto (-85), 3) := by decide +kernel
theorem d_Ed_study_98 : decode b_Ed_study 98 = .ok (.iconst 1, 1) := by decide +kernel
theorem d_Ed_study_99 : decode b_Ed_study 99 = .ok (.istore 4, 2) := by decide +kernel
theorem d_Ed_study_101 : decode b_Ed_study 101 = .ok (.iload 4, 2) := by decide +kernel
theorem d_Ed_study_103 : decode b_Ed_study 103 = .ok (.bipush 60, 2) := by decide +kernel
theorem d_Ed_study_105 : decode b_Ed_study 105 = .ok (.if_icmp .gt 84, 3) := by decide +kernel
theorem d_Ed_study_108 : decode b_Ed_study 108 = .ok (.aload_n 0, 1) := by decide +kernel
theorem d_Ed_study_109 : decode b_Ed_study 109 = .ok (.getfield 11, 3) := by decide +kernel
theorem d_Ed_study_112 : decode b_Ed_study 112 = .ok (.iload 4, 2) := by decide +kernel
theorem d_Ed_study_114 : decode b_Ed_study 114 = .ok (.aaload, 1) := by decide +kernel
theorem d_Ed_study_115 : decode b_Ed_study 115 = .ok (.ifnull 68, 3) := by decide +kernel
theorem d_Ed_study_118 : decode b_Ed_study 118 = .ok (.aload_n 0, 1) := by decide +kernel
theorem d_Ed_study_119 : decode b_Ed_study 119 = .ok (.dup, 1) := by decide +kernel
theorem d_Ed_study_120 : decode b_Ed_study 120 = .ok (.getfield 23, 3) := by decide +kernel
theorem d_Ed_study_123 : decode b_Ed_study 123 = .ok (.iconst 1, 1) := by decide +kernel
theorem d_Ed_study_124 : decode b_Ed_study 124 = .ok (.iadd, 1) := by decide +kernel
theorem d_Ed_study_125 : decode b_Ed_study 125 = .ok (.putfield 23, 3) := by decide +kernel
theorem d_Ed_study_128 : decode b_Ed_study 128 = .ok (.aload_n 0, 1) := by decide +kernel
theorem d_Ed_study_129 : decode b_Ed_study 129 = .ok (.dup, 1) := by decide +kernel
theorem d_Ed_study_130 : decode b_Ed_study 130 = .ok (.getfield 27, 3) := by decide +kernel
theorem d_Ed_study_133 : decode b_Ed_study 133 = .ok (.aload_n 1, 1) := by decide +kernel
theorem d_Ed_study_134 : decode b_Ed_study 134 = .ok (.iload 4, 2) := by decide +kernel
theorem d_Ed_study_136 : decode b_Ed_study 136 = .ok (.laload, 1) := by decide +kernel
theorem d_Ed_study_137 : decode b_Ed_study 137 = .ok (.iload 4, 2) := by decide +kernel
theorem d_Ed_study_139 : decode b_Ed_study 139 = .ok (.invokestatic 52, 3) := by decide +kernel
theorem d_Ed_study_142 : decode b_Ed_study 142 = .ok (.ifCond .eq 10, 3) := by decide +kernel
theorem d_Ed_study_145 : decode b_Ed_study 145 = .ok (.lconst 1, 1) := by decide +kernel
theorem d_Ed_study_146 : decode b_Ed_study 146 = .ok (.iload 4, 2) := by decide +kernel
theorem d_Ed_study_148 : decode b_Ed_study 148 = .ok (.lshl, 1) := by decide +kernel
theorem d_Ed_study_149 : decode b_Ed_study 149 = .ok (.goto 4, 3) := by decide +kernel
theorem d_Ed_study_152 : decode b_Ed_study 152 = .ok (.lconst 0, 1) := by decide +kernel
theorem d_Ed_study_153 : decode b_Ed_study 153 = .ok (.lor, 1) := by decide +kernel
theorem d_Ed_study_154 : decode b_Ed_study 154 = .ok (.putfield 27, 3) := by decide +kernel
theorem d_Ed_study_157 : decode b_Ed_study 157 = .ok (.aload_n 0, 1) := by decide +kernel
theorem d_Ed_study_158 : decode b_Ed_study 158 = .ok (.dup, 1) := by decide +kernel
theorem d_Ed_study_159 : decode b_Ed_study 159 = .ok (.getfield 31, 3) := by decide +kernel
theorem d_Ed_study_162 : decode b_Ed_study 162 = .ok (.lload_n 2, 1) := by decide +kernel
theorem d_Ed_study_163 : decode b_Ed_study 163 = .ok (.iload 4, 2) := by decide +kernel
theorem d_Ed_study_165 : decode b_Ed_study 165 = .ok (.invokestatic 52, 3) := by decide +kernel
theorem d_Ed_study_168 : decode b_Ed_study 168 = .ok (.ifCond .eq 7, 3) := by decide +kernel
theorem d_Ed_study_171 : decode b_Ed_study 171 = .ok (.lconst 0, 1) := by decide +kernel
theorem d_Ed_study_172 : decode b_Ed_study 172 = .ok (.goto 7, 3) := by decide +kernel
theorem d_Ed_study_175 : decode b_Ed_study 175 = .ok (.lconst 1, 1) := by decide +kernel
theorem d_Ed_study_176 : decode b_Ed_study 176 = .ok (.iload 4, 2) := by decide +kernel
theorem d_Ed_study_178 : decode b_Ed_study 178 = .ok (.lshl, 1) := by decide +kernel
theorem d_Ed_study_179 : decode b_Ed_study 179 = .ok (.lor, 1) := by decide +kernel
theorem d_Ed_study_180 : decode b_Ed_study 180 = .ok (.putfield 31, 3) := by decide +kernel
theorem d_Ed_study_183 : decode b_Ed_study 183 = .ok (.iinc 4 1, 3) := by decide +kernel
theorem d_Ed_study_186 : decode b_Ed_study 186 = .ok (.goto (-85), 3) := by decide +kernel
theorem d_Ed_study_189 : decode b_Ed_study 189 = .ok (.return_, 1) := by decide +kernel
theorem d_Ed_waysByJumps_0 : decode b_Ed_waysByJumps 0 = .ok (.bipush 61, 2) := by decide +kernel
theorem d_Ed_waysByJumps_2 : decode b_Ed_waysByJumps 2 = .ok (.newarray .long, 2) := by decide +kernel
theorem d_Ed_waysByJumps_4 : decode b_Ed_waysByJumps 4 = .ok (.astore_n 1, 1) := by decide +kernel
theorem d_Ed_waysByJumps_5 : decode b_Ed_waysByJumps 5 = .ok (.iconst 1, 1) := by decide +kernel
theorem d_Ed_waysByJumps_6 : decode b_Ed_waysByJumps 6 = .ok (.istore_n 2, 1) := by decide +kernel
theorem d_Ed_waysByJumps_7 : decode b_Ed_waysByJumps 7 = .ok (.iload_n 2, 1) := by decide +kernel
theorem d_Ed_waysByJumps_8 : decode b_Ed_waysByJumps 8 = .ok (.bipush 60, 2) := by decide +kernel
theorem d_Ed_waysByJumps_10 : decode b_Ed_waysByJumps 10 = .ok (.if_icmp .gt 35, 3) := by decide +kernel
theorem d_Ed_waysByJumps_13 : decode b_Ed_waysByJumps 13 = .ok (.aload_n 1, 1) := by decide +kernel
theorem d_Ed_waysByJumps_14 : decode b_Ed_waysByJumps 14 = .ok (.iload_n 2, 1) := by decide +kernel
theorem d_Ed_waysByJumps_15 : decode b_Ed_waysByJumps 15 = .ok (.aload_n 0, 1) := by decide +kernel
theorem d_Ed_waysByJumps_16 : decode b_Ed_waysByJumps 16 = .ok (.getfield 11, 3) := by decide +kernel
theorem d_Ed_waysByJumps_19 : decode b_Ed_waysByJumps 19 = .ok (.iload_n 2, 1) := by decide +kernel
theorem d_Ed_waysByJumps_20 : decode b_Ed_waysByJumps 20 = .ok (.aaload, 1) := by decide +kernel
theorem d_Ed_waysByJumps_21 : decode b_Ed_waysByJumps 21 = .ok (.ifnonnull 7, 3) := by decide +kernel
theorem d_Ed_waysByJumps_24 : decode b_Ed_waysByJumps 24 = .ok (.lconst 0, 1) := by decide +kernel
theorem d_Ed_waysByJumps_25 : decode b_Ed_waysByJumps 25 = .ok (.goto 13, 3) := by decide +kernel
theorem d_Ed_waysByJumps_28 : decode b_Ed_waysByJumps 28 = .ok (.aload_n 0, 1) := by decide +kernel
theorem d_Ed_waysByJumps_29 : decode b_Ed_waysByJumps 29 = .ok (.aload_n 0, 1) := by decide +kernel
theorem d_Ed_waysByJumps_30 : decode b_Ed_waysByJumps 30 = .ok (.getfield 11, 3) := by decide +kernel
theorem d_Ed_waysByJumps_33 : decode b_Ed_waysByJumps 33 = .ok (.iload_n 2, 1) := by decide +kernel
theorem d_Ed_waysByJumps_34 : decode b_Ed_waysByJumps 34 = .ok (.aaload, 1) := by decide +kernel
theorem d_Ed_waysByJumps_35 : decode b_Ed_waysByJumps 35 = .ok (.invokevirtual 56, 3) := by decide +kernel
theorem d_Ed_waysByJumps_38 : decode b_Ed_waysByJumps 38 = .ok (.lastore, 1) := by decide +kernel
theorem d_Ed_waysByJumps_39 : decode b_Ed_waysByJumps 39 = .ok (.iinc 2 1, 3) := by decide +kernel
theorem d_Ed_waysByJumps_42 : decode b_Ed_waysByJumps 42 = .ok (.goto (-35), 3) := by decide +kernel
theorem d_Ed_waysByJumps_45 : decode b_Ed_waysByJumps 45 = .ok (.iconst 1, 1) := by decide +kernel
theorem d_Ed_waysByJumps_46 : decode b_Ed_waysByJumps 46 = .ok (.istore_n 2, 1) := by decide +kernel
theorem d_Ed_waysByJumps_47 : decode b_Ed_waysByJumps 47 = .ok (.iload_n 2, 1) := by decide +kernel
theorem d_Ed_waysByJumps_48 : decode b_Ed_waysByJumps 48 = .ok (.bipush 60, 2) := by decide +kernel
theorem d_Ed_waysByJumps_50 : decode b_Ed_waysByJumps 50 = .ok (.if_icmp .gt 42, 3) := by decide +kernel
theorem d_Ed_waysByJumps_53 : decode b_Ed_waysByJumps 53 = .ok (.iconst 1, 1) := by decide +kernel
theorem d_Ed_waysByJumps_54 : decode b_Ed_waysByJumps 54 = .ok (.istore_n 3, 1) := by decide +kernel
theorem d_Ed_waysByJumps_55 : decode b_Ed_waysByJumps 55 = .ok (.iload_n 3, 1) := by decide +kernel
theorem d_Ed_waysByJumps_56 : decode b_Ed_waysByJumps 56 = .ok (.bipush 60, 2) := by decide +kernel
theorem d_Ed_waysByJumps_58 : decode b_Ed_waysByJumps 58 = .ok (.if_icmp .gt 28, 3) := by decide +kernel
theorem d_Ed_waysByJumps_61 : decode b_Ed_waysByJumps 61 = .ok (.aload_n 1, 1) := by decide +kernel
theorem d_Ed_waysByJumps_62 : decode b_Ed_waysByJumps 62 = .ok (.iload_n 3, 1) := by decide +kernel
theorem d_Ed_waysByJumps_63 : decode b_Ed_waysByJumps 63 = .ok (.laload, 1) := by decide +kernel
theorem d_Ed_waysByJumps_64 : decode b_Ed_waysByJumps 64 = .ok (.iload_n 2, 1) := by decide +kernel
theorem d_Ed_waysByJumps_65 : decode b_Ed_waysByJumps 65 = .ok (.invokestatic 52, 3) := by decide +kernel
theorem d_Ed_waysByJumps_68 : decode b_Ed_waysByJumps 68 = .ok (.ifCond .eq 12, 3) := by decide +kernel
theorem d_Ed_waysByJumps_71 : decode b_Ed_waysByJumps 71 = .ok (.aload_n 1, 1) := by decide +kernel
theorem d_Ed_waysByJumps_72 : decode b_Ed_waysByJumps 72 = .ok (.iload_n 3, 1) := by decide +kernel
theorem d_Ed_waysByJumps_73 : decode b_Ed_waysByJumps 73 = .ok (.dup2, 1) := by decide +kernel
theorem d_Ed_waysByJumps_74 : decode b_Ed_waysByJumps 74 = .ok (.laload, 1) := by decide +kernel
theorem d_Ed_waysByJumps_75 : decode b_Ed_waysByJumps 75 = .ok (.aload_n 1, 1) := by decide +kernel
theorem d_Ed_waysByJumps_76 : decode b_Ed_waysByJumps 76 = .ok (.iload_n 2, 1) := by decide +kernel
theorem d_Ed_waysByJumps_77 : decode b_Ed_waysByJumps 77 = .ok (.laload, 1) := by decide +kernel
theorem d_Ed_waysByJumps_78 : decode b_Ed_waysByJumps 78 = .ok (.lor, 1) := by decide +kernel
theorem d_Ed_waysByJumps_79 : decode b_Ed_waysByJumps 79 = .ok (.lastore, 1) := by decide +kernel
theorem d_Ed_waysByJumps_80 : decode b_Ed_waysByJumps 80 = .ok (.iinc 3 1, 3) := by decide +kernel
theorem d_Ed_waysByJumps_83 : decode b_Ed_waysByJumps 83 = .ok (.goto (-28), 3) := by decide +kernel
theorem d_Ed_waysByJumps_86 : decode b_Ed_waysByJumps 86 = .ok (.iinc 2 1, 3) := by decide +kernel
theorem d_Ed_waysByJumps_89 : decode b_Ed_waysByJumps 89 = .ok (.goto (-42), 3) := by decide +kernel
theorem d_Ed_waysByJumps_92 : decode b_Ed_waysByJumps 92 = .ok (.aload_n 1, 1) := by decide +kernel
theorem d_Ed_waysByJumps_93 : decode b_Ed_waysByJumps 93 = .ok (.areturn, 1) := by decide +kernel
theorem d_Ed_targetsOf_0 : decode b_Ed_targetsOf 0 = .ok (.lconst 1, 1) := by decide +kernel
theorem d_Ed_targetsOf_1 : decode b_Ed_targetsOf 1 = .ok (.aload_n 0, 1) := by decide +kernel
theorem d_Ed_targetsOf_2 : decode b_Ed_targetsOf 2 = .ok (.aload_n 1, 1) := by decide +kernel
theorem d_Ed_targetsOf_3 : decode b_Ed_targetsOf 3 = .ok (.getfield 60, 3) := by decide +kernel
theorem d_Ed_targetsOf_6 : decode b_Ed_targetsOf 6 = .ok (.getfield 64, 3) := by decide +kernel
theorem d_Ed_targetsOf_9 : decode b_Ed_targetsOf 9 = .ok (.invokevirtual 48, 3) := by decide +kernel
theorem d_Ed_targetsOf_12 : decode b_Ed_targetsOf 12 = .ok (.lshl, 1) := by decide +kernel
theorem d_Ed_targetsOf_13 : decode b_Ed_targetsOf 13 = .ok (.lstore_n 2, 1) := by decide +kernel
theorem d_Ed_targetsOf_14 : decode b_Ed_targetsOf 14 = .ok (.iconst 0, 1) := by decide +kernel
theorem d_Ed_targetsOf_15 : decode b_Ed_targetsOf 15 = .ok (.istore 4, 2) := by decide +kernel
theorem d_Ed_targetsOf_17 : decode b_Ed_targetsOf 17 = .ok (.iload 4, 2) := by decide +kernel
theorem d_Ed_targetsOf_19 : decode b_Ed_targetsOf 19 = .ok (.aload_n 1, 1) := by decide +kernel
theorem d_Ed_targetsOf_20 : decode b_Ed_targetsOf 20 = .ok (.getfield 69, 3) := by decide +kernel
theorem d_Ed_targetsOf_23 : decode b_Ed_targetsOf 23 = .ok (.invokeinterface 73 1, 5) := by decide +kernel
theorem d_Ed_targetsOf_28 : decode b_Ed_targetsOf 28 = .ok (.if_icmp .ge 35, 3) := by decide +kernel
theorem d_Ed_targetsOf_31 : decode b_Ed_targetsOf 31 = .ok (.lload_n 2, 1) := by decide +kernel
theorem d_Ed_targetsOf_32 : decode b_Ed_targetsOf 32 = .ok (.lconst 1, 1) := by decide +kernel
theorem d_Ed_targetsOf_33 : decode b_Ed_targetsOf 33 = .ok (.aload_n 0, 1) := by decide +kernel
theorem d_Ed_targetsOf_34 : decode b_Ed_targetsOf 34 = .ok (.aload_n 1, 1) := by decide +kernel
theorem d_Ed_targetsOf_35 : decode b_Ed_targetsOf 35 = .ok (.getfield 69, 3) := by decide +kernel
theorem d_Ed_targetsOf_38 : decode b_Ed_targetsOf 38 = .ok (.iload 4, 2) := by decide +kernel
theorem d_Ed_targetsOf_40 : decode b_Ed_targetsOf 40 = .ok (.invokeinterface 78 2, 5) := by decide +kernel
theorem d_Ed_targetsOf_45 : decode b_Ed_targetsOf 45 = .ok (.checkcast 65, 3) := by decide +kernel
theorem d_Ed_targetsOf_48 : decode b_Ed_targetsOf 48 = .ok (.getfield 64, 3) := by decide +kernel
theorem d_Ed_targetsOf_51 : decode b_Ed_targetsOf 51 = .ok (.invokevirtual 48, 3) := by decide +kernel
theorem d_Ed_targetsOf_54 : decode b_Ed_targetsOf 54 = .ok (.lshl, 1) := by decide +kernel
theorem d_Ed_targetsOf_55 : decode b_Ed_targetsOf 55 = .ok (.lor, 1) := by decide +kernel
theorem d_Ed_targetsOf_56 : decode b_Ed_targetsOf 56 = .ok (.lstore_n 2, 1) := by decide +kernel
theorem d_Ed_targetsOf_57 : decode b_Ed_targetsOf 57 = .ok (.iinc 4 1, 3) := by decide +kernel
theorem d_Ed_targetsOf_60 : decode b_Ed_targetsOf 60 = .ok (.goto (-43), 3) := by decide +kernel
theorem d_Ed_targetsOf_63 : decode b_Ed_targetsOf 63 = .ok (.lload_n 2, 1) := by decide +kernel
theorem d_Ed_targetsOf_64 : decode b_Ed_targetsOf 64 = .ok (.lreturn, 1) := by decide +kernel
theorem d_Ju_init_0 : decode b_Ju_init 0 = .ok (.aload_n 0, 1) := by decide +kernel
theorem d_Ju_init_1 : decode b_Ju_init 1 = .ok (.invokespecial 1, 3) := by decide +kernel
theorem d_Ju_init_4 : decode b_Ju_init 4 = .ok (.aload_n 0, 1) := by decide +kernel
theorem d_Ju_init_5 : decode b_Ju_init 5 = .ok (.aload_n 1, 1) := by decide +kernel
theorem d_Ju_init_6 : decode b_Ju_init 6 = .ok (.putfield 7, 3) := by decide +kernel
theorem d_Ju_init_9 : decode b_Ju_init 9 = .ok (.aload_n 0, 1) := by decide +kernel
theorem d_Ju_init_10 : decode b_Ju_init 10 = .ok (.iload_n 2, 1) := by decide +kernel
theorem d_Ju_init_11 : decode b_Ju_init 11 = .ok (.putfield 13, 3) := by decide +kernel
theorem d_Ju_init_14 : decode b_Ju_init 14 = .ok (.aload_n 0, 1) := by decide +kernel
theorem d_Ju_init_15 : decode b_Ju_init 15 = .ok (.iload_n 3, 1) := by decide +kernel
theorem d_Ju_init_16 : decode b_Ju_init 16 = .ok (.putfield 17, 3) := by decide +kernel
theorem d_Ju_init_19 : decode b_Ju_init 19 = .ok (.return_, 1) := by decide +kernel
theorem d_Ki_init_0 : decode b_Ki_init 0 = .ok (.aload_n 0, 1) := by decide +kernel
theorem d_Ki_init_1 : decode b_Ki_init 1 = .ok (.invokespecial 1, 3) := by decide +kernel
theorem d_Ki_init_4 : decode b_Ki_init 4 = .ok (.aload_n 0, 1) := by decide +kernel
theorem d_Ki_init_5 : decode b_Ki_init 5 = .ok (.iload_n 1, 1) := by decide +kernel
theorem d_Ki_init_6 : decode b_Ki_init 6 = .ok (.putfield 7, 3) := by decide +kernel
theorem d_Ki_init_9 : decode b_Ki_init 9 = .ok (.aload_n 0, 1) := by decide +kernel
theorem d_Ki_init_10 : decode b_Ki_init 10 = .ok (.iload_n 2, 1) := by decide +kernel
theorem d_Ki_init_11 : decode b_Ki_init 11 = .ok (.putfield 13, 3) := by decide +kernel
theorem d_Ki_init_14 : decode b_Ki_init 14 = .ok (.aload_n 0, 1) := by decide +kernel
theorem d_Ki_init_15 : decode b_Ki_init 15 = .ok (.aload_n 3, 1) := by decide +kernel
theorem d_Ki_init_16 : decode b_Ki_init 16 = .ok (.putfield 16, 3) := by decide +kernel
theorem d_Ki_init_19 : decode b_Ki_init 19 = .ok (.return_, 1) := by decide +kernel
theorem d_Ki_priorityOf_0 : decode b_Ki_priorityOf 0 = .ok (.iconst 0, 1) := by decide +kernel
theorem d_Ki_priorityOf_1 : decode b_Ki_priorityOf 1 = .ok (.istore_n 2, 1) := by decide +kernel
theorem d_Ki_priorityOf_2 : decode b_Ki_priorityOf 2 = .ok (.iload_n 2, 1) := by decide +kernel
theorem d_Ki_priorityOf_3 : decode b_Ki_priorityOf 3 = .ok (.aload_n 0, 1) := by decide +kernel
theorem d_Ki_priorityOf_4 : decode b_Ki_priorityOf 4 = .ok (.getfield 16, 3) := by decide +kernel
theorem d_Ki_priorityOf_7 : decode b_Ki_priorityOf 7 = .ok (.invokeinterface 20 1, 5) := by decide +kernel
theorem d_Ki_priorityOf_12 : decode b_Ki_priorityOf 12 = .ok (.if_icmp .ge 46, 3) := by decide +kernel
theorem d_Ki_priorityOf_15 : decode b_Ki_priorityOf 15 = .ok (.aload_n 0, 1) := by decide +kernel
theorem d_Ki_priorityOf_16 : decode b_Ki_priorityOf 16 = .ok (.getfield 16, 3) := by decide +kernel
theorem d_Ki_priorityOf_19 : decode b_Ki_priorityOf 19 = .ok (.iload_n 2, 1) := by decide +kernel
theorem d_Ki_priorityOf_20 : decode b_Ki_priorityOf 20 = .ok (.invokeinterface 26 2, 5) := by decide +kernel
theorem d_Ki_priorityOf_25 : decode b_Ki_priorityOf 25 = .ok (.checkcast 30, 3) := by decide +kernel
theorem d_Ki_priorityOf_28 : decode b_Ki_priorityOf 28 = .ok (.aload_n 1, 1) := by decide +kernel
theorem d_Ki_priorityOf_29 : decode b_Ki_priorityOf 29 = .ok (.invokevirtual 32, 3) := by decide +kernel
theorem d_Ki_priorityOf_32 : decode b_Ki_priorityOf 32 = .ok (.ifCond .eq 20, 3) := by decide +kernel
theorem d_Ki_priorityOf_35 : decode b_Ki_priorityOf 35 = .ok (.aload_n 0, 1) := by decide +kernel
theorem d_Ki_priorityOf_36 : decode b_Ki_priorityOf 36 = .ok (.getfield 16, 3) := by decide +kernel
theorem d_Ki_priorityOf_39 : decode b_Ki_priorityOf 39 = .ok (.iload_n 2, 1) := by decide +kernel
theorem d_Ki_priorityOf_40 : decode b_Ki_priorityOf 40 = .ok (.invokeinterface 26 2, 5) := by decide +kernel
theorem d_Ki_priorityOf_45 : decode b_Ki_priorityOf 45 = .ok (.checkcast 30, 3) := by decide +kernel
theorem d_Ki_priorityOf_48 : decode b_Ki_priorityOf 48 = .ok (.getfield 36, 3) := by decide +kernel
theorem d_Ki_priorityOf_51 : decode b_Ki_priorityOf 51 = .ok (.ireturn, 1) := by decide +kernel
theorem d_Ki_priorityOf_52 : decode b_Ki_priorityOf 52 = .ok (.iinc 2 1, 3) := by decide +kernel
theorem d_Ki_priorityOf_55 : decode b_Ki_priorityOf 55 = .ok (.goto (-53), 3) := by decide +kernel
theorem d_Ki_priorityOf_58 : decode b_Ki_priorityOf 58 = .ok (.aload_n 0, 1) := by decide +kernel
theorem d_Ki_priorityOf_59 : decode b_Ki_priorityOf 59 = .ok (.getfield 13, 3) := by decide +kernel
theorem d_Ki_priorityOf_62 : decode b_Ki_priorityOf 62 = .ok (.ireturn, 1) := by decide +kernel
theorem d_Qu_init_0 : decode b_Qu_init 0 = .ok (.aload_n 0, 1) := by decide +kernel
theorem d_Qu_init_1 : decode b_Qu_init 1 = .ok (.invokespecial 3, 3) := by decide +kernel
theorem d_Qu_init_4 : decode b_Qu_init 4 = .ok (.aload_n 0, 1) := by decide +kernel
theorem d_Qu_init_5 : decode b_Qu_init 5 = .ok (.iload_n 1, 1) := by decide +kernel
theorem d_Qu_init_6 : decode b_Qu_init 6 = .ok (.putfield 9, 3) := by decide +kernel
theorem d_Qu_init_9 : decode b_Qu_init 9 = .ok (.aload_n 0, 1) := by decide +kernel
theorem d_Qu_init_10 : decode b_Qu_init 10 = .ok (.aload_n 2, 1) := by decide +kernel
theorem d_Qu_init_11 : decode b_Qu_init 11 = .ok (.putfield 15, 3) := by decide +kernel
theorem d_Qu_init_14 : decode b_Qu_init 14 = .ok (.aload_n 0, 1) := by decide +kernel
theorem d_Qu_init_15 : decode b_Qu_init 15 = .ok (.aload_n 3, 1) := by decide +kernel
theorem d_Qu_init_16 : decode b_Qu_init 16 = .ok (.putfield 19, 3) := by decide +kernel
theorem d_Qu_init_19 : decode b_Qu_init 19 = .ok (.aload_n 0, 1) := by decide +kernel
theorem d_Qu_init_20 : decode b_Qu_init 20 = .ok (.aload 4, 2) := by decide +kernel
theorem d_Qu_init_22 : decode b_Qu_init 22 = .ok (.putfield 23, 3) := by decide +kernel
theorem d_Qu_init_25 : decode b_Qu_init 25 = .ok (.aload_n 0, 1) := by decide +kernel
theorem d_Qu_init_26 : decode b_Qu_init 26 = .ok (.aload 5, 2) := by decide +kernel
theorem d_Qu_init_28 : decode b_Qu_init 28 = .ok (.putfield 26, 3) := by decide +kernel
theorem d_Qu_init_31 : decode b_Qu_init 31 = .ok (.aload_n 0, 1) := by decide +kernel
theorem d_Qu_init_32 : decode b_Qu_init 32 = .ok (.aload 6, 2) := by decide +kernel
theorem d_Qu_init_34 : decode b_Qu_init 34 = .ok (.putfield 30, 3) := by decide +kernel
theorem d_Qu_init_37 : decode b_Qu_init 37 = .ok (.return_, 1) := by decide +kernel
theorem d_Qu_allows_0 : decode b_Qu_allows 0 = .ok (.iload_n 1, 1) := by decide +kernel
theorem d_Qu_allows_1 : decode b_Qu_allows 1 = .ok (.iconst (-1), 1) := by decide +kernel
theorem d_Qu_allows_2 : decode b_Qu_allows 2 = .ok (.if_icmp .ne 18, 3) := by decide +kernel
theorem d_Qu_allows_5 : decode b_Qu_allows 5 = .ok (.aload_n 0, 1) := by decide +kernel
theorem d_Qu_allows_6 : decode b_Qu_allows 6 = .ok (.getfield 9, 3) := by decide +kernel
theorem d_Qu_allows_9 : decode b_Qu_allows 9 = .ok (.ifCond .ne 7, 3) := by decide +kernel
theorem d_Qu_allows_12 : decode b_Qu_allows 12 = .ok (.iconst 1, 1) := by decide +kernel
theorem d_Qu_allows_13 : decode b_Qu_allows 13 = .ok (.goto 15, 3) := by decide +kernel
theorem d_Qu_allows_16 : decode b_Qu_allows 16 = .ok (.iconst 0, 1) := by decide +kernel
theorem d_Qu_allows_17 : decode b_Qu_allows 17 = .ok (.goto 11, 3) := by decide +kernel
theorem d_Qu_allows_20 : decode b_Qu_allows 20 = .ok (.aload_n 0, 1) := by decide +kernel
theorem d_Qu_allows_21 : decode b_Qu_allows 21 = .ok (.getfield 15, 3) := by decide +kernel
theorem d_Qu_allows_24 : decode b_Qu_allows 24 = .ok (.iload_n 1, 1) := by decide +kernel
theorem d_Qu_allows_25 : decode b_Qu_allows 25 = .ok (.invokevirtual 34, 3) := by decide +kernel
theorem d_Qu_allows_28 : decode b_Qu_allows 28 = .ok (.ireturn, 1) := by decide +kernel
theorem d_Qu_jumpFor_0 : decode b_Qu_jumpFor 0 = .ok (.iconst 0, 1) := by decide +kernel
theorem d_Qu_jumpFor_1 : decode b_Qu_jumpFor 1 = .ok (.istore_n 2, 1) := by decide +kernel
theorem d_Qu_jumpFor_2 : decode b_Qu_jumpFor 2 = .ok (.iload_n 2, 1) := by decide +kernel
theorem d_Qu_jumpFor_3 : decode b_Qu_jumpFor 3 = .ok (.aload_n 0, 1) := by decide +kernel
theorem d_Qu_jumpFor_4 : decode b_Qu_jumpFor 4 = .ok (.getfield 26, 3) := by decide +kernel
theorem d_Qu_jumpFor_7 : decode b_Qu_jumpFor 7 = .ok (.invokeinterface 40 1, 5) := by decide +kernel
theorem d_Qu_jumpFor_12 : decode b_Qu_jumpFor 12 = .ok (.if_icmp .ge 46, 3) := by decide +kernel
theorem d_Qu_jumpFor_15 : decode b_Qu_jumpFor 15 = .ok (.aload_n 0, 1) := by decide +kernel
theorem d_Qu_jumpFor_16 : decode b_Qu_jumpFor 16 = .ok (.getfield 26, 3) := by decide +kernel
theorem d_Qu_jumpFor_19 : decode b_Qu_jumpFor 19 = .ok (.iload_n 2, 1) := by decide +kernel
theorem d_Qu_jumpFor_20 : decode b_Qu_jumpFor 20 = .ok (.invokeinterface 46 2, 5) := by decide +kernel
theorem d_Qu_jumpFor_25 : decode b_Qu_jumpFor 25 = .ok (.checkcast 50, 3) := by decide +kernel
theorem d_Qu_jumpFor_28 : decode b_Qu_jumpFor 28 = .ok (.getfield 52, 3) := by decide +kernel
theorem d_Qu_jumpFor_31 : decode b_Qu_jumpFor 31 = .ok (.iload_n 1, 1) := by decide +kernel
theorem d_Qu_jumpFor_32 : decode b_Qu_jumpFor 32 = .ok (.invokevirtual 34, 3) := by decide +kernel
theorem d_Qu_jumpFor_35 : decode b_Qu_jumpFor 35 = .ok (.ifCond .eq 17, 3) := by decide +kernel
theorem d_Qu_jumpFor_38 : decode b_Qu_jumpFor 38 = .ok (.aload_n 0, 1) := by decide +kernel
theorem d_Qu_jumpFor_39 : decode b_Qu_jumpFor 39 = .ok (.getfield 26, 3) := by decide +kernel
theorem d_Qu_jumpFor_42 : decode b_Qu_jumpFor 42 = .ok (.iload_n 2, 1) := by decide +kernel
theorem d_Qu_jumpFor_43 : decode b_Qu_jumpFor 43 = .ok (.invokeinterface 46 2, 5) := by decide +kernel
theorem d_Qu_jumpFor_48 : decode b_Qu_jumpFor 48 = .ok (.checkcast 50, 3) := by decide +kernel
theorem d_Qu_jumpFor_51 : decode b_Qu_jumpFor 51 = .ok (.areturn, 1) := by decide +kernel
theorem d_Qu_jumpFor_52 : decode b_Qu_jumpFor 52 = .ok (.iinc 2 1, 3) := by decide +kernel
theorem d_Qu_jumpFor_55 : decode b_Qu_jumpFor 55 = .ok (.goto (-53), 3) := by decide +kernel
theorem d_Qu_jumpFor_58 : decode b_Qu_jumpFor 58 = .ok (.aload_n 0, 1) := by decide +kernel
theorem d_Qu_jumpFor_59 : decode b_Qu_jumpFor 59 = .ok (.getfield 30, 3) := by decide +kernel
theorem d_Qu_jumpFor_62 : decode b_Qu_jumpFor 62 = .ok (.areturn, 1) := by decide +kernel
theorem d_Sp_init_0 : decode b_Sp_init 0 = .ok (.aload_n 0, 1) := by decide +kernel
theorem d_Sp_init_1 : decode b_Sp_init 1 = .ok (.invokespecial 1, 3) := by decide +kernel
theorem d_Sp_init_4 : decode b_Sp_init 4 = .ok (.aload_n 0, 1) := by decide +kernel
theorem d_Sp_init_5 : decode b_Sp_init 5 = .ok (.iload_n 1, 1) := by decide +kernel
theorem d_Sp_init_6 : decode b_Sp_init 6 = .ok (.putfield 7, 3) := by decide +kernel
theorem d_Sp_init_9 : decode b_Sp_init 9 = .ok (.aload_n 0, 1) := by decide +kernel
theorem d_Sp_init_10 : decode b_Sp_init 10 = .ok (.iload_n 2, 1) := by decide +kernel
theorem d_Sp_init_11 : decode b_Sp_init 11 = .ok (.putfield 13, 3) := by decide +kernel
theorem d_Sp_init_14 : decode b_Sp_init 14 = .ok (.return_, 1) := by decide +kernel
theorem d_Sp_has_0 : decode b_Sp_has 0 = .ok (.iload_n 1, 1) := by decide +kernel
theorem d_Sp_has_1 : decode b_Sp_has 1 = .ok (.aload_n 0, 1) := by decide +kernel
theorem d_Sp_has_2 : decode b_Sp_has 2 = .ok (.getfield 7, 3) := by decide +kernel
theorem d_Sp_has_5 : decode b_Sp_has 5 = .ok (.if_icmp .lt 15, 3) := by decide +kernel
theorem d_Sp_has_8 : decode b_Sp_has 8 = .ok (.iload_n 1, 1) := by decide +kernel
theorem d_Sp_has_9 : decode b_Sp_has 9 = .ok (.aload_n 0, 1) := by decide +kernel
theorem d_Sp_has_10 : decode b_Sp_has 10 = .ok (.getfield 13, 3) := by decide +kernel
theorem d_Sp_has_13 : decode b_Sp_has 13 = .ok (.if_icmp .gt 7, 3) := by decide +kernel
theorem d_Sp_has_16 : decode b_Sp_has 16 = .ok (.iconst 1, 1) := by decide +kernel
theorem d_Sp_has_17 : decode b_Sp_has 17 = .ok (.goto 4, 3) := by decide +kernel
theorem d_Sp_has_20 : decode b_Sp_has 20 = .ok (.iconst 0, 1) := by decide +kernel
theorem d_Sp_has_21 : decode b_Sp_has 21 = .ok (.ireturn, 1) := by decide +kernel
theorem d_Te_init_0 : decode b_Te_init 0 = .ok (.aload_n 0, 1) := by decide +kernel
theorem d_Te_init_1 : decode b_Te_init 1 = .ok (.invokespecial 3, 3) := by decide +kernel
theorem d_Te_init_4 : decode b_Te_init 4 = .ok (.aload_n 0, 1) := by decide +kernel
theorem d_Te_init_5 : decode b_Te_init 5 = .ok (.iload_n 1, 1) := by decide +kernel
theorem d_Te_init_6 : decode b_Te_init 6 = .ok (.putfield 9, 3) := by decide +kernel
theorem d_Te_init_9 : decode b_Te_init 9 = .ok (.aload_n 0, 1) := by decide +kernel
theorem d_Te_init_10 : decode b_Te_init 10 = .ok (.iload_n 2, 1) := by decide +kernel
theorem d_Te_init_11 : decode b_Te_init 11 = .ok (.putfield 15, 3) := by decide +kernel
theorem d_Te_init_14 : decode b_Te_init 14 = .ok (.aload_n 0, 1) := by decide +kernel
theorem d_Te_init_15 : decode b_Te_init 15 = .ok (.iload_n 3, 1) := by decide +kernel
theorem d_Te_init_16 : decode b_Te_init 16 = .ok (.putfield 18, 3) := by decide +kernel
theorem d_Te_init_19 : decode b_Te_init 19 = .ok (.return_, 1) := by decide +kernel
theorem d_Te_holds_0 : decode b_Te_holds 0 = .ok (.aload_n 0, 1) := by decide +kernel
theorem d_Te_holds_1 : decode b_Te_holds 1 = .ok (.getfield 9, 3) := by decide +kernel
theorem d_Te_holds_4 : decode b_Te_holds 4 = .ok (.ifCond .ne 10, 3) := by decide +kernel
theorem d_Te_holds_7 : decode b_Te_holds 7 = .ok (.aload_n 1, 1) := by decide +kernel
theorem d_Te_holds_8 : decode b_Te_holds 8 = .ok (.getfield 21, 3) := by decide +kernel
theorem d_Te_holds_11 : decode b_Te_holds 11 = .ok (.goto 12, 3) := by decide +kernel
theorem d_Te_holds_14 : decode b_Te_holds 14 = .ok (.aload_n 1, 1) := by decide +kernel
theorem d_Te_holds_15 : decode b_Te_holds 15 = .ok (.getfield 26, 3) := by decide +kernel
theorem d_Te_holds_18 : decode b_Te_holds 18 = .ok (.aload_n 0, 1) := by decide +kernel
theorem d_Te_holds_19 : decode b_Te_holds 19 = .ok (.getfield 9, 3) := by decide +kernel
theorem d_Te_holds_22 : decode b_Te_holds 22 = .ok (.iaload, 1) := by decide +kernel
theorem d_Te_holds_23 : decode b_Te_holds 23 = .ok (.istore_n 2, 1) := by decide +kernel
theorem d_Te_holds_24 : decode b_Te_holds 24 = .ok (.iload_n 2, 1) := by decide +kernel
theorem d_Te_holds_25 : decode b_Te_holds 25 = .ok (.iconst (-1), 1) := by decide +kernel
theorem d_Te_holds_26 : decode b_Te_holds 26 = .ok (.if_icmp .ne 5, 3) := by decide +kernel
theorem d_Te_holds_29 : decode b_Te_holds 29 = .ok (.iconst 0, 1) := by decide +kernel
theorem d_Te_holds_30 : decode b_Te_holds 30 = .ok (.ireturn, 1) := by decide +kernel
theorem d_Te_holds_31 : decode b_Te_holds 31 = .ok (.aload_n 0, 1) := by decide +kernel
theorem d_Te_holds_32 : decode b_Te_holds 32 = .ok (.getfield 15, 3) := by decide +kernel
theorem d_Te_holds_35 : decode b_Te_holds 35 = .ok (.lookupswitch 53 #[(60, 25), (62, 39)], 25) := by decide +kernel
theorem d_Te_holds_60 : decode b_Te_holds 60 = .ok (.iload_n 2, 1) := by decide +kernel
theorem d_Te_holds_61 : decode b_Te_holds 61 = .ok (.aload_n 0, 1) := by decide +kernel
theorem d_Te_holds_62 : decode b_Te_holds 62 = .ok (.getfield 18, 3) := by decide +kernel
theorem d_Te_holds_65 : decode b_Te_holds 65 = .ok (.if_icmp .ge 7, 3) := by decide +kernel
theorem d_Te_holds_68 : decode b_Te_holds 68 = .ok (.iconst 1, 1) := by decide +kernel
theorem d_Te_holds_69 : decode b_Te_holds 69 = .ok (.goto 4, 3) := by decide +kernel
theorem d_Te_holds_72 : decode b_Te_holds 72 = .ok (.iconst 0, 1) := by decide +kernel
theorem d_Te_holds_73 : decode b_Te_holds 73 = .ok (.ireturn, 1) := by decide +kernel
theorem d_Te_holds_74 : decode b_Te_holds 74 = .ok (.iload_n 2, 1) := by decide +kernel
theorem d_Te_holds_75 : decode b_Te_holds 75 = .ok (.aload_n 0, 1) := by decide +kernel
theorem d_Te_holds_76 : decode b_Te_holds 76 = .ok (.getfield 18, 3) := by decide +kernel
theorem d_Te_holds_79 : decode b_Te_holds 79 = .ok (.if_icmp .le 7, 3) := by decide +kernel
theorem d_Te_holds_82 : decode b_Te_holds 82 = .ok (.iconst 1, 1) := by decide +kernel
theorem d_Te_holds_83 : decode b_Te_holds 83 = .ok (.goto 4, 3) := by decide +kernel
theorem d_Te_holds_86 : decode b_Te_holds 86 = .ok (.iconst 0, 1) := by decide +kernel
theorem d_Te_holds_87 : decode b_Te_holds 87 = .ok (.ireturn, 1) := by decide +kernel
theorem d_Te_holds_88 : decode b_Te_holds 88 = .ok (.iload_n 2, 1) := by decide +kernel
theorem d_Te_holds_89 : decode b_Te_holds 89 = .ok (.aload_n 0, 1) := by decide +kernel
theorem d_Te_holds_90 : decode b_Te_holds 90 = .ok (.getfield 18, 3) := by decide +kernel
theorem d_Te_holds_93 : decode b_Te_holds 93 = .ok (.if_icmp .ne 7, 3) := by decide +kernel
theorem d_Te_holds_96 : decode b_Te_holds 96 = .ok (.iconst 1, 1) := by decide +kernel
theorem d_Te_holds_97 : decode b_Te_holds 97 = .ok (.goto 4, 3) := by decide +kernel
theorem d_Te_holds_100 : decode b_Te_holds 100 = .ok (.iconst 0, 1) := by decide +kernel
theorem d_Te_holds_101 : decode b_Te_holds 101 = .ok (.ireturn, 1) := by decide +kernel
theorem d_Ar_fill_0 : decode b_Ar_fill 0 = .ok (.iconst 0, 1) := by decide +kernel
theorem d_Ar_fill_1 : decode b_Ar_fill 1 = .ok (.istore_n 2, 1) := by decide +kernel
theorem d_Ar_fill_2 : decode b_Ar_fill 2 = .ok (.aload_n 0, 1) := by decide +kernel
theorem d_Ar_fill_3 : decode b_Ar_fill 3 = .ok (.arraylength, 1) := by decide +kernel
theorem d_Ar_fill_4 : decode b_Ar_fill 4 = .ok (.istore_n 3, 1) := by decide +kernel
theorem d_Ar_fill_5 : decode b_Ar_fill 5 = .ok (.iload_n 2, 1) := by decide +kernel
theorem d_Ar_fill_6 : decode b_Ar_fill 6 = .ok (.iload_n 3, 1) := by decide +kernel
theorem d_Ar_fill_7 : decode b_Ar_fill 7 = .ok (.if_icmp .ge 13, 3) := by decide +kernel
theorem d_Ar_fill_10 : decode b_Ar_fill 10 = .ok (.aload_n 0, 1) := by decide +kernel
theorem d_Ar_fill_11 : decode b_Ar_fill 11 = .ok (.iload_n 2, 1) := by decide +kernel
theorem d_Ar_fill_12 : decode b_Ar_fill 12 = .ok (.iload_n 1, 1) := by decide +kernel
theorem d_Ar_fill_13 : decode b_Ar_fill 13 = .ok (.iastore, 1) := by decide +kernel
theorem d_Ar_fill_14 : decode b_Ar_fill 14 = .ok (.iinc 2 1, 3) := by decide +kernel
theorem d_Ar_fill_17 : decode b_Ar_fill 17 = .ok (.goto (-12), 3) := by decide +kernel
theorem d_Ar_fill_20 : decode b_Ar_fill 20 = .ok (.return_, 1) := by decide +kernel
