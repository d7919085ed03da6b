-- the JDK: names, words, decode rows (printed by wip/p2/jdk.py)
abbrev b_AL_init : ByteArray := prog_31_method_2_code
abbrev y_AL_init : MethodName := ⟨"java/util/ArrayList", "<init>", "()V"⟩
theorem m_AL_init : Cond.code y_AL_init b_AL_init 1 none ∈ z_T := z_in (z_mem 630 (by decide +kernel)) rfl
abbrev b_AB_init : ByteArray := prog_30_method_1_code
abbrev y_AB_init : MethodName := ⟨"java/util/AbstractList", "<init>", "()V"⟩
theorem m_AB_init : Cond.code y_AB_init b_AB_init 1 none ∈ z_T := z_in (z_mem 633 (by decide +kernel)) rfl
abbrev b_AC_init : ByteArray := prog_29_method_1_code
abbrev y_AC_init : MethodName := ⟨"java/util/AbstractCollection", "<init>", "()V"⟩
theorem m_AC_init : Cond.code y_AC_init b_AC_init 1 none ∈ z_T := z_in (z_mem 636 (by decide +kernel)) rfl
abbrev b_AL_add : ByteArray := prog_31_method_25_code
abbrev y_AL_add : MethodName := ⟨"java/util/ArrayList", "add", "(Ljava/lang/Object;)Z"⟩
theorem m_AL_add : Cond.code y_AL_add b_AL_add 2 (some .boolean) ∈ z_T := z_in (z_mem 685 (by decide +kernel)) rfl
abbrev b_AL_add3 : ByteArray := prog_31_method_24_code
abbrev y_AL_add3 : MethodName := ⟨"java/util/ArrayList", "add", "(Ljava/lang/Object;[Ljava/lang/Object;I)V"⟩
theorem m_AL_add3 : Cond.code y_AL_add3 b_AL_add3 4 none ∈ z_T := z_in (z_mem 689 (by decide +kernel)) rfl
abbrev b_AL_grow : ByteArray := prog_31_method_7_code
abbrev y_AL_grow : MethodName := ⟨"java/util/ArrayList", "grow", "()[Ljava/lang/Object;"⟩
theorem m_AL_grow : Cond.code y_AL_grow b_AL_grow 1 (some (.array (.object "java/lang/Object"))) ∈ z_T := z_in (z_mem 693 (by decide +kernel)) rfl
abbrev b_AL_grow1 : ByteArray := prog_31_method_6_code
abbrev y_AL_grow1 : MethodName := ⟨"java/util/ArrayList", "grow", "(I)[Ljava/lang/Object;"⟩
theorem m_AL_grow1 : Cond.code y_AL_grow1 b_AL_grow1 4 (some (.array (.object "java/lang/Object"))) ∈ z_T := z_in (z_mem 697 (by decide +kernel)) rfl
abbrev b_AL_size : ByteArray := prog_31_method_8_code
abbrev y_AL_size : MethodName := ⟨"java/util/ArrayList", "size", "()I"⟩
theorem m_AL_size : Cond.code y_AL_size b_AL_size 1 (some .int) ∈ z_T := z_in (z_mem 851 (by decide +kernel)) rfl
abbrev b_AL_get : ByteArray := prog_31_method_20_code
abbrev y_AL_get : MethodName := ⟨"java/util/ArrayList", "get", "(I)Ljava/lang/Object;"⟩
theorem m_AL_get : Cond.code y_AL_get b_AL_get 2 (some (.object "java/lang/Object")) ∈ z_T := z_in (z_mem 860 (by decide +kernel)) rfl
abbrev b_AL_elementData : ByteArray := prog_31_method_18_code
abbrev y_AL_elementData : MethodName := ⟨"java/util/ArrayList", "elementData", "(I)Ljava/lang/Object;"⟩
theorem m_AL_elementData : Cond.code y_AL_elementData b_AL_elementData 2 (some (.object "java/lang/Object")) ∈ z_T := z_in (z_mem 870 (by decide +kernel)) rfl
abbrev b_OB_checkIndex : ByteArray := prog_35_method_17_code
abbrev y_OB_checkIndex : MethodName := ⟨"java/util/Objects", "checkIndex", "(II)I"⟩
theorem m_OB_checkIndex : Cond.code y_OB_checkIndex b_OB_checkIndex 2 (some .int) ∈ z_T := z_in (z_mem 863 (by decide +kernel)) rfl
abbrev b_PC_checkIndex : ByteArray := prog_39_method_11_code
abbrev y_PC_checkIndex : MethodName := ⟨"jdk/internal/util/Preconditions", "checkIndex", "(IILjava/util/function/BiFunction;)I"⟩
theorem m_PC_checkIndex : Cond.code y_PC_checkIndex b_PC_checkIndex 3 (some .int) ∈ z_T := z_in (z_mem 866 (by decide +kernel)) rfl
abbrev b_Ma_max : ByteArray := prog_21_method_65_code
abbrev y_Ma_max : MethodName := ⟨"java/lang/Math", "max", "(II)I"⟩
theorem m_Ma_max : Cond.code y_Ma_max b_Ma_max 2 (some .int) ∈ z_T := z_in (z_mem 440 (by decide +kernel)) rfl
abbrev b_Ma_min : ByteArray := prog_21_method_69_code
abbrev y_Ma_min : MethodName := ⟨"java/lang/Math", "min", "(II)I"⟩
theorem m_Ma_min : Cond.code y_Ma_min b_Ma_min 2 (some .int) ∈ z_T := z_in (z_mem 458 (by decide +kernel)) rfl
abbrev b_Ar_copyOfRange : ByteArray := prog_32_method_136_code
abbrev y_Ar_copyOfRange : MethodName := ⟨"java/util/Arrays", "copyOfRange", "([III)[I"⟩
theorem m_Ar_copyOfRange : Cond.code y_Ar_copyOfRange b_Ar_copyOfRange 3 (some (.array .int)) ∈ z_T := z_in (z_mem 378 (by decide +kernel)) rfl
abbrev b_Ar_copyOfRangeInt : ByteArray := prog_32_method_137_code
abbrev y_Ar_copyOfRangeInt : MethodName := ⟨"java/util/Arrays", "copyOfRangeInt", "([III)[I"⟩
theorem m_Ar_copyOfRangeInt : Cond.code y_Ar_copyOfRangeInt b_Ar_copyOfRangeInt 5 (some (.array .int)) ∈ z_T := z_in (z_mem 381 (by decide +kernel)) rfl
abbrev b_Ar_checkLength : ByteArray := prog_32_method_131_code
abbrev y_Ar_checkLength : MethodName := ⟨"java/util/Arrays", "checkLength", "(II)V"⟩
theorem m_Ar_checkLength : Cond.code y_Ar_checkLength b_Ar_checkLength 2 none ∈ z_T := z_in (z_mem 384 (by decide +kernel)) rfl
theorem ini_Ma : Cond.initialized "java/lang/Math" ∈ z_T := z_in (z_mem 59 (by decide +kernel)) rfl
theorem ini_SY : Cond.initialized "java/lang/System" ∈ z_T := z_in (z_mem 60 (by decide +kernel)) rfl
theorem ini_PC : Cond.initialized "jdk/internal/util/Preconditions" ∈ z_T := z_in (z_mem 61 (by decide +kernel)) rfl
theorem ini_AC : Cond.initialized "java/util/AbstractCollection" ∈ z_T := z_in (z_mem 63 (by decide +kernel)) rfl
theorem ini_AB : Cond.initialized "java/util/AbstractList" ∈ z_T := z_in (z_mem 64 (by decide +kernel)) rfl
theorem ini_AL : Cond.initialized "java/util/ArrayList" ∈ z_T := z_in (z_mem 65 (by decide +kernel)) rfl
theorem ini_OB : Cond.initialized "java/util/Objects" ∈ z_T := z_in (z_mem 71 (by decide +kernel)) rfl
theorem st_Ar_copyOfRange : Cond.static y_Ar_copyOfRange ∈ z_T := z_in (z_mem 377 (by decide +kernel)) rfl
theorem st_Ar_copyOfRangeInt : Cond.static y_Ar_copyOfRangeInt ∈ z_T := z_in (z_mem 380 (by decide +kernel)) rfl
theorem st_Ar_checkLength : Cond.static y_Ar_checkLength ∈ z_T := z_in (z_mem 383 (by decide +kernel)) rfl
theorem st_Ma_max : Cond.static y_Ma_max ∈ z_T := z_in (z_mem 439 (by decide +kernel)) rfl
theorem st_Ma_min : Cond.static y_Ma_min ∈ z_T := z_in (z_mem 457 (by decide +kernel)) rfl
theorem in_AL_init : Cond.instanceMethod y_AL_init ∈ z_T := z_in (z_mem 629 (by decide +kernel)) rfl
theorem in_AB_init : Cond.instanceMethod y_AB_init ∈ z_T := z_in (z_mem 632 (by decide +kernel)) rfl
theorem km_AB_1 : Cond.methodLink "java/util/AbstractList" 1 ⟨"java/util/AbstractCollection", "<init>", "()V"⟩ ∈ z_T := z_in (z_mem 634 (by decide +kernel)) rfl
theorem in_AC_init : Cond.instanceMethod y_AC_init ∈ z_T := z_in (z_mem 635 (by decide +kernel)) rfl
theorem km_AC_1 : Cond.methodLink "java/util/AbstractCollection" 1 ⟨"java/lang/Object", "<init>", "()V"⟩ ∈ z_T := z_in (z_mem 637 (by decide +kernel)) rfl
theorem kf_AB_7 : Cond.fieldLink "java/util/AbstractList" 7 "java/util/AbstractList" "modCount" "I" ∈ z_T := z_in (z_mem 642 (by decide +kernel)) rfl
theorem sf_AL : Cond.sameField "java/util/ArrayList" "java/util/AbstractList" "modCount" "I" ∈ z_T := z_in (z_mem 644 (by decide +kernel)) rfl
theorem sx_AL_add : Cond.selects "java/util/ArrayList" ⟨"java/util/List", "add", "(Ljava/lang/Object;)Z"⟩ y_AL_add ∈ z_T := z_in (z_mem 681 (by decide +kernel)) rfl
theorem in_AL_add : Cond.instanceMethod y_AL_add ∈ z_T := z_in (z_mem 683 (by decide +kernel)) rfl
theorem in_AL_add3 : Cond.instanceMethod y_AL_add3 ∈ z_T := z_in (z_mem 688 (by decide +kernel)) rfl
theorem in_AL_grow : Cond.instanceMethod y_AL_grow ∈ z_T := z_in (z_mem 692 (by decide +kernel)) rfl
theorem in_AL_grow1 : Cond.instanceMethod y_AL_grow1 ∈ z_T := z_in (z_mem 696 (by decide +kernel)) rfl
theorem sx_AL_size : Cond.selects "java/util/ArrayList" ⟨"java/util/List", "size", "()I"⟩ y_AL_size ∈ z_T := z_in (z_mem 847 (by decide +kernel)) rfl
theorem in_AL_size : Cond.instanceMethod y_AL_size ∈ z_T := z_in (z_mem 849 (by decide +kernel)) rfl
theorem sx_AL_get : Cond.selects "java/util/ArrayList" ⟨"java/util/List", "get", "(I)Ljava/lang/Object;"⟩ y_AL_get ∈ z_T := z_in (z_mem 856 (by decide +kernel)) rfl
theorem in_AL_get : Cond.instanceMethod y_AL_get ∈ z_T := z_in (z_mem 858 (by decide +kernel)) rfl
theorem st_OB_checkIndex : Cond.static y_OB_checkIndex ∈ z_T := z_in (z_mem 862 (by decide +kernel)) rfl
theorem km_OB_105 : Cond.methodLink "java/util/Objects" 105 ⟨"jdk/internal/util/Preconditions", "checkIndex", "(IILjava/util/function/BiFunction;)I"⟩ ∈ z_T := z_in (z_mem 864 (by decide +kernel)) rfl
theorem st_PC_checkIndex : Cond.static y_PC_checkIndex ∈ z_T := z_in (z_mem 865 (by decide +kernel)) rfl
theorem in_AL_elementData : Cond.instanceMethod y_AL_elementData ∈ z_T := z_in (z_mem 868 (by decide +kernel)) rfl
theorem se_AL_elementData : Cond.selects "java/util/ArrayList" y_AL_elementData y_AL_elementData ∈ z_T := z_in (z_mem 869 (by decide +kernel)) rfl
theorem se_AL_add3 : Cond.selects "java/util/ArrayList" y_AL_add3 y_AL_add3 ∈ z_T := z_in (z_mem 11 (by decide +kernel)) rfl
theorem se_AL_grow : Cond.selects "java/util/ArrayList" y_AL_grow y_AL_grow ∈ z_T := z_in (z_mem 12 (by decide +kernel)) rfl
theorem se_AL_grow1 : Cond.selects "java/util/ArrayList" y_AL_grow1 y_AL_grow1 ∈ z_T := z_in (z_mem 13 (by decide +kernel)) rfl
theorem dc_add : Cond.declares ⟨"java/util/List", "add", "(Ljava/lang/Object;)Z"⟩ ∈ z_NW := z_inN (z_mem 679 (by decide +kernel)) rfl
theorem cl_AL : Cond.castable "java/util/ArrayList" "java/util/List" ∈ z_NW := z_inN (z_mem 680 (by decide +kernel)) rfl
theorem dc_size : Cond.declares ⟨"java/util/List", "size", "()I"⟩ ∈ z_NW := z_inN (z_mem 846 (by decide +kernel)) rfl
theorem dc_get : Cond.declares ⟨"java/util/List", "get", "(I)Ljava/lang/Object;"⟩ ∈ z_NW := z_inN (z_mem 855 (by decide +kernel)) rfl
theorem cs_Ju : Cond.castable "QuestionText$Jump" "QuestionText$Jump" ∈ z_NW := z_inN (z_mem 1265 (by decide +kernel)) rfl
theorem cs_Co : Cond.castable "QuestionText$Condition" "QuestionText$Condition" ∈ z_NW := z_inN (z_mem 1266 (by decide +kernel)) rfl
theorem cs_Te : Cond.castable "QuestionText$Term" "QuestionText$Term" ∈ z_NW := z_inN (z_mem 1267 (by decide +kernel)) rfl
theorem co_Q : Cond.castable "QuestionText" "java/lang/Object" ∈ z_NW := z_inN (z_mem 1271 (by decide +kernel)) rfl
theorem co_TR : Cond.castable "QuestionText$TextReader" "java/lang/Object" ∈ z_NW := z_inN (z_mem 1272 (by decide +kernel)) rfl
theorem co_Ca : Cond.castable "QuestionText$Call" "java/lang/Object" ∈ z_NW := z_inN (z_mem 1273 (by decide +kernel)) rfl
theorem co_Ed : Cond.castable "QuestionText$Edition" "java/lang/Object" ∈ z_NW := z_inN (z_mem 1274 (by decide +kernel)) rfl
theorem co_Mo : Cond.castable "QuestionTextModel" "java/lang/Object" ∈ z_NW := z_inN (z_mem 1275 (by decide +kernel)) rfl
theorem co_Sp : Cond.castable "QuestionText$Span" "java/lang/Object" ∈ z_NW := z_inN (z_mem 1276 (by decide +kernel)) rfl
theorem co_Ju : Cond.castable "QuestionText$Jump" "java/lang/Object" ∈ z_NW := z_inN (z_mem 1278 (by decide +kernel)) rfl
theorem co_Qu : Cond.castable "QuestionText$Question" "java/lang/Object" ∈ z_NW := z_inN (z_mem 1279 (by decide +kernel)) rfl
theorem co_Te : Cond.castable "QuestionText$Term" "java/lang/Object" ∈ z_NW := z_inN (z_mem 1280 (by decide +kernel)) rfl
theorem co_Co : Cond.castable "QuestionText$Condition" "java/lang/Object" ∈ z_NW := z_inN (z_mem 1281 (by decide +kernel)) rfl
theorem co_Ki : Cond.castable "QuestionText$Kind" "java/lang/Object" ∈ z_NW := z_inN (z_mem 1282 (by decide +kernel)) rfl
theorem st_ac : Cond.static ⟨"java/lang/System", "arraycopy", "(Ljava/lang/Object;ILjava/lang/Object;II)V"⟩ ∈ z_T := z_in (z_mem 460 (by decide +kernel)) rfl
theorem nat_ac : Cond.native ⟨"java/lang/System", "arraycopy", "(Ljava/lang/Object;ILjava/lang/Object;II)V"⟩ ∈ z_T := z_in (z_mem 461 (by decide +kernel)) rfl
theorem d_AL_init_0 : decode b_AL_init 0 = .ok (.aload_n 0, 1) := by decide +kernel
theorem d_AL_init_1 : decode b_AL_init 1 = .ok (.invokespecial 1, 3) := by decide +kernel
theorem d_AL_init_4 : decode b_AL_init 4 = .ok (.aload_n 0, 1) := by decide +kernel
theorem d_AL_init_5 : decode b_AL_init 5 = .ok (.getstatic 39, 3) := by decide +kernel
theorem d_AL_init_8 : decode b_AL_init 8 = .ok (.putfield 9, 3) := by decide +kernel
theorem d_AL_init_11 : decode b_AL_init 11 = .ok (.return_, 1) := by decide +kernel
theorem d_AB_init_0 : decode b_AB_init 0 = .ok (.aload_n 0, 1) := by decide +kernel
theorem d_AB_init_1 : decode b_AB_init 1 = .ok (.invokespecial 1, 3) := by decide +kernel
theorem d_AB_init_4 : decode b_AB_init 4 = .ok (.aload_n 0, 1) := by decide +kernel
theorem d_AB_init_5 : decode b_AB_init 5 = .ok (.iconst 0, 1) := by decide +kernel
theorem d_AB_init_6 : decode b_AB_init 6 = .ok (.putfield 7, 3) := by decide +kernel
theorem d_AB_init_9 : decode b_AB_init 9 = .ok (.return_, 1) := by decide +kernel
theorem d_AC_init_0 : decode b_AC_init 0 = .ok (.aload_n 0, 1) := by decide +kernel
theorem d_AC_init_1 : decode b_AC_init 1 = .ok (.invokespecial 1, 3) := by decide +kernel
theorem d_AC_init_4 : decode b_AC_init 4 = .ok (.return_, 1) := by decide +kernel
theorem d_AL_add_0 : decode b_AL_add 0 = .ok (.aload_n 0, 1) := by decide +kernel
theorem d_AL_add_1 : decode b_AL_add 1 = .ok (.dup, 1) := by decide +kernel
theorem d_AL_add_2 : decode b_AL_add 2 = .ok (.getfield 63, 3) := by decide +kernel
theorem d_AL_add_5 : decode b_AL_add 5 = .ok (.iconst 1, 1) := by decide +kernel
theorem d_AL_add_6 : decode b_AL_add 6 = .ok (.iadd, 1) := by decide +kernel
theorem d_AL_add_7 : decode b_AL_add 7 = .ok (.putfield 63, 3) := by decide +kernel
theorem d_AL_add_10 : decode b_AL_add 10 = .ok (.aload_n 0, 1) := by decide +kernel
theorem d_AL_add_11 : decode b_AL_add 11 = .ok (.aload_n 1, 1) := by decide +kernel
theorem d_AL_add_12 : decode b_AL_add 12 = .ok (.aload_n 0, 1) := by decide +kernel
theorem d_AL_add_13 : decode b_AL_add 13 = .ok (.getfield 9, 3) := by decide +kernel
theorem d_AL_add_16 : decode b_AL_add 16 = .ok (.aload_n 0, 1) := by decide +kernel
theorem d_AL_add_17 : decode b_AL_add 17 = .ok (.getfield 48, 3) := by decide +kernel
theorem d_AL_add_20 : decode b_AL_add 20 = .ok (.invokevirtual 131, 3) := by decide +kernel
theorem d_AL_add_23 : decode b_AL_add 23 = .ok (.iconst 1, 1) := by decide +kernel
theorem d_AL_add_24 : decode b_AL_add 24 = .ok (.ireturn, 1) := by decide +kernel
theorem d_AL_add3_0 : decode b_AL_add3 0 = .ok (.iload_n 3, 1) := by decide +kernel
theorem d_AL_add3_1 : decode b_AL_add3 1 = .ok (.aload_n 2, 1) := by decide +kernel
theorem d_AL_add3_2 : decode b_AL_add3 2 = .ok (.arraylength, 1) := by decide +kernel
theorem d_AL_add3_3 : decode b_AL_add3 3 = .ok (.if_icmp .ne 8, 3) := by decide +kernel
theorem d_AL_add3_6 : decode b_AL_add3 6 = .ok (.aload_n 0, 1) := by decide +kernel
theorem d_AL_add3_7 : decode b_AL_add3 7 = .ok (.invokevirtual 129, 3) := by decide +kernel
theorem d_AL_add3_10 : decode b_AL_add3 10 = .ok (.astore_n 2, 1) := by decide +kernel
theorem d_AL_add3_11 : decode b_AL_add3 11 = .ok (.aload_n 2, 1) := by decide +kernel
theorem d_AL_add3_12 : decode b_AL_add3 12 = .ok (.iload_n 3, 1) := by decide +kernel
theorem d_AL_add3_13 : decode b_AL_add3 13 = .ok (.aload_n 1, 1) := by decide +kernel
theorem d_AL_add3_14 : decode b_AL_add3 14 = .ok (.aastore, 1) := by decide +kernel
theorem d_AL_add3_15 : decode b_AL_add3 15 = .ok (.aload_n 0, 1) := by decide +kernel
theorem d_AL_add3_16 : decode b_AL_add3 16 = .ok (.iload_n 3, 1) := by decide +kernel
theorem d_AL_add3_17 : decode b_AL_add3 17 = .ok (.iconst 1, 1) := by decide +kernel
theorem d_AL_add3_18 : decode b_AL_add3 18 = .ok (.iadd, 1) := by decide +kernel
theorem d_AL_add3_19 : decode b_AL_add3 19 = .ok (.putfield 48, 3) := by decide +kernel
theorem d_AL_add3_22 : decode b_AL_add3 22 = .ok (.return_, 1) := by decide +kernel
theorem d_AL_grow_0 : decode b_AL_grow 0 = .ok (.aload_n 0, 1) := by decide +kernel
theorem d_AL_grow_1 : decode b_AL_grow 1 = .ok (.aload_n 0, 1) := by decide +kernel
theorem d_AL_grow_2 : decode b_AL_grow 2 = .ok (.getfield 48, 3) := by decide +kernel
theorem d_AL_grow_5 : decode b_AL_grow 5 = .ok (.iconst 1, 1) := by decide +kernel
theorem d_AL_grow_6 : decode b_AL_grow 6 = .ok (.iadd, 1) := by decide +kernel
theorem d_AL_grow_7 : decode b_AL_grow 7 = .ok (.invokevirtual 69, 3) := by decide +kernel
theorem d_AL_grow_10 : decode b_AL_grow 10 = .ok (.areturn, 1) := by decide +kernel
theorem d_AL_grow1_0 : decode b_AL_grow1 0 = .ok (.aload_n 0, 1) := by decide +kernel
theorem d_AL_grow1_1 : decode b_AL_grow1 1 = .ok (.getfield 9, 3) := by decide +kernel
theorem d_AL_grow1_4 : decode b_AL_grow1 4 = .ok (.arraylength, 1) := by decide +kernel
theorem d_AL_grow1_5 : decode b_AL_grow1 5 = .ok (.istore_n 2, 1) := by decide +kernel
theorem d_AL_grow1_6 : decode b_AL_grow1 6 = .ok (.iload_n 2, 1) := by decide +kernel
theorem d_AL_grow1_7 : decode b_AL_grow1 7 = .ok (.ifCond .gt 13, 3) := by decide +kernel
theorem d_AL_grow1_10 : decode b_AL_grow1 10 = .ok (.aload_n 0, 1) := by decide +kernel
theorem d_AL_grow1_11 : decode b_AL_grow1 11 = .ok (.getfield 9, 3) := by decide +kernel
theorem d_AL_grow1_14 : decode b_AL_grow1 14 = .ok (.getstatic 39, 3) := by decide +kernel
theorem d_AL_grow1_17 : decode b_AL_grow1 17 = .ok (.if_acmp .eq 28, 3) := by decide +kernel
theorem d_AL_grow1_20 : decode b_AL_grow1 20 = .ok (.iload_n 2, 1) := by decide +kernel
theorem d_AL_grow1_21 : decode b_AL_grow1 21 = .ok (.iload_n 1, 1) := by decide +kernel
theorem d_AL_grow1_22 : decode b_AL_grow1 22 = .ok (.iload_n 2, 1) := by decide +kernel
theorem d_AL_grow1_23 : decode b_AL_grow1 23 = .ok (.isub, 1) := by decide +kernel
theorem d_AL_grow1_24 : decode b_AL_grow1 24 = .ok (.iload_n 2, 1) := by decide +kernel
theorem d_AL_grow1_25 : decode b_AL_grow1 25 = .ok (.iconst 1, 1) := by decide +kernel
theorem d_AL_grow1_26 : decode b_AL_grow1 26 = .ok (.ishr, 1) := by decide +kernel
theorem d_AL_grow1_27 : decode b_AL_grow1 27 = .ok (.invokestatic 73, 3) := by decide +kernel
theorem d_AL_grow1_30 : decode b_AL_grow1 30 = .ok (.istore_n 3, 1) := by decide +kernel
theorem d_AL_grow1_31 : decode b_AL_grow1 31 = .ok (.aload_n 0, 1) := by decide +kernel
theorem d_AL_grow1_32 : decode b_AL_grow1 32 = .ok (.aload_n 0, 1) := by decide +kernel
theorem d_AL_grow1_33 : decode b_AL_grow1 33 = .ok (.getfield 9, 3) := by decide +kernel
theorem d_AL_grow1_36 : decode b_AL_grow1 36 = .ok (.iload_n 3, 1) := by decide +kernel
theorem d_AL_grow1_37 : decode b_AL_grow1 37 = .ok (.invokestatic 66, 3) := by decide +kernel
theorem d_AL_grow1_40 : decode b_AL_grow1 40 = .ok (.dup_x1, 1) := by decide +kernel
theorem d_AL_grow1_41 : decode b_AL_grow1 41 = .ok (.putfield 9, 3) := by decide +kernel
theorem d_AL_grow1_44 : decode b_AL_grow1 44 = .ok (.areturn, 1) := by decide +kernel
theorem d_AL_grow1_45 : decode b_AL_grow1 45 = .ok (.aload_n 0, 1) := by decide +kernel
theorem d_AL_grow1_46 : decode b_AL_grow1 46 = .ok (.bipush 10, 2) := by decide +kernel
theorem d_AL_grow1_48 : decode b_AL_grow1 48 = .ok (.iload_n 1, 1) := by decide +kernel
theorem d_AL_grow1_49 : decode b_AL_grow1 49 = .ok (.invokestatic 79, 3) := by decide +kernel
theorem d_AL_grow1_52 : decode b_AL_grow1 52 = .ok (.anewarray 7, 3) := by decide +kernel
theorem d_AL_grow1_55 : decode b_AL_grow1 55 = .ok (.dup_x1, 1) := by decide +kernel
theorem d_AL_grow1_56 : decode b_AL_grow1 56 = .ok (.putfield 9, 3) := by decide +kernel
theorem d_AL_grow1_59 : decode b_AL_grow1 59 = .ok (.areturn, 1) := by decide +kernel
theorem d_AL_size_0 : decode b_AL_size 0 = .ok (.aload_n 0, 1) := by decide +kernel
theorem d_AL_size_1 : decode b_AL_size 1 = .ok (.getfield 48, 3) := by decide +kernel
theorem d_AL_size_4 : decode b_AL_size 4 = .ok (.ireturn, 1) := by decide +kernel
theorem d_AL_get_0 : decode b_AL_get 0 = .ok (.iload_n 1, 1) := by decide +kernel
theorem d_AL_get_1 : decode b_AL_get 1 = .ok (.aload_n 0, 1) := by decide +kernel
theorem d_AL_get_2 : decode b_AL_get 2 = .ok (.getfield 48, 3) := by decide +kernel
theorem d_AL_get_5 : decode b_AL_get 5 = .ok (.invokestatic 118, 3) := by decide +kernel
theorem d_AL_get_8 : decode b_AL_get 8 = .ok (.pop, 1) := by decide +kernel
theorem d_AL_get_9 : decode b_AL_get 9 = .ok (.aload_n 0, 1) := by decide +kernel
theorem d_AL_get_10 : decode b_AL_get 10 = .ok (.iload_n 1, 1) := by decide +kernel
theorem d_AL_get_11 : decode b_AL_get 11 = .ok (.invokevirtual 123, 3) := by decide +kernel
theorem d_AL_get_14 : decode b_AL_get 14 = .ok (.areturn, 1) := by decide +kernel
theorem d_AL_elementData_0 : decode b_AL_elementData 0 = .ok (.aload_n 0, 1) := by decide +kernel
theorem d_AL_elementData_1 : decode b_AL_elementData 1 = .ok (.getfield 9, 3) := by decide +kernel
theorem d_AL_elementData_4 : decode b_AL_elementData 4 = .ok (.iload_n 1, 1) := by decide +kernel
theorem d_AL_elementData_5 : decode b_AL_elementData 5 = .ok (.aaload, 1) := by decide +kernel
theorem d_AL_elementData_6 : decode b_AL_elementData 6 = .ok (.areturn, 1) := by decide +kernel
theorem d_OB_checkIndex_0 : decode b_OB_checkIndex 0 = .ok (.iload_n 0, 1) := by decide +kernel
theorem d_OB_checkIndex_1 : decode b_OB_checkIndex 1 = .ok (.iload_n 1, 1) := by decide +kernel
theorem d_OB_checkIndex_2 : decode b_OB_checkIndex 2 = .ok (.aconst_null, 1) := by decide +kernel
theorem d_OB_checkIndex_3 : decode b_OB_checkIndex 3 = .ok (.invokestatic 105, 3) := by decide +kernel
theorem d_OB_checkIndex_6 : decode b_OB_checkIndex 6 = .ok (.ireturn, 1) := by decide +kernel
theorem d_PC_checkIndex_0 : decode b_PC_checkIndex 0 = .ok (.iload_n 0, 1) := by decide +kernel
theorem d_PC_checkIndex_1 : decode b_PC_checkIndex 1 = .ok (.ifCond .lt 8, 3) := by decide +kernel
theorem d_PC_checkIndex_4 : decode b_PC_checkIndex 4 = .ok (.iload_n 0, 1) := by decide +kernel
theorem d_PC_checkIndex_5 : decode b_PC_checkIndex 5 = .ok (.iload_n 1, 1) := by decide +kernel
theorem d_PC_checkIndex_6 : decode b_PC_checkIndex 6 = .ok (.if_icmp .lt 10, 3) := by decide +kernel
theorem d_PC_checkIndex_9 : decode b_PC_checkIndex 9 = .ok (.aload_n 2, 1) := by decide +kernel
theorem d_PC_checkIndex_10 : decode b_PC_checkIndex 10 = .ok (.iload_n 0, 1) := by decide +kernel
theorem d_PC_checkIndex_11 : decode b_PC_checkIndex 11 = .ok (.iload_n 1, 1) := by decide +kernel
theorem d_PC_checkIndex_12 : decode b_PC_checkIndex 12 = .ok (.invokestatic 95, 3) := by decide +kernel
theorem d_PC_checkIndex_15 : decode b_PC_checkIndex 15 = .ok (.athrow, 1) := by decide +kernel
theorem d_PC_checkIndex_16 : decode b_PC_checkIndex 16 = .ok (.iload_n 0, 1) := by decide +kernel
theorem d_PC_checkIndex_17 : decode b_PC_checkIndex 17 = .ok (.ireturn, 1) := by decide +kernel
theorem d_Ma_max_0 : decode b_Ma_max 0 = .ok (.iload_n 0, 1) := by decide +kernel
theorem d_Ma_max_1 : decode b_Ma_max 1 = .ok (.iload_n 1, 1) := by decide +kernel
theorem d_Ma_max_2 : decode b_Ma_max 2 = .ok (.if_icmp .lt 7, 3) := by decide +kernel
theorem d_Ma_max_5 : decode b_Ma_max 5 = .ok (.iload_n 0, 1) := by decide +kernel
theorem d_Ma_max_6 : decode b_Ma_max 6 = .ok (.goto 4, 3) := by decide +kernel
theorem d_Ma_max_9 : decode b_Ma_max 9 = .ok (.iload_n 1, 1) := by decide +kernel
theorem d_Ma_max_10 : decode b_Ma_max 10 = .ok (.ireturn, 1) := by decide +kernel
theorem d_Ma_min_0 : decode b_Ma_min 0 = .ok (.iload_n 0, 1) := by decide +kernel
theorem d_Ma_min_1 : decode b_Ma_min 1 = .ok (.iload_n 1, 1) := by decide +kernel
theorem d_Ma_min_2 : decode b_Ma_min 2 = .ok (.if_icmp .gt 7, 3) := by decide +kernel
theorem d_Ma_min_5 : decode b_Ma_min 5 = .ok (.iload_n 0, 1) := by decide +kernel
theorem d_Ma_min_6 : decode b_Ma_min 6 = .ok (.goto 4, 3) := by decide +kernel
theorem d_Ma_min_9 : decode b_Ma_min 9 = .ok (.iload_n 1, 1) := by decide +kernel
theorem d_Ma_min_10 : decode b_Ma_min 10 = .ok (.ireturn, 1) := by decide +kernel
theorem d_Ar_copyOfRange_0 : decode b_Ar_copyOfRange 0 = .ok (.iload_n 1, 1) := by decide +kernel
theorem d_Ar_copyOfRange_1 : decode b_Ar_copyOfRange 1 = .ok (.ifCond .ne 9, 3) := by decide +kernel
theorem d_Ar_copyOfRange_4 : decode b_Ar_copyOfRange 4 = .ok (.iload_n 2, 1) := by decide +kernel
theorem d_Ar_copyOfRange_5 : decode b_Ar_copyOfRange 5 = .ok (.aload_n 0, 1) := by decide +kernel
theorem d_Ar_copyOfRange_6 : decode b_Ar_copyOfRange 6 = .ok (.arraylength, 1) := by decide +kernel
theorem d_Ar_copyOfRange_7 : decode b_Ar_copyOfRange 7 = .ok (.if_icmp .eq 10, 3) := by decide +kernel
theorem d_Ar_copyOfRange_10 : decode b_Ar_copyOfRange 10 = .ok (.aload_n 0, 1) := by decide +kernel
theorem d_Ar_copyOfRange_11 : decode b_Ar_copyOfRange 11 = .ok (.iload_n 1, 1) := by decide +kernel
theorem d_Ar_copyOfRange_12 : decode b_Ar_copyOfRange 12 = .ok (.iload_n 2, 1) := by decide +kernel
theorem d_Ar_copyOfRange_13 : decode b_Ar_copyOfRange 13 = .ok (.invokestatic 351, 3) := by decide +kernel
theorem d_Ar_copyOfRange_16 : decode b_Ar_copyOfRange 16 = .ok (.areturn, 1) := by decide +kernel
theorem d_Ar_copyOfRange_17 : decode b_Ar_copyOfRange 17 = .ok (.aload_n 0, 1) := by decide +kernel
theorem d_Ar_copyOfRange_18 : decode b_Ar_copyOfRange 18 = .ok (.invokevirtual 316, 3) := by decide +kernel
theorem d_Ar_copyOfRange_21 : decode b_Ar_copyOfRange 21 = .ok (.checkcast 317, 3) := by decide +kernel
theorem d_Ar_copyOfRange_24 : decode b_Ar_copyOfRange 24 = .ok (.areturn, 1) := by decide +kernel
theorem d_Ar_copyOfRangeInt_0 : decode b_Ar_copyOfRangeInt 0 = .ok (.iload_n 1, 1) := by decide +kernel
theorem d_Ar_copyOfRangeInt_1 : decode b_Ar_copyOfRangeInt 1 = .ok (.iload_n 2, 1) := by decide +kernel
theorem d_Ar_copyOfRangeInt_2 : decode b_Ar_copyOfRangeInt 2 = .ok (.invokestatic 343, 3) := by decide +kernel
theorem d_Ar_copyOfRangeInt_5 : decode b_Ar_copyOfRangeInt 5 = .ok (.iload_n 2, 1) := by decide +kernel
theorem d_Ar_copyOfRangeInt_6 : decode b_Ar_copyOfRangeInt 6 = .ok (.iload_n 1, 1) := by decide +kernel
theorem d_Ar_copyOfRangeInt_7 : decode b_Ar_copyOfRangeInt 7 = .ok (.isub, 1) := by decide +kernel
theorem d_Ar_copyOfRangeInt_8 : decode b_Ar_copyOfRangeInt 8 = .ok (.istore_n 3, 1) := by decide +kernel
theorem d_Ar_copyOfRangeInt_9 : decode b_Ar_copyOfRangeInt 9 = .ok (.iload_n 3, 1) := by decide +kernel
theorem d_Ar_copyOfRangeInt_10 : decode b_Ar_copyOfRangeInt 10 = .ok (.newarray .int, 2) := by decide +kernel
theorem d_Ar_copyOfRangeInt_12 : decode b_Ar_copyOfRangeInt 12 = .ok (.astore 4, 2) := by decide +kernel
theorem d_Ar_copyOfRangeInt_14 : decode b_Ar_copyOfRangeInt 14 = .ok (.aload_n 0, 1) := by decide +kernel
theorem d_Ar_copyOfRangeInt_15 : decode b_Ar_copyOfRangeInt 15 = .ok (.iload_n 1, 1) := by decide +kernel
theorem d_Ar_copyOfRangeInt_16 : decode b_Ar_copyOfRangeInt 16 = .ok (.aload 4, 2) := by decide +kernel
theorem d_Ar_copyOfRangeInt_18 : decode b_Ar_copyOfRangeInt 18 = .ok (.iconst 0, 1) := by decide +kernel
theorem d_Ar_copyOfRangeInt_19 : decode b_Ar_copyOfRangeInt 19 = .ok (.aload_n 0, 1) := by decide +kernel
theorem d_Ar_copyOfRangeInt_20 : decode b_Ar_copyOfRangeInt 20 = .ok (.arraylength, 1) := by decide +kernel
theorem d_Ar_copyOfRangeInt_21 : decode b_Ar_copyOfRangeInt 21 = .ok (.iload_n 1, 1) := by decide +kernel
theorem d_Ar_copyOfRangeInt_22 : decode b_Ar_copyOfRangeInt 22 = .ok (.isub, 1) := by decide +kernel
theorem d_Ar_copyOfRangeInt_23 : decode b_Ar_copyOfRangeInt 23 = .ok (.iload_n 3, 1) := by decide +kernel
theorem d_Ar_copyOfRangeInt_24 : decode b_Ar_copyOfRangeInt 24 = .ok (.invokestatic 304, 3) := by decide +kernel
theorem d_Ar_copyOfRangeInt_27 : decode b_Ar_copyOfRangeInt 27 = .ok (.invokestatic 150, 3) := by decide +kernel
theorem d_Ar_copyOfRangeInt_30 : decode b_Ar_copyOfRangeInt 30 = .ok (.aload 4, 2) := by decide +kernel
theorem d_Ar_copyOfRangeInt_32 : decode b_Ar_copyOfRangeInt 32 = .ok (.areturn, 1) := by decide +kernel
theorem d_Ar_checkLength_0 : decode b_Ar_checkLength 0 = .ok (.iload_n 1, 1) := by decide +kernel
theorem d_Ar_checkLength_1 : decode b_Ar_checkLength 1 = .ok (.iload_n 0, 1) := by decide +kernel
theorem d_Ar_checkLength_2 : decode b_Ar_checkLength 2 = .ok (.if_icmp .ge 35, 3) := by decide +kernel
theorem d_Ar_checkLength_5 : decode b_Ar_checkLength 5 = .ok (.new 43, 3) := by decide +kernel
theorem d_Ar_checkLength_8 : decode b_Ar_checkLength 8 = .ok (.dup, 1) := by decide +kernel
theorem d_Ar_checkLength_9 : decode b_Ar_checkLength 9 = .ok (.new 45, 3) := by decide +kernel
theorem d_Ar_checkLength_12 : decode b_Ar_checkLength 12 = .ok (.dup, 1) := by decide +kernel
theorem d_Ar_checkLength_13 : decode b_Ar_checkLength 13 = .ok (.invokespecial 47, 3) := by decide +kernel
theorem d_Ar_checkLength_16 : decode b_Ar_checkLength 16 = .ok (.iload_n 0, 1) := by decide +kernel
theorem d_Ar_checkLength_17 : decode b_Ar_checkLength 17 = .ok (.invokevirtual 54, 3) := by decide +kernel
theorem d_Ar_checkLength_20 : decode b_Ar_checkLength 20 = .ok (.ldc_w 337, 3) := by decide +kernel
theorem d_Ar_checkLength_23 : decode b_Ar_checkLength 23 = .ok (.invokevirtual 50, 3) := by decide +kernel
theorem d_Ar_checkLength_26 : decode b_Ar_checkLength 26 = .ok (.iload_n 1, 1) := by decide +kernel
theorem d_Ar_checkLength_27 : decode b_Ar_checkLength 27 = .ok (.invokevirtual 54, 3) := by decide +kernel
theorem d_Ar_checkLength_30 : decode b_Ar_checkLength 30 = .ok (.invokevirtual 61, 3) := by decide +kernel
theorem d_Ar_checkLength_33 : decode b_Ar_checkLength 33 = .ok (.invokespecial 65, 3) := by decide +kernel
theorem d_Ar_checkLength_36 : decode b_Ar_checkLength 36 = .ok (.athrow, 1) := by decide +kernel
theorem d_Ar_checkLength_37 : decode b_Ar_checkLength 37 = .ok (.return_, 1) := by decide +kernel
