section
-- ===== PART A: goes FIRST, ahead of the names: the tables' words, and 'selects' of the private methods out of them =====
/-- a private method of a class that the tables say can be made, by its rows of tables_1 -/
def lw_okq (q : MethodName × Nat) : Prop := (q.1.cls ≠ "java/lang/invoke/MethodHandle" ∧ q.1.cls ≠ "java/lang/invoke/VarHandle") ∧ Cond.instantiable q.1.cls q.2 ∈ tables_1 ∧ Cond.privateMethod q.1 ∈ tables_1 ∧ Cond.instanceMethod q.1 ∈ tables_1
theorem lw_p0 : lw_okq (⟨"java/lang/Throwable", "fillInStackTrace", "(I)Ljava/lang/Throwable;"⟩, 6) := ⟨⟨by decide +kernel, by decide +kernel⟩, List.mem_of_getElem? (i := 211) (by decide +kernel), List.mem_of_getElem? (i := 209) (by decide +kernel), List.mem_of_getElem? (i := 210) (by decide +kernel)⟩
theorem lw_p1 : lw_okq (⟨"QuestionText$TextReader", "forgetRows", "()V"⟩, 5) := ⟨⟨by decide +kernel, by decide +kernel⟩, List.mem_of_getElem? (i := 41) (by decide +kernel), List.mem_of_getElem? (i := 280) (by decide +kernel), List.mem_of_getElem? (i := 281) (by decide +kernel)⟩
theorem lw_p2 : lw_okq (⟨"QuestionText$TextReader", "nextSign", "()I"⟩, 5) := ⟨⟨by decide +kernel, by decide +kernel⟩, List.mem_of_getElem? (i := 41) (by decide +kernel), List.mem_of_getElem? (i := 284) (by decide +kernel), List.mem_of_getElem? (i := 285) (by decide +kernel)⟩
theorem lw_p3 : lw_okq (⟨"QuestionText$TextReader", "took", "(I)Z"⟩, 5) := ⟨⟨by decide +kernel, by decide +kernel⟩, List.mem_of_getElem? (i := 41) (by decide +kernel), List.mem_of_getElem? (i := 288) (by decide +kernel), List.mem_of_getElem? (i := 289) (by decide +kernel)⟩
theorem lw_p4 : lw_okq (⟨"QuestionText$TextReader", "readQuestion", "()V"⟩, 5) := ⟨⟨by decide +kernel, by decide +kernel⟩, List.mem_of_getElem? (i := 41) (by decide +kernel), List.mem_of_getElem? (i := 292) (by decide +kernel), List.mem_of_getElem? (i := 293) (by decide +kernel)⟩
theorem lw_p5 : lw_okq (⟨"QuestionText$TextReader", "readNumber", "(II)I"⟩, 5) := ⟨⟨by decide +kernel, by decide +kernel⟩, List.mem_of_getElem? (i := 41) (by decide +kernel), List.mem_of_getElem? (i := 296) (by decide +kernel), List.mem_of_getElem? (i := 297) (by decide +kernel)⟩
theorem lw_p6 : lw_okq (⟨"QuestionText$TextReader", "fail", "(I)V"⟩, 5) := ⟨⟨by decide +kernel, by decide +kernel⟩, List.mem_of_getElem? (i := 41) (by decide +kernel), List.mem_of_getElem? (i := 303) (by decide +kernel), List.mem_of_getElem? (i := 304) (by decide +kernel)⟩
theorem lw_p7 : lw_okq (⟨"QuestionText$TextReader", "take", "(I)V"⟩, 5) := ⟨⟨by decide +kernel, by decide +kernel⟩, List.mem_of_getElem? (i := 41) (by decide +kernel), List.mem_of_getElem? (i := 309) (by decide +kernel), List.mem_of_getElem? (i := 310) (by decide +kernel)⟩
theorem lw_p8 : lw_okq (⟨"QuestionText$TextReader", "readSpan", "()LQuestionText$Span;"⟩, 5) := ⟨⟨by decide +kernel, by decide +kernel⟩, List.mem_of_getElem? (i := 41) (by decide +kernel), List.mem_of_getElem? (i := 313) (by decide +kernel), List.mem_of_getElem? (i := 314) (by decide +kernel)⟩
theorem lw_p9 : lw_okq (⟨"QuestionText$TextReader", "readWords", "()[I"⟩, 5) := ⟨⟨by decide +kernel, by decide +kernel⟩, List.mem_of_getElem? (i := 41) (by decide +kernel), List.mem_of_getElem? (i := 330) (by decide +kernel), List.mem_of_getElem? (i := 331) (by decide +kernel)⟩
theorem lw_p10 : lw_okq (⟨"QuestionText$TextReader", "readJump", "(LQuestionText$Span;)LQuestionText$Jump;"⟩, 5) := ⟨⟨by decide +kernel, by decide +kernel⟩, List.mem_of_getElem? (i := 41) (by decide +kernel), List.mem_of_getElem? (i := 613) (by decide +kernel), List.mem_of_getElem? (i := 614) (by decide +kernel)⟩
theorem lw_p11 : lw_okq (⟨"java/util/ArrayList", "add", "(Ljava/lang/Object;[Ljava/lang/Object;I)V"⟩, 3) := ⟨⟨by decide +kernel, by decide +kernel⟩, List.mem_of_getElem? (i := 587) (by decide +kernel), List.mem_of_getElem? (i := 647) (by decide +kernel), List.mem_of_getElem? (i := 648) (by decide +kernel)⟩
theorem lw_p12 : lw_okq (⟨"java/util/ArrayList", "grow", "()[Ljava/lang/Object;"⟩, 3) := ⟨⟨by decide +kernel, by decide +kernel⟩, List.mem_of_getElem? (i := 587) (by decide +kernel), List.mem_of_getElem? (i := 651) (by decide +kernel), List.mem_of_getElem? (i := 652) (by decide +kernel)⟩
theorem lw_p13 : lw_okq (⟨"java/util/ArrayList", "grow", "(I)[Ljava/lang/Object;"⟩, 3) := ⟨⟨by decide +kernel, by decide +kernel⟩, List.mem_of_getElem? (i := 587) (by decide +kernel), List.mem_of_getElem? (i := 655) (by decide +kernel), List.mem_of_getElem? (i := 656) (by decide +kernel)⟩
theorem lw_p14 : lw_okq (⟨"QuestionText$TextReader", "readKind", "()V"⟩, 5) := ⟨⟨by decide +kernel, by decide +kernel⟩, List.mem_of_getElem? (i := 41) (by decide +kernel), List.mem_of_getElem? (i := 719) (by decide +kernel), List.mem_of_getElem? (i := 720) (by decide +kernel)⟩
theorem lw_p15 : lw_okq (⟨"QuestionText$TextReader", "readCondition", "()LQuestionText$Condition;"⟩, 5) := ⟨⟨by decide +kernel, by decide +kernel⟩, List.mem_of_getElem? (i := 41) (by decide +kernel), List.mem_of_getElem? (i := 723) (by decide +kernel), List.mem_of_getElem? (i := 724) (by decide +kernel)⟩
def lw_privs_1 : List (MethodName × Nat) := [(⟨"java/lang/Throwable", "fillInStackTrace", "(I)Ljava/lang/Throwable;"⟩, 6), (⟨"QuestionText$TextReader", "forgetRows", "()V"⟩, 5), (⟨"QuestionText$TextReader", "nextSign", "()I"⟩, 5), (⟨"QuestionText$TextReader", "took", "(I)Z"⟩, 5), (⟨"QuestionText$TextReader", "readQuestion", "()V"⟩, 5), (⟨"QuestionText$TextReader", "readNumber", "(II)I"⟩, 5), (⟨"QuestionText$TextReader", "fail", "(I)V"⟩, 5), (⟨"QuestionText$TextReader", "take", "(I)V"⟩, 5), (⟨"QuestionText$TextReader", "readSpan", "()LQuestionText$Span;"⟩, 5), (⟨"QuestionText$TextReader", "readWords", "()[I"⟩, 5), (⟨"QuestionText$TextReader", "readJump", "(LQuestionText$Span;)LQuestionText$Jump;"⟩, 5), (⟨"java/util/ArrayList", "add", "(Ljava/lang/Object;[Ljava/lang/Object;I)V"⟩, 3), (⟨"java/util/ArrayList", "grow", "()[Ljava/lang/Object;"⟩, 3), (⟨"java/util/ArrayList", "grow", "(I)[Ljava/lang/Object;"⟩, 3), (⟨"QuestionText$TextReader", "readKind", "()V"⟩, 5), (⟨"QuestionText$TextReader", "readCondition", "()LQuestionText$Condition;"⟩, 5)]
theorem lw_r1 : ∀ q ∈ lw_privs_1, lw_okq q := List.forall_mem_cons.mpr ⟨lw_p0, List.forall_mem_cons.mpr ⟨lw_p1, List.forall_mem_cons.mpr ⟨lw_p2, List.forall_mem_cons.mpr ⟨lw_p3, List.forall_mem_cons.mpr ⟨lw_p4, List.forall_mem_cons.mpr ⟨lw_p5, List.forall_mem_cons.mpr ⟨lw_p6, List.forall_mem_cons.mpr ⟨lw_p7, List.forall_mem_cons.mpr ⟨lw_p8, List.forall_mem_cons.mpr ⟨lw_p9, List.forall_mem_cons.mpr ⟨lw_p10, List.forall_mem_cons.mpr ⟨lw_p11, List.forall_mem_cons.mpr ⟨lw_p12, List.forall_mem_cons.mpr ⟨lw_p13, List.forall_mem_cons.mpr ⟨lw_p14, List.forall_mem_cons.mpr ⟨lw_p15, fun _ h => absurd h List.not_mem_nil⟩⟩⟩⟩⟩⟩⟩⟩⟩⟩⟩⟩⟩⟩⟩⟩
theorem lw_p16 : lw_okq (⟨"QuestionText$TextReader", "readTerm", "()LQuestionText$Term;"⟩, 5) := ⟨⟨by decide +kernel, by decide +kernel⟩, List.mem_of_getElem? (i := 41) (by decide +kernel), List.mem_of_getElem? (i := 727) (by decide +kernel), List.mem_of_getElem? (i := 728) (by decide +kernel)⟩
theorem lw_p17 : lw_okq (⟨"QuestionText$Edition", "waysByJumps", "()[J"⟩, 6) := ⟨⟨by decide +kernel, by decide +kernel⟩, List.mem_of_getElem? (i := 105) (by decide +kernel), List.mem_of_getElem? (i := 788) (by decide +kernel), List.mem_of_getElem? (i := 789) (by decide +kernel)⟩
theorem lw_p18 : lw_okq (⟨"QuestionText$Edition", "targetsOf", "(LQuestionText$Question;)J"⟩, 6) := ⟨⟨by decide +kernel, by decide +kernel⟩, List.mem_of_getElem? (i := 105) (by decide +kernel), List.mem_of_getElem? (i := 792) (by decide +kernel), List.mem_of_getElem? (i := 793) (by decide +kernel)⟩
theorem lw_p19 : lw_okq (⟨"QuestionTextModel", "copy", "(II)V"⟩, 31) := ⟨⟨by decide +kernel, by decide +kernel⟩, List.mem_of_getElem? (i := 968) (by decide +kernel), List.mem_of_getElem? (i := 1084) (by decide +kernel), List.mem_of_getElem? (i := 1085) (by decide +kernel)⟩
theorem lw_p20 : lw_okq (⟨"QuestionTextModel", "see", "()I"⟩, 31) := ⟨⟨by decide +kernel, by decide +kernel⟩, List.mem_of_getElem? (i := 968) (by decide +kernel), List.mem_of_getElem? (i := 1088) (by decide +kernel), List.mem_of_getElem? (i := 1089) (by decide +kernel)⟩
theorem lw_p21 : lw_okq (⟨"QuestionTextModel", "here", "()I"⟩, 31) := ⟨⟨by decide +kernel, by decide +kernel⟩, List.mem_of_getElem? (i := 968) (by decide +kernel), List.mem_of_getElem? (i := 1092) (by decide +kernel), List.mem_of_getElem? (i := 1093) (by decide +kernel)⟩
theorem lw_p22 : lw_okq (⟨"QuestionTextModel", "fail", "(I)V"⟩, 31) := ⟨⟨by decide +kernel, by decide +kernel⟩, List.mem_of_getElem? (i := 968) (by decide +kernel), List.mem_of_getElem? (i := 1096) (by decide +kernel), List.mem_of_getElem? (i := 1097) (by decide +kernel)⟩
theorem lw_p23 : lw_okq (⟨"QuestionTextModel", "question", "()V"⟩, 31) := ⟨⟨by decide +kernel, by decide +kernel⟩, List.mem_of_getElem? (i := 968) (by decide +kernel), List.mem_of_getElem? (i := 1100) (by decide +kernel), List.mem_of_getElem? (i := 1101) (by decide +kernel)⟩
theorem lw_p24 : lw_okq (⟨"QuestionTextModel", "number", "(II)I"⟩, 31) := ⟨⟨by decide +kernel, by decide +kernel⟩, List.mem_of_getElem? (i := 968) (by decide +kernel), List.mem_of_getElem? (i := 1104) (by decide +kernel), List.mem_of_getElem? (i := 1105) (by decide +kernel)⟩
theorem lw_p25 : lw_okq (⟨"QuestionTextModel", "isDigit", "()Z"⟩, 31) := ⟨⟨by decide +kernel, by decide +kernel⟩, List.mem_of_getElem? (i := 968) (by decide +kernel), List.mem_of_getElem? (i := 1108) (by decide +kernel), List.mem_of_getElem? (i := 1109) (by decide +kernel)⟩
theorem lw_p26 : lw_okq (⟨"QuestionTextModel", "take", "(I)V"⟩, 31) := ⟨⟨by decide +kernel, by decide +kernel⟩, List.mem_of_getElem? (i := 968) (by decide +kernel), List.mem_of_getElem? (i := 1112) (by decide +kernel), List.mem_of_getElem? (i := 1113) (by decide +kernel)⟩
theorem lw_p27 : lw_okq (⟨"QuestionTextModel", "words", "(II)V"⟩, 31) := ⟨⟨by decide +kernel, by decide +kernel⟩, List.mem_of_getElem? (i := 968) (by decide +kernel), List.mem_of_getElem? (i := 1116) (by decide +kernel), List.mem_of_getElem? (i := 1117) (by decide +kernel)⟩
theorem lw_p28 : lw_okq (⟨"QuestionTextModel", "jump", "(II)Z"⟩, 31) := ⟨⟨by decide +kernel, by decide +kernel⟩, List.mem_of_getElem? (i := 968) (by decide +kernel), List.mem_of_getElem? (i := 1120) (by decide +kernel), List.mem_of_getElem? (i := 1121) (by decide +kernel)⟩
theorem lw_p29 : lw_okq (⟨"QuestionTextModel", "kindRow", "()V"⟩, 31) := ⟨⟨by decide +kernel, by decide +kernel⟩, List.mem_of_getElem? (i := 968) (by decide +kernel), List.mem_of_getElem? (i := 1124) (by decide +kernel), List.mem_of_getElem? (i := 1125) (by decide +kernel)⟩
theorem lw_p30 : lw_okq (⟨"QuestionTextModel", "conditionRow", "(I)V"⟩, 31) := ⟨⟨by decide +kernel, by decide +kernel⟩, List.mem_of_getElem? (i := 968) (by decide +kernel), List.mem_of_getElem? (i := 1128) (by decide +kernel), List.mem_of_getElem? (i := 1129) (by decide +kernel)⟩
theorem lw_p31 : lw_okq (⟨"QuestionTextModel", "term", "(I)V"⟩, 31) := ⟨⟨by decide +kernel, by decide +kernel⟩, List.mem_of_getElem? (i := 968) (by decide +kernel), List.mem_of_getElem? (i := 1132) (by decide +kernel), List.mem_of_getElem? (i := 1133) (by decide +kernel)⟩
def lw_privs_2 : List (MethodName × Nat) := [(⟨"QuestionText$TextReader", "readTerm", "()LQuestionText$Term;"⟩, 5), (⟨"QuestionText$Edition", "waysByJumps", "()[J"⟩, 6), (⟨"QuestionText$Edition", "targetsOf", "(LQuestionText$Question;)J"⟩, 6), (⟨"QuestionTextModel", "copy", "(II)V"⟩, 31), (⟨"QuestionTextModel", "see", "()I"⟩, 31), (⟨"QuestionTextModel", "here", "()I"⟩, 31), (⟨"QuestionTextModel", "fail", "(I)V"⟩, 31), (⟨"QuestionTextModel", "question", "()V"⟩, 31), (⟨"QuestionTextModel", "number", "(II)I"⟩, 31), (⟨"QuestionTextModel", "isDigit", "()Z"⟩, 31), (⟨"QuestionTextModel", "take", "(I)V"⟩, 31), (⟨"QuestionTextModel", "words", "(II)V"⟩, 31), (⟨"QuestionTextModel", "jump", "(II)Z"⟩, 31), (⟨"QuestionTextModel", "kindRow", "()V"⟩, 31), (⟨"QuestionTextModel", "conditionRow", "(I)V"⟩, 31), (⟨"QuestionTextModel", "term", "(I)V"⟩, 31)]
theorem lw_r2 : ∀ q ∈ lw_privs_2, lw_okq q := List.forall_mem_cons.mpr ⟨lw_p16, List.forall_mem_cons.mpr ⟨lw_p17, List.forall_mem_cons.mpr ⟨lw_p18, List.forall_mem_cons.mpr ⟨lw_p19, List.forall_mem_cons.mpr ⟨lw_p20, List.forall_mem_cons.mpr ⟨lw_p21, List.forall_mem_cons.mpr ⟨lw_p22, List.forall_mem_cons.mpr ⟨lw_p23, List.forall_mem_cons.mpr ⟨lw_p24, List.forall_mem_cons.mpr ⟨lw_p25, List.forall_mem_cons.mpr ⟨lw_p26, List.forall_mem_cons.mpr ⟨lw_p27, List.forall_mem_cons.mpr ⟨lw_p28, List.forall_mem_cons.mpr ⟨lw_p29, List.forall_mem_cons.mpr ⟨lw_p30, List.forall_mem_cons.mpr ⟨lw_p31, fun _ h => absurd h List.not_mem_nil⟩⟩⟩⟩⟩⟩⟩⟩⟩⟩⟩⟩⟩⟩⟩⟩
theorem lw_p32 : lw_okq (⟨"QuestionTextModel", "questions", "()I"⟩, 31) := ⟨⟨by decide +kernel, by decide +kernel⟩, List.mem_of_getElem? (i := 968) (by decide +kernel), List.mem_of_getElem? (i := 1136) (by decide +kernel), List.mem_of_getElem? (i := 1137) (by decide +kernel)⟩
theorem lw_p33 : lw_okq (⟨"QuestionTextModel", "says", "(Z)Z"⟩, 31) := ⟨⟨by decide +kernel, by decide +kernel⟩, List.mem_of_getElem? (i := 968) (by decide +kernel), List.mem_of_getElem? (i := 1148) (by decide +kernel), List.mem_of_getElem? (i := 1149) (by decide +kernel)⟩
theorem lw_p34 : lw_okq (⟨"QuestionTextModel", "asks", "(I)V"⟩, 31) := ⟨⟨by decide +kernel, by decide +kernel⟩, List.mem_of_getElem? (i := 968) (by decide +kernel), List.mem_of_getElem? (i := 1156) (by decide +kernel), List.mem_of_getElem? (i := 1157) (by decide +kernel)⟩
theorem lw_p35 : lw_okq (⟨"QuestionTextModel", "isThere", "(I)Z"⟩, 31) := ⟨⟨by decide +kernel, by decide +kernel⟩, List.mem_of_getElem? (i := 968) (by decide +kernel), List.mem_of_getElem? (i := 1160) (by decide +kernel), List.mem_of_getElem? (i := 1161) (by decide +kernel)⟩
theorem lw_p36 : lw_okq (⟨"QuestionTextModel", "holds", "(I)Z"⟩, 31) := ⟨⟨by decide +kernel, by decide +kernel⟩, List.mem_of_getElem? (i := 968) (by decide +kernel), List.mem_of_getElem? (i := 1176) (by decide +kernel), List.mem_of_getElem? (i := 1177) (by decide +kernel)⟩
theorem lw_p37 : lw_okq (⟨"QuestionTextModel", "loops", "(I)Z"⟩, 31) := ⟨⟨by decide +kernel, by decide +kernel⟩, List.mem_of_getElem? (i := 968) (by decide +kernel), List.mem_of_getElem? (i := 1192) (by decide +kernel), List.mem_of_getElem? (i := 1193) (by decide +kernel)⟩
theorem lw_p38 : lw_okq (⟨"QuestionTextModel", "unmark", "()V"⟩, 31) := ⟨⟨by decide +kernel, by decide +kernel⟩, List.mem_of_getElem? (i := 968) (by decide +kernel), List.mem_of_getElem? (i := 1196) (by decide +kernel), List.mem_of_getElem? (i := 1197) (by decide +kernel)⟩
theorem lw_p39 : lw_okq (⟨"QuestionTextModel", "spreads", "()Z"⟩, 31) := ⟨⟨by decide +kernel, by decide +kernel⟩, List.mem_of_getElem? (i := 968) (by decide +kernel), List.mem_of_getElem? (i := 1200) (by decide +kernel), List.mem_of_getElem? (i := 1201) (by decide +kernel)⟩
def lw_privs_3 : List (MethodName × Nat) := [(⟨"QuestionTextModel", "questions", "()I"⟩, 31), (⟨"QuestionTextModel", "says", "(Z)Z"⟩, 31), (⟨"QuestionTextModel", "asks", "(I)V"⟩, 31), (⟨"QuestionTextModel", "isThere", "(I)Z"⟩, 31), (⟨"QuestionTextModel", "holds", "(I)Z"⟩, 31), (⟨"QuestionTextModel", "loops", "(I)Z"⟩, 31), (⟨"QuestionTextModel", "unmark", "()V"⟩, 31), (⟨"QuestionTextModel", "spreads", "()Z"⟩, 31)]
theorem lw_r3 : ∀ q ∈ lw_privs_3, lw_okq q := List.forall_mem_cons.mpr ⟨lw_p32, List.forall_mem_cons.mpr ⟨lw_p33, List.forall_mem_cons.mpr ⟨lw_p34, List.forall_mem_cons.mpr ⟨lw_p35, List.forall_mem_cons.mpr ⟨lw_p36, List.forall_mem_cons.mpr ⟨lw_p37, List.forall_mem_cons.mpr ⟨lw_p38, List.forall_mem_cons.mpr ⟨lw_p39, fun _ h => absurd h List.not_mem_nil⟩⟩⟩⟩⟩⟩⟩⟩
def lw_privs : List (MethodName × Nat) := lw_privs_1 ++ (lw_privs_2 ++ (lw_privs_3))
def lw_tbl : List Cond := k2_sels lw_privs ++ tables_1
theorem lw_privs_ok : ∀ q ∈ lw_privs, lw_okq q := by
  show ∀ q ∈ lw_privs_1 ++ (lw_privs_2 ++ (lw_privs_3)), lw_okq q
  exact List.forall_mem_append.mpr ⟨lw_r1, List.forall_mem_append.mpr ⟨lw_r2, lw_r3⟩⟩
end
section
-- calls that throw and their catching: begun from claim/NAMES.whole.lean.txt, its names of Bundle written out
theorem goodIn_r {big : List Cond} (ws : List Cond) (ps : List Nat) (hp : ws = ps.filterMap (fun i => big[i]?)) (h : ws.all goodWord = true) : GoodIn big ws := by
  intro w hw
  have h1 := List.all_eq_true.mp h w hw
  rw [hp] at hw
  obtain ⟨i, -, hi⟩ := List.mem_filterMap.mp hw
  have hm : w ∈ big := by first | exact List.mem_of_getElem? hi | exact List.getElem?_mem hi
  exact ⟨hm, good_of_word h1⟩
theorem goodIn_app {big a b : List Cond} (ha : GoodIn big a) (hb : GoodIn big b) : GoodIn big (a ++ b) := fun w h => (List.mem_append.mp h).elim (ha w) (hb w)
theorem goodIn_ca {big a b : List Cond} {c : Cond} (ha : GoodIn big (c :: a)) (hb : GoodIn big b) : GoodIn big (c :: (a ++ b)) := fun w h => (List.mem_cons.mp h).elim (fun e => ha w (List.mem_cons.mpr (Or.inl e))) (fun h => (List.mem_append.mp h).elim (fun h => ha w (List.mem_cons.mpr (Or.inr h))) (hb w))
theorem goodIn_sub {big ws : List Cond} (hm : ∀ w ∈ ws, w ∈ big) (h : ws.all goodWord = true) : GoodIn big ws := fun w hw => ⟨hm w hw, good_of_word (List.all_eq_true.mp h w hw)⟩
section VXA
def vx_T (XC : String → State → State → Prop) (st : State) (q : Addr) (t : State) (mc ms : Nat) (free : Addr → Prop) : Prop :=
  ∃ (E : String) (ce : Cell) (L : List Loc), XC E st t ∧ t.heap[q]? = some ce ∧ ce.vm = .none ∧ st.vm.findClass E = some ce.cls ∧ st.WarmedH t.vm ∧ st.sameButNew ({ t with vm := st.vm } : State) L mc ms ∧ ∀ z ∈ L, free z.base
def vx_Q (Qc : Array Value → State → Outcome → State → Prop) (XC : String → State → State → Prop) (mc ms : Nat) (free : Addr → Prop) : Array Value → State → Outcome → State → Prop := fun a st o t =>
  (Qc a st o t ∧ ∃ L, FrameEnd st o t L mc ms ∧ ∀ q ∈ L, free q.base) ∨ ∃ q, o = .threw q ∧ vx_T XC st q t mc ms free
def vx_Met (l : Launch) (y : MethodName) (ws : List Cond) (rm : Room) (Pc : Array Value → State → Prop) (Qc : Array Value → State → Outcome → State → Prop) (XC : String → State → State → Prop) (mc ms : Nat) (free : Addr → Prop) : Prop :=
  MetFree l y (headSpec ws rm) Pc (fun _ _ _ _ _ => True) (vx_Q Qc XC mc ms free)
def vx_Post (XC : String → State → State → Prop) (mc ms : Nat) (free : Addr → Prop) : Pt → Array Value → Addr → Pt → Prop := fun A a q B =>
  ∃ (g : JFrame) (mk : MethodId) (t : State) (L : List Loc) (E : String) (ce : Cell), B.U.heap = t.heap ∧ B.U.vm = t.vm ∧ XC E (A.U.calling g mk a) t ∧ t.heap[q]? = some ce ∧ ce.vm = .none ∧ A.U.vm.findClass E = some ce.cls ∧ B.locs = A.locs ++ L ∧ (∀ z ∈ L, free z.base) ∧ B.cells = A.cells + mc ∧ B.slots = A.slots + ms
def vx_Back (l : Launch) (R : Room) (p : Program) (e : Env) (below : List Frame) (s : State) (sargs : Array Value) (y : MethodName) (len W9 : Nat)
    (Pre : Pt → Array Value → Prop) (Post : Pt → Array Value → Option Value → Pt → Prop) (PostX : Pt → Array Value → Addr → Pt → Prop) : Prop :=
  ∀ (m : MethodId) (meth : Method) (c : Code) (A : Pt) (g : JFrame) (ig : Instr) (mk : MethodId) (a : Array Value),
    Stand p l e R s m sargs below meth c A.U A.locs A.cells A.slots → g.method = m → g.locals.size = c.maxLocals → decode c.code g.pc = .ok (ig, len) →
    2 * g.monitorRoom + (g.stack.map fun v => v.category).sum ≤ W9 → A.U.methodNamed? y = some mk → Pre A a →
    (∃ (v : Option Value) (B : Pt), Stand p l e R s m sargs below meth c B.U B.locs B.cells B.slots ∧ Post A a v B ∧
      Steps p.tables e below (doInvoke e (A.U.setTop g) [] mk a).1 (B.U.setTop { g with pc := g.pc + len, stack := v.toList ++ g.stack })) ∨
    (∃ (q : Addr) (B : Pt), Stand p l e R s m sargs below meth c B.U B.locs B.cells B.slots ∧ PostX A a q B ∧
      Steps p.tables e below (doInvoke e (A.U.setTop g) [] mk a).1 ((B.U.setTop g).pushFrame (.throwing q)))
section Payer
variable {l : Launch} {R : Room} {p : Program} {e : Env} {below : List Frame} {s : State} {sargs : Array Value} {y : MethodName} {len W9 : Nat}
theorem vx_back {ws : List Cond} {rm : Room} {Pc : Array Value → State → Prop} {Qc : Array Value → State → Outcome → State → Prop} {XC : String → State → State → Prop} {mc ms : Nat} {free : Addr → Prop} {bytes : ByteArray} {maxL : Nat} {ret : Option FieldType}
    (hM : vx_Met l y ws rm Pc Qc XC mc ms free) (hblind : FrameBlind Pc) (hrc : rm.cells = mc) (hrs : rm.slots = ms)
    (hframes : rm.frames + 1 ≤ R.frames) (hlocals : W9 + (maxL + 11) + rm.locals ≤ R.locals)
    (hws : ∀ w ∈ ws, ∀ a' U, s.WarmedH U.vm → w.before a' U = true) (hcode : Cond.code y bytes maxL ret ∈ ws) (hinit : ∀ a' U, s.WarmedH U.vm → (Cond.initialized y.cls).before a' U = true) :
    vx_Back l R p e below s sargs y len W9 (PreOf R mc ms Pc) (PostOf Qc mc ms free) (vx_Post XC mc ms free) := by
  intro m meth c A g ig mk a X hg hsize hdg hW hn hp
  have h1 : (headSpec ws rm).pre.before a A.U = true := atoms_intro fun w hw => hws w hw _ _ X.warmed
  have h2 : (Cond.code y bytes maxL ret).before a A.U = true := hws _ hcode _ _ X.warmed
  have h3 : (Cond.initialized y.cls).before a A.U = true := hinit _ _ X.warmed
  have h4 : A.cells + (headSpec ws rm).room.cells ≤ R.cells := by rw [show (headSpec ws rm).room.cells = mc from hrc]; exact hp.1
  have h5 : A.slots + (headSpec ws rm).room.slots ≤ R.slots := by rw [show (headSpec ws rm).room.slots = ms from hrs]; exact hp.2.1
  have hPc : Pc a (A.U.calling g mk a) := hblind _ _ _ _ hp.2.2
  obtain ⟨U, Ls, c0, s0⟩ := A
  dsimp only [Pt.U, Pt.locs, Pt.cells, Pt.slots] at h1 h2 h3 h4 h5 X hn hPc ⊢
  obtain ⟨methY, cY, hmY, hcY, -, hlY, -, -, -, -⟩ := Cond.code_spec hn h2
  obtain ⟨kY, hkY, -⟩ := className_of_methodNamed hn
  have hinitY : kY.init = .initialized := Cond.initialized_spec (findClass_of_methodNamed hn) hkY h3
  have h : At U g.method c below := by rw [hg]; exact X.here
  have hlocals9 : W9 + (maxL + 11) + (headSpec ws rm).room.locals ≤ R.locals := hlocals
  have happ : (headSpec ws rm).appliesLoose y e.platform (U.calling g mk a) = true :=
    Spec.appliesLoose_calling (g := g) h hdg hn hkY hinitY
      (X.room_calling (g := g) (R' := (headSpec ws rm).room) hsize hmY hcY hframes (by rw [hlY]; omega) h4 h5) h1
  obtain ⟨mid, hmid⟩ := h.above
  have hfr : (U.setTop g).frames = (.java g :: mid) ++ below := by rw [State.frames_setTop' g h.top, hmid]; rfl
  obtain ⟨o, s₂, hsteps, -, hend, hq⟩ := Steps.callFree hM p X.admits X.cas X.clock (acts := []) hfr happ hPc trivial
  have hq' : vx_Q Qc XC mc ms free a (U.calling g mk a) o s₂ := hq
  rw [State.frames_setTop' g h.top] at hend
  obtain ⟨g₀, hg0⟩ := Option.isSome_iff_exists.mp h.top
  obtain ⟨r, hr⟩ := State.topJava?_eq_some.mp hg0
  have hr' : (({ U with heap := s₂.heap, slotsUsed := s₂.slotsUsed } : State).setVm s₂.vm).frames = .java g₀ :: r := hr
  rcases hq' with ⟨hqc, L, hfe, hL⟩ | ⟨q, rfl, E, ce, L, hx, hce, hcv, hcl, hW₂, hsm, hL⟩
  · obtain ⟨⟨v, rfl⟩, hW₂, e2, q2, q3, q4, q5, q6⟩ := id hfe
    have e3 : s₂ = ({ (U.calling g mk a).setFrames s₂.frames with heap := s₂.heap, slotsUsed := s₂.slotsUsed } : State).setVm s₂.vm := by
      have : s₂ = ({ s₂ with vm := (U.calling g mk a).vm } : State).setVm s₂.vm := rfl
      rw [e2] at this
      exact this
    obtain ⟨c₂, i₂, len₂, hc₂, hd₂, hf₂⟩ := hend
    have hW' : U.WarmedH s₂.vm := hW₂
    have hcc : c₂ = c := by
      have h1 : s₂.code? g.method = U.code? g.method := by
        rw [State.code?_eq, State.code?_eq, hW'.alike.method?]
      exact Option.some.inj (hc₂.symm.trans (h1.trans h.code))
    subst hcc
    have hlen : len₂ = len := by rw [hdg] at hd₂; cases hd₂; rfl
    subst hlen
    have hs₂ : s₂ = (({ U with heap := s₂.heap, slotsUsed := s₂.slotsUsed } : State).setVm s₂.vm).setTop { g with pc := g.pc + len₂, stack := v.toList ++ g.stack } := by
      refine e3.trans ?_
      rw [hf₂, State.calling_eq h.top, State.setFrames_setFrames, State.setTop_of_frames _ hr', hr]
      rfl
    have hsame : U.sameButNew ({ U with heap := s₂.heap, slotsUsed := s₂.slotsUsed } : State) L mc ms := by
      refine ⟨?_, q2, q3, q4, q5, q6⟩
      obtain ⟨t, ht, -⟩ := State.frames_cons hr
      show ({ U with heap := s₂.heap, slotsUsed := s₂.slotsUsed } : State) = { U.setFrames U.frames with heap := s₂.heap, slotsUsed := s₂.slotsUsed }
      rw [State.setFrames_self ht]
    subst hg
    refine Or.inl ⟨v, ⟨(({ U with heap := s₂.heap, slotsUsed := s₂.slotsUsed } : State).setVm s₂.vm), Ls ++ L, c0 + mc, s0 + ms⟩,
      ⟨X.admits, X.cas, X.clock, X.frames, X.room, X.hears, X.method, X.code, (X.here.setHeapUsed s₂.heap s₂.slotsUsed).setVm hW'.alike, X.tail, State.WarmedH.trans X.warmed hW', X.limits, X.bytes, X.same.trans (hsame.setVm s.vm)⟩,
      ⟨g, mk, s₂, L, rfl, rfl, hqc, rfl, hL, rfl, rfl⟩, ?_⟩
    show Steps p.tables e below _ ((({ U with heap := s₂.heap, slotsUsed := s₂.slotsUsed } : State).setVm s₂.vm).setTop { g with pc := g.pc + len₂, stack := v.toList ++ g.stack })
    rw [← hs₂]
    exact hsteps
  · obtain ⟨e2, q2, q3, q4, q5, q6⟩ := id hsm
    have e3 : s₂ = ({ (U.calling g mk a).setFrames s₂.frames with heap := s₂.heap, slotsUsed := s₂.slotsUsed } : State).setVm s₂.vm := by
      have : s₂ = ({ s₂ with vm := (U.calling g mk a).vm } : State).setVm s₂.vm := rfl
      rw [e2] at this
      exact this
    have hf₂ : s₂.frames = .throwing q :: .java g :: U.frames.tail := hend
    have hW' : U.WarmedH s₂.vm := hW₂
    have hs₂ : s₂ = ((({ U with heap := s₂.heap, slotsUsed := s₂.slotsUsed } : State).setVm s₂.vm).setTop g).pushFrame (.throwing q) := by
      refine e3.trans ?_
      rw [hf₂, State.calling_eq h.top, State.setFrames_setFrames, State.pushFrame, State.frames_setTop _ hr', State.setTop_of_frames _ hr', State.setFrames_setFrames, hr]
      rfl
    have hsame : U.sameButNew ({ U with heap := s₂.heap, slotsUsed := s₂.slotsUsed } : State) L mc ms := by
      refine ⟨?_, q2, q3, q4, q5, q6⟩
      obtain ⟨t, ht, -⟩ := State.frames_cons hr
      show ({ U with heap := s₂.heap, slotsUsed := s₂.slotsUsed } : State) = { U.setFrames U.frames with heap := s₂.heap, slotsUsed := s₂.slotsUsed }
      rw [State.setFrames_self ht]
    subst hg
    refine Or.inr ⟨q, ⟨(({ U with heap := s₂.heap, slotsUsed := s₂.slotsUsed } : State).setVm s₂.vm), Ls ++ L, c0 + mc, s0 + ms⟩,
      ⟨X.admits, X.cas, X.clock, X.frames, X.room, X.hears, X.method, X.code, (X.here.setHeapUsed s₂.heap s₂.slotsUsed).setVm hW'.alike, X.tail, State.WarmedH.trans X.warmed hW', X.limits, X.bytes, X.same.trans (hsame.setVm s.vm)⟩,
      ⟨g, mk, s₂, L, E, ce, rfl, rfl, hx, hce, hcv, hcl, rfl, hL, rfl, rfl⟩, ?_⟩
    show Steps p.tables e below _ (((({ U with heap := s₂.heap, slotsUsed := s₂.slotsUsed } : State).setVm s₂.vm).setTop g).pushFrame (.throwing q))
    rw [← hs₂]
    exact hsteps
end Payer
section Calls
variable {p : Program} {l : Launch} {e : Env} {R : Room} {s : State} {m : MethodId} {args : Array Value} {below : List Frame} {meth : Method} {c : Code} {T : State} {locs : List Loc} {cells slots : Nat}
theorem vx_callV (X : Stand p l e R s m args below meth c T locs cells slots) (hexec : p.tables.exec = Jvm.exec) {own C : String} {index : Nat} {y : MethodName} {bytes : ByteArray} {maxL : Nat} {ret : Option FieldType}
    (hown : s.vm.findClass own = some m.cls) (hlink : (Cond.methodLink own index y).before args s = true) (hinst : (Cond.instanceMethod y).before args s = true) (hsel : (Cond.selects C y y).before args s = true)
    (hcode : (Cond.code y bytes maxL ret).before args s = true) (hy : y.cls ≠ "java/lang/invoke/MethodHandle" ∧ y.cls ≠ "java/lang/invoke/VarHandle")
    {W9 : Nat} {Pre : Pt → Array Value → Prop} {Post : Pt → Array Value → Option Value → Pt → Prop} {PostX : Pt → Array Value → Addr → Pt → Prop} (hK : vx_Back l R p e below s args y 3 W9 Pre Post PostX)
    {b : Addr} {cellB : Cell} (hcell : T.heap[b]? = some cellB) (hobj : cellB.vm.isStatics = false) (hcls : s.vm.findClass C = some cellB.cls)
    {g : JFrame} (hg : g.method = m) (hsize : g.locals.size = c.maxLocals) {argsL rest : List Value} (hlen : ∀ sig, parseMethodDescriptor y.desc = some sig → argsL.length = sig.parameters.length)
    (hstack : g.stack = argsL.reverse ++ .ref b :: rest) (hW : 2 * g.monitorRoom + (rest.map fun v => v.category).sum ≤ W9) (hdg : decode c.code g.pc = .ok (.invokevirtual index, 3))
    (hpre : ∀ vm₁, s.WarmedH vm₁ → Pre ⟨T.setVm vm₁, locs, cells, slots⟩ (Value.ref b :: argsL).toArray) :
    (∃ (v : Option Value) (vm₁ : Vm) (B : Pt), s.WarmedH vm₁ ∧ Stand p l e R s m args below meth c B.U B.locs B.cells B.slots ∧ Post ⟨T.setVm vm₁, locs, cells, slots⟩ (Value.ref b :: argsL).toArray v B ∧
      ∀ target, Steps p.tables e below (B.U.setTop { g with pc := g.pc + 3, stack := v.toList ++ rest }) target → Steps p.tables e below (T.setTop g) target) ∨
    (∃ (q : Addr) (vm₁ : Vm) (B : Pt), s.WarmedH vm₁ ∧ Stand p l e R s m args below meth c B.U B.locs B.cells B.slots ∧ PostX ⟨T.setVm vm₁, locs, cells, slots⟩ (Value.ref b :: argsL).toArray q B ∧
      Steps p.tables e below (T.setTop g) ((B.U.setTop { g with stack := rest }).pushFrame (.throwing q))) := by
  obtain ⟨mk, methM, hnamed, hmethM, hstM, habM⟩ := Cond.instanceMethod_spec hinst
  obtain ⟨methM', cM, hmethM', -, -, -, -, -, -, hsigM⟩ := Cond.code_spec hnamed hcode
  cases hmethM.symm.trans hmethM'
  obtain ⟨c2, r2, m2, q1, q2, q3, q4, kP, hkP, hkPi⟩ := Cond.selects_spec hsel
  cases hcls.symm.trans q1
  cases (State.methodFound?_of_named hnamed hy).symm.trans q2
  cases hnamed.symm.trans q3
  have hselP : selectMethod e.platform s.vm cellB.cls mk = .method mk := by rw [Launch.admits_selectMethod X.admits]; exact q4
  obtain ⟨vm₁, X₁, hstep₁⟩ := X.invokevirtual hexec hown hlink hnamed hmethM hstM hkP hkPi hy (a := b) (cell := cellB) hcell
    (fun z h => by rw [h] at hobj; cases hobj) hselP hmethM habM hkP hkPi (g := g) hg (argsL := argsL) (rest := rest) (hlen _ hsigM) hstack hdg
  rcases hK m meth c ⟨T.setVm vm₁, locs, cells, slots⟩ { g with stack := rest } (.invokevirtual index) mk (Value.ref b :: argsL).toArray X₁ hg hsize hdg hW (X₁.named hnamed) (hpre vm₁ X₁.warmed) with ⟨v, B, X', hpost, hsteps⟩ | ⟨q, B, X', hpost, hsteps⟩
  · exact Or.inl ⟨v, vm₁, B, X₁.warmed, X', hpost, fun target h => hstep₁ _ fun acts => by rw [doInvoke_state]; exact hsteps.trans h⟩
  · exact Or.inr ⟨q, vm₁, B, X₁.warmed, X', hpost, hstep₁ _ fun acts => by rw [doInvoke_state]; exact hsteps⟩
theorem vx_callS (X : Stand p l e R s m args below meth c T locs cells slots) (hexec : p.tables.exec = Jvm.exec) {own : String} {index : Nat} {y : MethodName} {bytes : ByteArray} {maxL : Nat} {ret : Option FieldType}
    (hown : s.vm.findClass own = some m.cls) (hlink : (Cond.methodLink own index y).before args s = true) (hstat : (Cond.static y).before args s = true) (hinit : (Cond.initialized y.cls).before args s = true)
    (hcode : (Cond.code y bytes maxL ret).before args s = true) (hy : y.cls ≠ "java/lang/invoke/MethodHandle" ∧ y.cls ≠ "java/lang/invoke/VarHandle")
    {W9 : Nat} {Pre : Pt → Array Value → Prop} {Post : Pt → Array Value → Option Value → Pt → Prop} {PostX : Pt → Array Value → Addr → Pt → Prop} (hK : vx_Back l R p e below s args y 3 W9 Pre Post PostX)
    {g : JFrame} (hg : g.method = m) (hsize : g.locals.size = c.maxLocals) {argsL rest : List Value} (hlen : ∀ sig, parseMethodDescriptor y.desc = some sig → argsL.length = sig.parameters.length)
    (hstack : g.stack = argsL.reverse ++ rest) (hW : 2 * g.monitorRoom + (rest.map fun v => v.category).sum ≤ W9) (hdg : decode c.code g.pc = .ok (.invokestatic index, 3))
    (hpre : ∀ vm₁, s.WarmedH vm₁ → Pre ⟨T.setVm vm₁, locs, cells, slots⟩ argsL.toArray) :
    (∃ (v : Option Value) (vm₁ : Vm) (B : Pt), s.WarmedH vm₁ ∧ Stand p l e R s m args below meth c B.U B.locs B.cells B.slots ∧ Post ⟨T.setVm vm₁, locs, cells, slots⟩ argsL.toArray v B ∧
      ∀ target, Steps p.tables e below (B.U.setTop { g with pc := g.pc + 3, stack := v.toList ++ rest }) target → Steps p.tables e below (T.setTop g) target) ∨
    (∃ (q : Addr) (vm₁ : Vm) (B : Pt), s.WarmedH vm₁ ∧ Stand p l e R s m args below meth c B.U B.locs B.cells B.slots ∧ PostX ⟨T.setVm vm₁, locs, cells, slots⟩ argsL.toArray q B ∧
      Steps p.tables e below (T.setTop g) ((B.U.setTop { g with stack := rest }).pushFrame (.throwing q))) := by
  obtain ⟨mk, hnamed⟩ := Cond.code_named hcode
  obtain ⟨methM, cM, hmethM, -, -, -, -, -, -, hsigM⟩ := Cond.code_spec hnamed hcode
  have hstatic : methM.isStatic = true := Cond.static_spec hnamed hmethM hstat
  obtain ⟨kP, hkP, -⟩ := className_of_methodNamed hnamed
  have hinitP : kP.init = .initialized := Cond.initialized_spec (findClass_of_methodNamed hnamed) hkP hinit
  obtain ⟨vm₁, X₁, hstep₁⟩ := X.invokestatic hexec hown hlink hnamed hmethM hstatic hkP hinitP hy (g := g) hg (argsL := argsL) (rest := rest) (hlen _ hsigM) hstack hdg
  rcases hK m meth c ⟨T.setVm vm₁, locs, cells, slots⟩ { g with stack := rest } (.invokestatic index) mk argsL.toArray X₁ hg hsize hdg hW (X₁.named hnamed) (hpre vm₁ X₁.warmed) with ⟨v, B, X', hpost, hsteps⟩ | ⟨q, B, X', hpost, hsteps⟩
  · exact Or.inl ⟨v, vm₁, B, X₁.warmed, X', hpost, fun target h => hstep₁ _ fun acts => by rw [doInvoke_state]; exact hsteps.trans h⟩
  · exact Or.inr ⟨q, vm₁, B, X₁.warmed, X', hpost, hstep₁ _ fun acts => by rw [doInvoke_state]; exact hsteps⟩
end Calls
theorem vx_cls {s : State} {T : State} {vm₁ : Vm} {E : String} {k : ClassId} (hW : s.WarmedH vm₁) (h : (T.setVm vm₁).vm.findClass E = some k) : s.vm.findClass E = some k := by
  have h1 : vm₁.findClass E = some k := h
  rw [hW.alike.findClass] at h1
  exact h1
def vx_W (p : Program) (l : Launch) (e : Env) (R : Room) (s : State) (m : MethodId) (args : Array Value) (below : List Frame) (meth : Method) (c : Code) (H : Heap) (locs : List Loc) (cells slots : Nat) (Q : State → Prop) (g : JFrame) (q : Addr) : Prop :=
  ∀ T : State, T.heap = H → Stand p l e R s m args below meth c T locs cells slots → ∃ t, Steps p.tables e below ((T.setTop g).pushFrame (.throwing q)) t ∧ Q t
def vx_Run (p : Program) (l : Launch) (e : Env) (R : Room) (s : State) (m : MethodId) (args : Array Value) (below : List Frame) (meth : Method) (c : Code) (H : Heap) (locs : List Loc) (cells slots mc ms : Nat) (g : JFrame) (rest : List Value) (Qa : State → Outcome → State → Prop) (XC : String → State → State → Prop) (free : Addr → Prop) : Prop :=
  ∀ T : State, T.heap = H → Stand p l e R s m args below meth c T locs cells slots →
    (∃ (v : Option Value) (st₀ t T' : State) (L : List Loc), st₀.heap = H ∧ Stand p l e R s m args below meth c T' (locs ++ L) (cells + mc) (slots + ms) ∧ (∀ q ∈ L, free q.base) ∧ T'.heap = t.heap ∧ T'.vm = t.vm ∧ Qa st₀ (.returned v) t ∧
      Goes p e below T g T' { g with pc := g.pc + 3, stack := v.toList ++ rest }) ∨
    (∃ (q : Addr) (st₀ t T' : State) (L : List Loc) (E : String) (ce : Cell), st₀.heap = H ∧ Stand p l e R s m args below meth c T' (locs ++ L) (cells + mc) (slots + ms) ∧ (∀ z ∈ L, free z.base) ∧ T'.heap = t.heap ∧ T'.vm = t.vm ∧ XC E st₀ t ∧ t.heap[q]? = some ce ∧ ce.vm = .none ∧ s.vm.findClass E = some ce.cls ∧
      Steps p.tables e below (T.setTop g) ((T'.setTop { g with stack := rest }).pushFrame (.throwing q)))
def vx_X {S : Type} (px : S → Prop) (B : String → S → State → Prop) (A : Nat → Prop) : String → State → State → Prop := fun E st t => ∃ u : S, px u ∧ B E u t ∧ va_F A st t
section Runs
variable {p : Program} {l : Launch} {e : Env} {R : Room} {s : State} {m : MethodId} {args : Array Value} {below : List Frame} {meth : Method} {c : Code} {H : Heap} {locs : List Loc} {cells slots : Nat}
variable {y : MethodName} {bytes cc : ByteArray} {maxL nL mc ms n index : Nat} {ret : Option FieldType} {ws : List Cond} {rm : Room} {Pc : Array Value → State → Prop} {Qc : Array Value → State → Outcome → State → Prop} {XC : String → State → State → Prop} {free : Addr → Prop} {Ts : List Cond} {own C : String} {b : Addr} {As rest : List Value} {g : JFrame}
theorem vx_callBack (cb : CallB R s args own index y bytes maxL ret ws rm mc ms n) (hM : vx_Met l y ws rm Pc Qc XC mc ms free) (hbl : FrameBlind Pc) : vx_Back l R p e below s args y 3 8 (PreOf R mc ms Pc) (PostOf Qc mc ms free) (vx_Post XC mc ms free) := by
  obtain ⟨hrc, hrs, hfr, hlo, hws, hcw, -, hini, -⟩ := cb
  exact vx_back (bytes := bytes) (maxL := maxL) (ret := ret) hM hbl hrc hrs hfr hlo hws hcw (fun a' U hW => word_at hW (Or.inl (by first | rfl | simp [Cond.onTables, Cond.keeps, Cond.steady])) hini)
theorem vx_runV (S : CallFix p m c cc nL s args Ts own) (hM : vx_Met l y ws rm Pc Qc XC mc ms free) (cw : CallW R s args own C index y bytes maxL ret ws rm mc ms n) (hp : PreV s H C b Pc As)
    (hg : g.method = m) (hn : As.length = n) (hsize : g.locals.size = nL) (hstack : g.stack = As.reverse ++ .ref b :: rest) (hW : 2 * g.monitorRoom + (rest.map fun v => v.category).sum ≤ 8) (hdg : decode cc g.pc = .ok (.invokevirtual index, 3)) (hf : cells + mc ≤ R.cells ∧ slots + ms ≤ R.slots) :
    vx_Run p l e R s m args below meth c H locs cells slots mc ms g rest (Qc (Value.ref b :: As).toArray) XC free := by
  have hK : vx_Back l R p e below s args y 3 8 (PreOf R mc ms Pc) (PostOf Qc mc ms free) (vx_Post XC mc ms free) := vx_callBack cw.1 hM hp.1
  obtain ⟨⟨-, -, -, -, -, -, hcode, -, hy, hlen, hl⟩, hin, hse⟩ := cw
  obtain ⟨hx, hb, hml, ho, -⟩ := S
  obtain ⟨-, ⟨cellB, hcB, hoB, hclB⟩, hPc⟩ := hp
  intro T hT X
  rcases vx_callV X hx (C := C) (bytes := bytes) (maxL := maxL) (ret := ret) ho hl hin hse hcode hy hK (by rw [hT]; exact hcB) hoB hclB hg (hsize.trans hml.symm) (argsL := As) (rest := rest) (fun sig h => hn.trans (hlen sig h)) hstack hW (by rw [hb]; exact hdg)
    (fun vm₁ hW₁ => ⟨hf.1, hf.2, hPc (T.setVm vm₁) hT hW₁⟩) with ⟨v, vm₁, ⟨U', l2, c2, s2⟩, hW₁, X', ⟨g', mk, t, L, e1, e2, hq, h1, hL, h2, h3⟩, st⟩ | ⟨q, vm₁, ⟨U', l2, c2, s2⟩, hW₁, X', ⟨g', mk, t, L, E, ce, e1, e2, hq, hce, hcv, hcl, h1, hL, h2, h3⟩, st⟩
  · dsimp only [Pt.U, Pt.locs, Pt.cells, Pt.slots] at X' e1 e2 h1 h2 h3 st
    subst h1; subst h2; subst h3
    exact Or.inl ⟨v, (T.setVm vm₁).calling g' mk (Value.ref b :: As).toArray, t, U', L, hT, X', hL, e1, e2, hq, st⟩
  · dsimp only [Pt.U, Pt.locs, Pt.cells, Pt.slots] at X' e1 e2 h1 h2 h3 st hcl
    subst h1; subst h2; subst h3
    exact Or.inr ⟨q, (T.setVm vm₁).calling g' mk (Value.ref b :: As).toArray, t, U', L, E, ce, hT, X', hL, e1, e2, hq, hce, hcv, vx_cls hW₁ hcl, st⟩
theorem vx_runS (S : CallFix p m c cc nL s args Ts own) (hM : vx_Met l y ws rm Pc Qc XC mc ms free) (cw : CallB R s args own index y bytes maxL ret ws rm mc ms n ∧ (Cond.static y).before args s = true) (hp : PreS s H Pc As)
    (hg : g.method = m) (hn : As.length = n) (hsize : g.locals.size = nL) (hstack : g.stack = As.reverse ++ rest) (hW : 2 * g.monitorRoom + (rest.map fun v => v.category).sum ≤ 8) (hdg : decode cc g.pc = .ok (.invokestatic index, 3)) (hf : cells + mc ≤ R.cells ∧ slots + ms ≤ R.slots) :
    vx_Run p l e R s m args below meth c H locs cells slots mc ms g rest (Qc As.toArray) XC free := by
  have hK : vx_Back l R p e below s args y 3 8 (PreOf R mc ms Pc) (PostOf Qc mc ms free) (vx_Post XC mc ms free) := vx_callBack cw.1 hM hp.1
  obtain ⟨⟨-, -, -, -, -, -, hcode, hini, hy, hlen, hl⟩, hstt⟩ := cw
  obtain ⟨hx, hb, hml, ho, -⟩ := S
  intro T hT X
  rcases vx_callS X hx (bytes := bytes) (maxL := maxL) (ret := ret) ho hl hstt hini hcode hy hK hg (hsize.trans hml.symm) (argsL := As) (rest := rest) (fun sig h => hn.trans (hlen sig h)) hstack hW (by rw [hb]; exact hdg)
    (fun vm₁ hW₁ => ⟨hf.1, hf.2, hp.2 (T.setVm vm₁) hT hW₁⟩) with ⟨v, vm₁, ⟨U', l2, c2, s2⟩, hW₁, X', ⟨g', mk, t, L, e1, e2, hq, h1, hL, h2, h3⟩, st⟩ | ⟨q, vm₁, ⟨U', l2, c2, s2⟩, hW₁, X', ⟨g', mk, t, L, E, ce, e1, e2, hq, hce, hcv, hcl, h1, hL, h2, h3⟩, st⟩
  · dsimp only [Pt.U, Pt.locs, Pt.cells, Pt.slots] at X' e1 e2 h1 h2 h3 st
    subst h1; subst h2; subst h3
    exact Or.inl ⟨v, (T.setVm vm₁).calling g' mk As.toArray, t, U', L, hT, X', hL, e1, e2, hq, st⟩
  · dsimp only [Pt.U, Pt.locs, Pt.cells, Pt.slots] at X' e1 e2 h1 h2 h3 st hcl
    subst h1; subst h2; subst h3
    exact Or.inr ⟨q, (T.setVm vm₁).calling g' mk As.toArray, t, U', L, E, ce, hT, X', hL, e1, e2, hq, hce, hcv, vx_cls hW₁ hcl, st⟩
end Runs
section Rows
variable {p : Program} {l : Launch} {e : Env} {R : Room} {s : State} {m : MethodId} {args : Array Value} {below : List Frame} {meth : Method} {c : Code} {H : Heap} {locs : List Loc} {cells slots : Nat} {Q : State → Prop}
variable {mc ms : Nat} {free : Addr → Prop} {A0 A1 : Nat → Prop} {H0 : Heap} {a : Array Value} {pc : Nat} {ls : Array Slot} {st0 rest : List Value}
theorem vx_keep {st₀ t T' : State} {L : List Loc} (h0 : st₀.heap = H) (e1 : T'.heap = t.heap) (hS : va_S A0 H0 H locs) (hA : ∀ q, q < H.size → A1 q → A0 q) (hf : ∀ q, free q → A0 q) (hL : ∀ q ∈ L, free q.base) (hF : va_F A1 st₀ t) :
    H.size ≤ T'.heap.size ∧ (∀ q : Nat, q < H.size → ¬ A1 q → T'.heap[q]? = H[q]?) ∧ va_S A0 H0 T'.heap (locs ++ L) := by
  obtain ⟨hz, hk⟩ := hF
  rw [h0] at hz hk
  exact ⟨by rw [e1]; exact hz, fun q h1 h2 => by rw [e1]; exact hk q h1 h2,
    ⟨Nat.le_trans hS.1 (by rw [e1]; exact hz), fun q h1 h2 => by rw [e1, hk q (Nat.lt_of_lt_of_le h1 hS.1) (fun z => h2 (hA q (Nat.lt_of_lt_of_le h1 hS.1) z))]; exact hS.2.1 q h1 h2, fun q hq => by
      rcases List.mem_append.mp hq with h | h
      · exact hS.2.2 q h
      · exact hf _ (hL q h)⟩⟩
theorem vx_calli {S SX : Type} {post : Int32 → S → Prop} {px : SX → Prop} {B : S → State → Prop} {BX : String → SX → State → Prop} {AX : Nat → Prop} (hr : vx_Run p l e R s m args below meth c H locs cells slots mc ms (F0 m pc ls st0) rest (va_Qi post B A1 a) (vx_X px BX AX) free) (hS : va_S A0 H0 H locs) (hA : ∀ q, q < H.size → A1 q → A0 q) (hf : ∀ q, free q → A0 q) (hAX : ∀ q, q < H.size → AX q → A0 q)
    (kx : ∀ (E : String) (ce : Cell) (q9 : Addr) (u : SX) (t : State) (H1 : Heap) (locs1 : List Loc), t.heap = H1 → s.vm.Alike t.vm → px u → BX E u t → H.size ≤ H1.size → (∀ q : Nat, q < H.size → ¬ AX q → H1[q]? = H[q]?) → va_S A0 H0 H1 locs1 → H1[q9]? = some ce → ce.vm = .none → s.vm.findClass E = some ce.cls → vx_W p l e R s m args below meth c H1 locs1 (cells + mc) (slots + ms) Q (F0 m pc ls rest) q9)
    (kk : ∀ (r : Int32) (u : S) (t : State) (H1 : Heap) (locs1 : List Loc), t.heap = H1 → s.vm.Alike t.vm → post r u → B u t → H.size ≤ H1.size → (∀ q : Nat, q < H.size → ¬ A1 q → H1[q]? = H[q]?) → va_S A0 H0 H1 locs1 → W p l e R s m args below meth c H1 locs1 (cells + mc) (slots + ms) Q (F0 m (pc + 3) ls (.int r :: rest))) : W p l e R s m args below meth c H locs cells slots Q (F0 m pc ls st0) := by
  intro T hT X
  rcases hr T hT X with ⟨v, st₀, t, T', L, h0, X', hL, e1, e2, ⟨⟨r, u, hv, hp, hb⟩, hF⟩, st⟩ | ⟨q, st₀, t, T', L, E, ce, h0, X', hL, e1, e2, ⟨u, hp, hb, hF⟩, hce, hcv, hcl, st⟩
  · cases hv
    obtain ⟨k1, k2, k3⟩ := vx_keep h0 e1 hS hA hf hL hF
    obtain ⟨t2, a1, b1⟩ := kk r u t T'.heap (locs ++ L) e1.symm (by rw [← e2]; exact X'.warmed.alike) hp hb k1 k2 k3 T' rfl X'
    exact ⟨t2, st t2 a1, b1⟩
  · obtain ⟨k1, k2, k3⟩ := vx_keep h0 e1 hS hAX hf hL hF
    obtain ⟨t2, a1, b1⟩ := kx E ce q u t T'.heap (locs ++ L) e1.symm (by rw [← e2]; exact X'.warmed.alike) hp hb k1 k2 k3 (by rw [e1]; exact hce) hcv hcl T' rfl X'
    exact ⟨t2, st.trans a1, b1⟩
theorem vx_calll {S SX : Type} {post : Int64 → S → Prop} {px : SX → Prop} {B : S → State → Prop} {BX : String → SX → State → Prop} {AX : Nat → Prop} (hr : vx_Run p l e R s m args below meth c H locs cells slots mc ms (F0 m pc ls st0) rest (va_Ql post B A1 a) (vx_X px BX AX) free) (hS : va_S A0 H0 H locs) (hA : ∀ q, q < H.size → A1 q → A0 q) (hf : ∀ q, free q → A0 q) (hAX : ∀ q, q < H.size → AX q → A0 q)
    (kx : ∀ (E : String) (ce : Cell) (q9 : Addr) (u : SX) (t : State) (H1 : Heap) (locs1 : List Loc), t.heap = H1 → s.vm.Alike t.vm → px u → BX E u t → H.size ≤ H1.size → (∀ q : Nat, q < H.size → ¬ AX q → H1[q]? = H[q]?) → va_S A0 H0 H1 locs1 → H1[q9]? = some ce → ce.vm = .none → s.vm.findClass E = some ce.cls → vx_W p l e R s m args below meth c H1 locs1 (cells + mc) (slots + ms) Q (F0 m pc ls rest) q9)
    (kk : ∀ (r : Int64) (u : S) (t : State) (H1 : Heap) (locs1 : List Loc), t.heap = H1 → s.vm.Alike t.vm → post r u → B u t → H.size ≤ H1.size → (∀ q : Nat, q < H.size → ¬ A1 q → H1[q]? = H[q]?) → va_S A0 H0 H1 locs1 → W p l e R s m args below meth c H1 locs1 (cells + mc) (slots + ms) Q (F0 m (pc + 3) ls (.long r :: rest))) : W p l e R s m args below meth c H locs cells slots Q (F0 m pc ls st0) := by
  intro T hT X
  rcases hr T hT X with ⟨v, st₀, t, T', L, h0, X', hL, e1, e2, ⟨⟨r, u, hv, hp, hb⟩, hF⟩, st⟩ | ⟨q, st₀, t, T', L, E, ce, h0, X', hL, e1, e2, ⟨u, hp, hb, hF⟩, hce, hcv, hcl, st⟩
  · cases hv
    obtain ⟨k1, k2, k3⟩ := vx_keep h0 e1 hS hA hf hL hF
    obtain ⟨t2, a1, b1⟩ := kk r u t T'.heap (locs ++ L) e1.symm (by rw [← e2]; exact X'.warmed.alike) hp hb k1 k2 k3 T' rfl X'
    exact ⟨t2, st t2 a1, b1⟩
  · obtain ⟨k1, k2, k3⟩ := vx_keep h0 e1 hS hAX hf hL hF
    obtain ⟨t2, a1, b1⟩ := kx E ce q u t T'.heap (locs ++ L) e1.symm (by rw [← e2]; exact X'.warmed.alike) hp hb k1 k2 k3 (by rw [e1]; exact hce) hcv hcl T' rfl X'
    exact ⟨t2, st.trans a1, b1⟩
theorem vx_callf {S SX : Type} {post : UInt32 → S → Prop} {px : SX → Prop} {B : S → State → Prop} {BX : String → SX → State → Prop} {AX : Nat → Prop} (hr : vx_Run p l e R s m args below meth c H locs cells slots mc ms (F0 m pc ls st0) rest (va_Qf post B A1 a) (vx_X px BX AX) free) (hS : va_S A0 H0 H locs) (hA : ∀ q, q < H.size → A1 q → A0 q) (hf : ∀ q, free q → A0 q) (hAX : ∀ q, q < H.size → AX q → A0 q)
    (kx : ∀ (E : String) (ce : Cell) (q9 : Addr) (u : SX) (t : State) (H1 : Heap) (locs1 : List Loc), t.heap = H1 → s.vm.Alike t.vm → px u → BX E u t → H.size ≤ H1.size → (∀ q : Nat, q < H.size → ¬ AX q → H1[q]? = H[q]?) → va_S A0 H0 H1 locs1 → H1[q9]? = some ce → ce.vm = .none → s.vm.findClass E = some ce.cls → vx_W p l e R s m args below meth c H1 locs1 (cells + mc) (slots + ms) Q (F0 m pc ls rest) q9)
    (kk : ∀ (r : UInt32) (u : S) (t : State) (H1 : Heap) (locs1 : List Loc), t.heap = H1 → s.vm.Alike t.vm → post r u → B u t → H.size ≤ H1.size → (∀ q : Nat, q < H.size → ¬ A1 q → H1[q]? = H[q]?) → va_S A0 H0 H1 locs1 → W p l e R s m args below meth c H1 locs1 (cells + mc) (slots + ms) Q (F0 m (pc + 3) ls (.float r :: rest))) : W p l e R s m args below meth c H locs cells slots Q (F0 m pc ls st0) := by
  intro T hT X
  rcases hr T hT X with ⟨v, st₀, t, T', L, h0, X', hL, e1, e2, ⟨⟨r, u, hv, hp, hb⟩, hF⟩, st⟩ | ⟨q, st₀, t, T', L, E, ce, h0, X', hL, e1, e2, ⟨u, hp, hb, hF⟩, hce, hcv, hcl, st⟩
  · cases hv
    obtain ⟨k1, k2, k3⟩ := vx_keep h0 e1 hS hA hf hL hF
    obtain ⟨t2, a1, b1⟩ := kk r u t T'.heap (locs ++ L) e1.symm (by rw [← e2]; exact X'.warmed.alike) hp hb k1 k2 k3 T' rfl X'
    exact ⟨t2, st t2 a1, b1⟩
  · obtain ⟨k1, k2, k3⟩ := vx_keep h0 e1 hS hAX hf hL hF
    obtain ⟨t2, a1, b1⟩ := kx E ce q u t T'.heap (locs ++ L) e1.symm (by rw [← e2]; exact X'.warmed.alike) hp hb k1 k2 k3 (by rw [e1]; exact hce) hcv hcl T' rfl X'
    exact ⟨t2, st.trans a1, b1⟩
theorem vx_calld {S SX : Type} {post : UInt64 → S → Prop} {px : SX → Prop} {B : S → State → Prop} {BX : String → SX → State → Prop} {AX : Nat → Prop} (hr : vx_Run p l e R s m args below meth c H locs cells slots mc ms (F0 m pc ls st0) rest (va_Qd post B A1 a) (vx_X px BX AX) free) (hS : va_S A0 H0 H locs) (hA : ∀ q, q < H.size → A1 q → A0 q) (hf : ∀ q, free q → A0 q) (hAX : ∀ q, q < H.size → AX q → A0 q)
    (kx : ∀ (E : String) (ce : Cell) (q9 : Addr) (u : SX) (t : State) (H1 : Heap) (locs1 : List Loc), t.heap = H1 → s.vm.Alike t.vm → px u → BX E u t → H.size ≤ H1.size → (∀ q : Nat, q < H.size → ¬ AX q → H1[q]? = H[q]?) → va_S A0 H0 H1 locs1 → H1[q9]? = some ce → ce.vm = .none → s.vm.findClass E = some ce.cls → vx_W p l e R s m args below meth c H1 locs1 (cells + mc) (slots + ms) Q (F0 m pc ls rest) q9)
    (kk : ∀ (r : UInt64) (u : S) (t : State) (H1 : Heap) (locs1 : List Loc), t.heap = H1 → s.vm.Alike t.vm → post r u → B u t → H.size ≤ H1.size → (∀ q : Nat, q < H.size → ¬ A1 q → H1[q]? = H[q]?) → va_S A0 H0 H1 locs1 → W p l e R s m args below meth c H1 locs1 (cells + mc) (slots + ms) Q (F0 m (pc + 3) ls (.double r :: rest))) : W p l e R s m args below meth c H locs cells slots Q (F0 m pc ls st0) := by
  intro T hT X
  rcases hr T hT X with ⟨v, st₀, t, T', L, h0, X', hL, e1, e2, ⟨⟨r, u, hv, hp, hb⟩, hF⟩, st⟩ | ⟨q, st₀, t, T', L, E, ce, h0, X', hL, e1, e2, ⟨u, hp, hb, hF⟩, hce, hcv, hcl, st⟩
  · cases hv
    obtain ⟨k1, k2, k3⟩ := vx_keep h0 e1 hS hA hf hL hF
    obtain ⟨t2, a1, b1⟩ := kk r u t T'.heap (locs ++ L) e1.symm (by rw [← e2]; exact X'.warmed.alike) hp hb k1 k2 k3 T' rfl X'
    exact ⟨t2, st t2 a1, b1⟩
  · obtain ⟨k1, k2, k3⟩ := vx_keep h0 e1 hS hAX hf hL hF
    obtain ⟨t2, a1, b1⟩ := kx E ce q u t T'.heap (locs ++ L) e1.symm (by rw [← e2]; exact X'.warmed.alike) hp hb k1 k2 k3 (by rw [e1]; exact hce) hcv hcl T' rfl X'
    exact ⟨t2, st.trans a1, b1⟩
theorem vx_callv {S SX : Type} {post : S → Prop} {px : SX → Prop} {B : S → State → Prop} {BX : String → SX → State → Prop} {AX : Nat → Prop} (hr : vx_Run p l e R s m args below meth c H locs cells slots mc ms (F0 m pc ls st0) rest (va_Qv post B A1 a) (vx_X px BX AX) free) (hS : va_S A0 H0 H locs) (hA : ∀ q, q < H.size → A1 q → A0 q) (hf : ∀ q, free q → A0 q) (hAX : ∀ q, q < H.size → AX q → A0 q)
    (kx : ∀ (E : String) (ce : Cell) (q9 : Addr) (u : SX) (t : State) (H1 : Heap) (locs1 : List Loc), t.heap = H1 → s.vm.Alike t.vm → px u → BX E u t → H.size ≤ H1.size → (∀ q : Nat, q < H.size → ¬ AX q → H1[q]? = H[q]?) → va_S A0 H0 H1 locs1 → H1[q9]? = some ce → ce.vm = .none → s.vm.findClass E = some ce.cls → vx_W p l e R s m args below meth c H1 locs1 (cells + mc) (slots + ms) Q (F0 m pc ls rest) q9)
    (kk : ∀ (u : S) (t : State) (H1 : Heap) (locs1 : List Loc), t.heap = H1 → s.vm.Alike t.vm → post u → B u t → H.size ≤ H1.size → (∀ q : Nat, q < H.size → ¬ A1 q → H1[q]? = H[q]?) → va_S A0 H0 H1 locs1 → W p l e R s m args below meth c H1 locs1 (cells + mc) (slots + ms) Q (F0 m (pc + 3) ls (rest))) : W p l e R s m args below meth c H locs cells slots Q (F0 m pc ls st0) := by
  intro T hT X
  rcases hr T hT X with ⟨v, st₀, t, T', L, h0, X', hL, e1, e2, ⟨⟨u, hv, hp, hb⟩, hF⟩, st⟩ | ⟨q, st₀, t, T', L, E, ce, h0, X', hL, e1, e2, ⟨u, hp, hb, hF⟩, hce, hcv, hcl, st⟩
  · cases hv
    obtain ⟨k1, k2, k3⟩ := vx_keep h0 e1 hS hA hf hL hF
    obtain ⟨t2, a1, b1⟩ := kk u t T'.heap (locs ++ L) e1.symm (by rw [← e2]; exact X'.warmed.alike) hp hb k1 k2 k3 T' rfl X'
    exact ⟨t2, st t2 a1, b1⟩
  · obtain ⟨k1, k2, k3⟩ := vx_keep h0 e1 hS hAX hf hL hF
    obtain ⟨t2, a1, b1⟩ := kx E ce q u t T'.heap (locs ++ L) e1.symm (by rw [← e2]; exact X'.warmed.alike) hp hb k1 k2 k3 (by rw [e1]; exact hce) hcv hcl T' rfl X'
    exact ⟨t2, st.trans a1, b1⟩
theorem vx_catch {own name : String} {E : String} {ce : Cell} {q : Addr} (hown : s.vm.findClass own = some m.cls) (pre : List ExceptionTableEntry) (x : ExceptionTableEntry) (suf : List ExceptionTableEntry) (hsplit : c.exceptionTable.toList = pre ++ x :: suf)
    (hpass : ∀ z ∈ pre, covers z pc = false ∨ (z.catchType ≠ 0 ∧ ∃ nm : String, (Cond.classLink own z.catchType nm).before args s = true ∧ va_Nc E nm s)) (hx : covers x pc = true) (h0 : x.catchType ≠ 0)
    (hlink : (Cond.classLink own x.catchType name).before args s = true) (hcast : (Cond.castable E name).before args s = true) (hcell : H[q]? = some ce) (hv : ce.vm = .none) (hcl : s.vm.findClass E = some ce.cls)
    (kk : W p l e R s m args below meth c H locs cells slots Q (F0 m x.handlerPc ls [.ref q])) : vx_W p l e R s m args below meth c H locs cells slots Q (F0 m pc ls rest) q := by
  intro T hT X
  have hpl : e.platform.magicAccessors = ({} : Platform).magicAccessors := by rw [X.admits.platform]
  obtain ⟨c3, c4, hc3, hc4, hasg⟩ := Cond.castable_spec hcast
  cases Option.some.inj (hc3.symm.trans hcl)
  obtain ⟨c5, hc5, hcl5⟩ := Cond.classLink_spec hown hlink e.platform hpl
  cases Option.some.inj (hc4.symm.trans hc5)
  obtain ⟨vm', X', st⟩ := X.thenCaughtThrough q (g := F0 m pc ls rest) rfl (Steps.refl _) (by rw [hT]; exact hcell) (by rw [hv]; rfl) (by obtain ⟨k9, h9, -⟩ := Vm.findClass_spec hcl; exact ⟨k9, h9⟩) pre x suf hsplit
    (fun z hz => by
      rcases hpass z hz with h | ⟨hz0, nm, hl1, hn1⟩
      · exact Or.inl h
      · obtain ⟨c6, hc6, hcl6⟩ := Cond.classLink_spec hown hl1 e.platform hpl
        obtain ⟨a8, b8, h1, h2, h3⟩ := hn1
        cases Option.some.inj (h1.symm.trans hcl)
        cases Option.some.inj (h2.symm.trans hc6)
        exact Or.inr ⟨hz0, _, hcl6, h3⟩) hx (Or.inr ⟨h0, c4, hcl5, hasg⟩)
  obtain ⟨t, a1, b1⟩ := kk (T.setVm vm') hT X'
  exact ⟨t, st.trans a1, b1⟩
end Rows
section Ends
variable {p : Program} {l : Launch} {e : Env} {R : Room} {s : State} {m : MethodId} {args : Array Value} {below : List Frame} {meth : Method} {c : Code} {H : Heap} {locs : List Loc} {cells slots : Nat} {Q : State → Prop}
variable {mc ms : Nat} {free : Addr → Prop} {A0 A1 : Nat → Prop} {H0 : Heap} {a : Array Value} {ls : Array Slot} {st0 rest : List Value}
variable {Qc : Array Value → State → Outcome → State → Prop} {XC : String → State → State → Prop}
def vx_MQ (below : List Frame) (Qc : Array Value → State → Outcome → State → Prop) (XC : String → State → State → Prop) (a : Array Value) (s : State) (mc ms : Nat) (free : Addr → Prop) : State → Prop := fun t =>
  ∃ o, t.status = .running ∧ Ended t below o ∧ vx_Q Qc XC mc ms free a s o t
theorem vx_ret {g : JFrame} {mc ms : Nat} (k : W p l e R s m args below meth c H locs cells slots (MQ below Qc args s mc ms free) g) : W p l e R s m args below meth c H locs cells slots (vx_MQ below Qc XC args s mc ms free) g := by
  intro T hT X
  obtain ⟨t, a1, o, b1, b2, b3, b4⟩ := k T hT X
  exact ⟨t, a1, o, b1, b2, Or.inl ⟨b3, b4⟩⟩
theorem vx_widen {g : JFrame} {q : Addr} {k n : Nat} (h1 : cells ≤ k) (h2 : slots ≤ n) (kk : vx_W p l e R s m args below meth c H locs k n Q g q) : vx_W p l e R s m args below meth c H locs cells slots Q g q := fun T hT X => kk T hT (stand_widen X h1 h2)
theorem vx_out {pc : Nat} {E : String} {ce : Cell} {q : Addr} {mc ms : Nat} (hout : ∀ x ∈ c.exceptionTable.toList, covers x pc = false) (hlocks : meth.locks = false) (hcell : H[q]? = some ce) (hv : ce.vm = .none) (hcl : s.vm.findClass E = some ce.cls)
    (hx : ∀ t : State, t.heap = H → s.vm.Alike t.vm → XC E s t) (hf : ∀ z ∈ locs, free z.base) (hc : cells ≤ mc) (hs : slots ≤ ms) :
    vx_W p l e R s m args below meth c H locs cells slots (vx_MQ below Qc XC args s mc ms free) (F0 m pc ls rest) q := by
  intro T hT X
  obtain ⟨st1, hrun, hend, hW, hsm⟩ := X.leaveThrown q (g := F0 m pc ls rest) rfl rfl rfl hout hlocks
  have hcell9 : (T.setFrames (.throwing q :: below)).heap[q]? = some ce := by
    show T.heap[q]? = some ce
    rw [hT]; exact hcell
  exact ⟨_, st1, .threw q, hrun, hend, Or.inr ⟨q, rfl, E, ce, locs, hx _ hT hW.alike, hcell9, hv, hcl, hW, hsm.mono hc hs, hf⟩⟩
theorem vx_frame {U : State} {k n : Nat} (h : s.sameButNew ({ U with vm := s.vm } : State) locs k n) : s.heap.size ≤ U.heap.size ∧ ∀ q : Nat, q < s.heap.size → (∀ z ∈ locs, z.base ≠ q) → U.heap[q]? = s.heap[q]? := by
  obtain ⟨-, h2, -, -, -, h6⟩ := h
  refine ⟨h2, fun q hq hz => ?_⟩
  obtain ⟨c9, e1, e2, e3, e4⟩ := h6 q _ (Array.getElem?_eq_getElem hq)
  have hs : c9.slots = (s.heap[q]).slots := Array.ext_getElem? fun i => e4 i fun hm => hz _ hm rfl
  have h9 : c9 = s.heap[q] := by
    rw [hs] at e2
    exact e2
  have e5 : U.heap[q]? = some c9 := e1
  rw [e5, h9, Array.getElem?_eq_getElem hq]
def vx_no (w : Cond) : Bool := decide (w ≠ .isRef (.static Bundle.tN "UNASSIGNED_STACK" Bundle.steD)) && decide (w ≠ .isRef (.static Bundle.tN "SUPPRESSED_SENTINEL" Bundle.listD)) && decide (w ≠ .laysStatic Bundle.tN "UNASSIGNED_STACK" Bundle.steD) && decide (w ≠ .laysStatic Bundle.tN "SUPPRESSED_SENTINEL" Bundle.listD)
def vx_at0 (own : String) (ic : Nat) (X : String) (names : List String) : List Cond := (Bundle.ownAtoms0 own ic X names).filter vx_no
def vx_atS (own : String) (ic : Nat) (X : String) (names : List String) : List Cond := (Bundle.ownAtoms own ic X names).filter vx_no
def vx_ot (w : Cond) : Bool := w.onTables || goodWord w
theorem vx_ot_at {args a' : Array Value} {s U : State} {w : Cond} (hW : s.WarmedH U.vm) (hvm : s.vm = U.vm) (hg : vx_ot w = true) (h : w.before args s = true) : w.before a' U = true := by
  simp only [vx_ot, Bool.or_eq_true] at hg
  rcases hg with hg | hg
  · exact va_tabs hg hvm h
  · exact word_at hW (good_of_word hg) h
theorem vx_hat {args : Array Value} {s : State} {L B : List Cond} (h1 : ∀ w ∈ L.filter goodWord, w.before args s = true) (h2 : ∀ w ∈ L.filter (fun w => !goodWord w), w ∈ B) (h3 : ∀ w ∈ B, w.before args s = true) : ∀ w ∈ L, w.before args s = true := by
  intro w hw
  by_cases g : goodWord w = true
  · exact h1 w (List.mem_filter.mpr ⟨hw, g⟩)
  · refine h3 w (h2 w (List.mem_filter.mpr ⟨hw, ?_⟩))
    show (!goodWord w) = true
    cases hgw : goodWord w
    · rfl
    · exact absurd hgw g
theorem vx_c {args : Array Value} {s : State} {w : Cond} {B : List Cond} (h : w.before args s = true) (t : ∀ w ∈ B, w.before args s = true) : ∀ w' ∈ w :: B, w'.before args s = true := fun w' h' => (List.mem_cons.mp h').elim (fun e => by rw [e]; exact h) (t w')
theorem vx_n {args : Array Value} {s : State} : ∀ w ∈ ([] : List Cond), w.before args s = true := fun _ h => nomatch h
theorem vx_own {args : Array Value} {s : State} {L : List Cond} (h1 : ∀ w ∈ L.filter vx_no, w.before args s = true)
    (hU : (Cond.isRef (.static Bundle.tN "UNASSIGNED_STACK" Bundle.steD)).before args s = true) (hN : (Cond.isRef (.static Bundle.tN "SUPPRESSED_SENTINEL" Bundle.listD)).before args s = true)
    (lU : (Cond.laysStatic Bundle.tN "UNASSIGNED_STACK" Bundle.steD).before args s = true) (lN : (Cond.laysStatic Bundle.tN "SUPPRESSED_SENTINEL" Bundle.listD).before args s = true) : ∀ w ∈ L, w.before args s = true := by
  intro w hw
  by_cases e1 : w = .isRef (.static Bundle.tN "UNASSIGNED_STACK" Bundle.steD)
  · rw [e1]; exact hU
  · by_cases e2 : w = .isRef (.static Bundle.tN "SUPPRESSED_SENTINEL" Bundle.listD)
    · rw [e2]; exact hN
    · by_cases e3 : w = .laysStatic Bundle.tN "UNASSIGNED_STACK" Bundle.steD
      · rw [e3]; exact lU
      · by_cases e4 : w = .laysStatic Bundle.tN "SUPPRESSED_SENTINEL" Bundle.listD
        · rw [e4]; exact lN
        · exact h1 w (List.mem_filter.mpr ⟨hw, by unfold vx_no; rw [decide_eq_true e1, decide_eq_true e2, decide_eq_true e3, decide_eq_true e4]; rfl⟩)
def vx_L (C n d : String) (A : Nat → Prop) (U : State) (H : Heap) : Prop := ∃ (c : ClassId) (k : Class) (i : Nat) (f : Field) (a : Nat) (cell : Cell), U.vm.findClass C = some c ∧ U.fieldFound? C n d = some (c, k, i, f) ∧ f.isStatic = true ∧ k.statics = some a ∧ H[a]? = some cell ∧ cell.vm.isStatics = true ∧ cell.cls = c ∧ f.slot < cell.slots.size ∧ k.staticTypes[f.slot]? = some f.type ∧ ¬ A a
theorem vx_L.moved {C n d : String} {A : Nat → Prop} {u U : State} {H : Heap} (hvm : u.vm.Alike U.vm) (h : vx_L C n d A u H) : vx_L C n d A U H := by
  obtain ⟨c, k, i, f, a, cell, h1, h2, h3, h4, h5, h6, h7, h8, h9, h10⟩ := h
  obtain ⟨k', hi', he⟩ := State.fieldFound?_setVm hvm h2
  exact ⟨c, k', i, f, a, cell, by rw [hvm.findClass]; exact h1, hi', h3, by rw [he]; exact h4, h5, h6, h7, h8, by rw [he]; exact h9, h10⟩
theorem vx_L.kept {C n d : String} {A : Nat → Prop} {U : State} {H H1 : Heap} (h : vx_L C n d A U H) (hq : ∀ a : Nat, a < H.size → ¬ A a → H1[a]? = H[a]?) : vx_L C n d A U H1 := by
  obtain ⟨c, k, i, f, a, cell, h1, h2, h3, h4, h5, h6, h7, h8, h9, h10⟩ := h
  exact ⟨c, k, i, f, a, cell, h1, h2, h3, h4, by rw [hq a (Array.getElem?_eq_some_iff.mp h5).1 h10]; exact h5, h6, h7, h8, h9, h10⟩
theorem vx_L.narrow {C n d : String} {A B : Nat → Prop} {U : State} {H : Heap} (h : vx_L C n d A U H) (hAB : ∀ q, B q → A q) : vx_L C n d B U H := by
  obtain ⟨c, k, i, f, a, cell, h1, h2, h3, h4, h5, h6, h7, h8, h9, h10⟩ := h
  exact ⟨c, k, i, f, a, cell, h1, h2, h3, h4, h5, h6, h7, h8, h9, fun z => h10 (hAB _ z)⟩
theorem vx_L.word {C n d : String} {A : Nat → Prop} {s : State} {args : Array Value} (h : vx_L C n d A s s.heap) : (Cond.laysStatic C n d).before args s = true := by
  obtain ⟨c, k, i, f, a, cell, h1, h2, h3, h4, h5, h6, h7, h8, h9, -⟩ := h
  show (Cond.laysStatic C n d).holds args s none s [] = true
  exact Cond.laysStatic_of h1 h2 h3 h4 h5 h6 h7 h8 h9
def vx_Zq (C n d : String) (A : Nat → Prop) (U : State) (H : Heap) : Prop := va_Zq C n d A U H ∧ vx_L C n d A U H
theorem vx_Zq.moved {C n d : String} {A : Nat → Prop} {u U : State} {H : Heap} (hvm : u.vm.Alike U.vm) (h : vx_Zq C n d A u H) : vx_Zq C n d A U H := ⟨va_Zq.moved hvm h.1, vx_L.moved hvm h.2⟩
theorem vx_Zq.kept {C n d : String} {A : Nat → Prop} {U : State} {H H1 : Heap} (h : vx_Zq C n d A U H) (hq : ∀ a : Nat, a < H.size → ¬ A a → H1[a]? = H[a]?) : vx_Zq C n d A U H1 := ⟨va_Zq.kept h.1 hq, vx_L.kept h.2 hq⟩
theorem vx_Zq.narrow {C n d : String} {A B : Nat → Prop} {U : State} {H : Heap} (h : vx_Zq C n d A U H) (hAB : ∀ q, B q → A q) : vx_Zq C n d B U H := ⟨va_Zq.narrow h.1 hAB, vx_L.narrow h.2 hAB⟩
theorem vx_Zqof {args : Array Value} {s : State} {C n d : String} {A : Nat → Prop} (hl : (Cond.laysStatic C n d).before args s = true) (hini : (Cond.initialized C).before args s = true) (h : (Cond.isRef (.static C n d)).before args s = true) (hA : ∀ a : Nat, a < s.heap.size → ¬ A a) : vx_Zq C n d A s s.heap := by
  refine ⟨va_Zqof hl hini h hA, ?_⟩
  obtain ⟨c, k, i, f, a, cell, h1, h2, h3, h4, h5, h6, h7, h8, h9⟩ := Cond.laysStatic_spec hl
  exact ⟨c, k, i, f, a, cell, h1, h2, h3, h4, h5, h6, h7, h8, h9, hA a (Array.getElem?_eq_some_iff.mp h5).1⟩
theorem vx_isRef {C n d : String} {v : Value} {A : Nat → Prop} {s : State} {args : Array Value} (h : va_Z C n d v A s s.heap) (hv : v.isRef = true) : (Cond.isRef (.static C n d)).before args s = true := by
  obtain ⟨cf, kf, fi, f, a, cell, h1, h2, h3, h4, h5, h6, h7, -⟩ := h
  have he : (Term.static C n d).eval args s none [] s = some v := by
    simp [Term.eval, State.fieldNamed?, h1, h2, h4, h5, h6, h7]
  simp only [Cond.before, Cond.holds, Cond.value, he]
  cases v <;> simp_all [Value.isRef]
theorem vx_isRefq {C n d : String} {A : Nat → Prop} {s : State} {args : Array Value} (h : va_Zq C n d A s s.heap) : (Cond.isRef (.static C n d)).before args s = true := by
  rcases h with h | ⟨t, h⟩
  · exact vx_isRef h rfl
  · exact vx_isRef h rfl
theorem vx_rebase {T : State} (X : Stand p l e R s m args below meth c T locs cells slots) {R' : Room} (hf : R'.frames ≤ R.frames) (hl : R'.locals ≤ R.locals) (hc : cells + R'.cells ≤ R.cells) (hs : slots + R'.slots ≤ R.slots) :
    Stand p l e R' ((T.setVm s.vm).setFrames (.invoking m args :: below)) m args below meth c T [] 0 0 := by
  have htop : (T.setVm s.vm).topJava?.isSome := X.here.top
  have hF : ((T.setVm s.vm).setFrames (.invoking m args :: below)).frames = .invoking m args :: below := State.frames_setFrames _ (State.cur_lt_of_top htop)
  obtain ⟨g₀, hg0⟩ := Option.isSome_iff_exists.mp htop
  obtain ⟨r, hr⟩ := State.topJava?_eq_some.mp hg0
  have hl9 : e.platform.stackLimits (T.setVm s.vm).me = e.platform.stackLimits s.me := X.limits
  have hb9 : (T.setVm s.vm).me.stackBytes = s.me.stackBytes := X.bytes
  refine ⟨X.admits, X.cas, X.clock, hF, ?_, X.hears, X.method, X.code, X.here, X.tail, X.warmed, ?_, ?_, ?_⟩
  · have h := X.room
    have hU : ((T.setVm s.vm).setFrames (.invoking m args :: below)).localsInUse = s.localsInUse := by
      rw [State.localsInUse_invoking hF (meth := meth) (c := c) X.method X.code, State.localsInUse_invoking X.frames X.method X.code]
    simp only [State.hasRoom, Bool.and_eq_true, decide_eq_true_eq] at h ⊢
    obtain ⟨⟨⟨⟨h1, h2, h3, h4, h5, h6⟩, h7⟩, h8⟩, h9⟩ := h
    rw [X.frames, List.length_cons] at h2 h3
    have q1 := X.heapSize
    have q2 := X.used
    simp only [hF, hU, List.length_cons, State.stackLimits_setFrames, State.stackBytes_setFrames, hl9, hb9]
    refine ⟨⟨⟨⟨by omega, by omega, by omega, by omega, by omega, h6⟩, ?_⟩, ?_⟩, X.book⟩
    · show T.heap.size + R'.cells ≤ e.platform.maxCells
      omega
    · show T.slotsUsed + R'.slots ≤ e.platform.maxSlots
      omega
  · rw [State.stackLimits_setFrames]; rfl
  · rw [State.stackBytes_setFrames]; rfl
  · refine ⟨?_, Nat.le_refl _, Nat.le_refl _, ?_, ?_, fun a c9 h9 => ⟨c9, h9, rfl, rfl, fun _ _ => rfl⟩⟩
    · obtain ⟨t, ht, -⟩ := State.frames_cons hr
      show T.setVm s.vm = { ((T.setVm s.vm).setFrames (.invoking m args :: below)).setFrames (T.setVm s.vm).frames with heap := T.heap, slotsUsed := T.slotsUsed }
      rw [State.setFrames_setFrames, State.setFrames_self ht]
      rfl
    · show T.slotsUsed = T.slotsUsed + ((T.heap.toList.drop T.heap.size).map (·.slots.size)).sum
      rw [List.drop_eq_nil_of_le (Nat.le_of_eq Array.length_toList)]
      rfl
    · show ((T.heap.toList.drop T.heap.size).map (·.slots.size)).sum ≤ 0
      rw [List.drop_eq_nil_of_le (Nat.le_of_eq Array.length_toList)]
      exact Nat.le_refl _
theorem vx_throw0 {cc : ByteArray} {pc : Nat} (hexec : p.tables.exec = Jvm.exec) (hb : c.code = cc) (hl : l.stackTraces = false) {own cls : String} {names : List String} {ik ic mc ms : Nat} {A : Nat → Prop}
    (hown : s.vm.findClass own = some m.cls) (hcls : Bundle.fit cls = true) (hnames : ∀ n ∈ names, Bundle.fit n = true)
    (hk : (Cond.classLink own ik cls).before args s = true) (hini : (Cond.initialized cls).before args s = true) (hat : ∀ w ∈ vx_at0 own ic cls names, w.before args s = true)
    (hgood : ∀ w ∈ Cond.classLink own ik cls :: Cond.initialized cls :: vx_at0 own ic cls names, vx_ot w = true)
    (hU : vx_Zq Bundle.tN "UNASSIGNED_STACK" Bundle.steD A s s.heap) (hN : vx_Zq Bundle.tN "SUPPRESSED_SENTINEL" Bundle.listD A s s.heap) (hS : va_S A s.heap H locs) (hsize : ls.size = c.maxLocals)
    (d0 : decode cc pc = .ok (.new ik, 3)) (d3 : decode cc (pc + 3) = .ok (.dup, 1)) (d4 : decode cc (pc + 4) = .ok (.invokespecial ic, 3)) (d7 : decode cc (pc + 7) = .ok (.athrow, 1))
    (hout : ∀ x ∈ c.exceptionTable.toList, covers x (pc + 7) = false)
    (hRframes : names.length + 3 < R.frames) (hRlocals : (rest.map fun v => v.category).sum + (13 * (names.length + 1) + 42) ≤ R.locals) (hRcells : cells + 1 ≤ R.cells) (hRslots : slots + 6 ≤ R.slots) (hlocks : meth.locks = false)
    (hx : ∀ t : State, s.vm.Alike t.vm → H.size ≤ t.heap.size → (∀ q : Nat, q < H.size → t.heap[q]? = H[q]?) → XC cls s t)
    (hf : ∀ z ∈ locs, free z.base) (hc : cells + 1 ≤ mc) (hs : slots + 6 ≤ ms) :
    W p l e R s m args below meth c H locs cells slots (vx_MQ below Qc XC args s mc ms free) (F0 m pc ls rest) := by
  intro T hT X
  have htr : e.platform.stackTraces = false := (show e.platform.stackTraces = l.stackTraces by rw [X.admits.platform]).trans hl
  have Y := vx_rebase X (R' := { frames := R.frames, locals := R.locals, cells := 1, slots := 6 }) (Nat.le_refl _) (Nat.le_refl _) hRcells hRslots
  obtain ⟨s', hA⟩ : ∃ z, z = (T.setVm s.vm).setFrames (.invoking m args :: below) := ⟨_, rfl⟩
  rw [← hA] at Y
  have hvm : s'.vm = s.vm := by rw [hA]; rfl
  have hhp : s'.heap = H := by rw [hA]; exact hT
  have hW0 : s.WarmedH s'.vm := by rw [hvm]; exact State.WarmedH.refl s
  have hat' : ∀ w ∈ vx_at0 own ic cls names, w.before args s' = true := fun w hw => vx_ot_at hW0 hvm.symm (hgood w (List.mem_cons_of_mem _ (List.mem_cons_of_mem _ hw))) (hat w hw)
  have hk' : (Cond.classLink own ik cls).before args s' = true := vx_ot_at hW0 hvm.symm (hgood _ List.mem_cons_self) hk
  have hini' : (Cond.initialized cls).before args s' = true := vx_ot_at hW0 hvm.symm (hgood _ (List.mem_cons_of_mem _ List.mem_cons_self)) hini
  have hU' : vx_Zq Bundle.tN "UNASSIGNED_STACK" Bundle.steD A s' s'.heap := by rw [hhp]; exact vx_Zq.moved hW0.alike (hU.kept hS.2.1)
  have hN' : vx_Zq Bundle.tN "SUPPRESSED_SENTINEL" Bundle.listD A s' s'.heap := by rw [hhp]; exact vx_Zq.moved hW0.alike (hN.kept hS.2.1)
  have h : ∀ w ∈ Bundle.ownAtoms0 own ic cls names, w.before args s' = true := vx_own hat' (vx_isRefq hU'.1) (vx_isRefq hN'.1) hU'.2.word hN'.2.word
  have hown' : s'.vm.findClass own = some m.cls := by rw [hvm]; exact hown
  have hins : (Cond.instantiable cls 6).before args s' = true := h _ (by simp [Bundle.ownAtoms0])
  obtain ⟨vm₁, cX, kX, hfX, hkX, -, -, X₁, st1⟩ := Y.newCold hexec (own := own) (C := cls) (index := ik) (n := 6) hown' hk' hins hini'
    (g := F0 m pc ls rest) rfl (by rw [hb]; exact d0) (Nat.le_refl _) (Nat.le_refl _)
  generalize hT1 : (T.setVm vm₁).pushCell { cls := cX, slots := kX.instanceTypes.map defaultValue, vm := .none } = T1 at X₁ st1
  have hcat : (Value.ref T.heap.size).category = 1 := rfl
  have hcellA : T1.heap[T.heap.size]? = some (freshCell cX kX) := by rw [← hT1]; exact State.heap_pushCell_size _ _
  have d3' : decode c.code (pc + 3) = .ok (.dup, 1) := by rw [hb]; exact d3
  obtain ⟨U, hsteps, hrun, hend, hW, hsame, ce, hce, hO⟩ := X₁.ctorThrow0 hexec htr (own := own) (cls := cls) (names := names) (ic := ic) hown' hcls hnames h (fun x hx => nomatch hx) hfX hkX hcellA (by rw [hhp, hT]; exact Nat.le_refl _)
    (g := { method := m, pc := pc + 4, locals := ls, stack := .ref T.heap.size :: .ref T.heap.size :: rest, locked := none }) rfl hsize rfl rfl (rest := rest) rfl
    (by rw [hb]; exact d4) (by rw [hb]; exact d7) hout hRframes (by simp only [List.map_cons, List.sum_cons, hcat]; omega) hlocks
  obtain ⟨f1, f2⟩ := vx_frame hsame
  rw [hhp] at f1 f2
  have hWs : s.WarmedH U.vm := State.WarmedH.trans hW0 hW
  have hcl : s.vm.findClass cls = some ce.cls := by
    have h9 := hO.cls
    rw [hvm] at h9
    exact h9
  have hall : s.sameButNew ({ U with vm := s.vm } : State) locs mc ms := by
    subst hA
    obtain ⟨e1, e2⟩ := hsame
    rw [State.setFrames_setFrames] at e1
    have h2 : (T.setVm s.vm).sameButNew ({ U with vm := s.vm } : State) [] (0 + 1) (0 + 6) := ⟨e1, e2⟩
    have h3 := X.same.trans h2
    rw [List.append_nil] at h3
    exact h3.mono hc hs
  refine ⟨U, ?_, .threw T.heap.size, hrun, hend, Or.inr ⟨T.heap.size, rfl, cls, ce, locs, hx U hWs.alike f1 (fun q hq => f2 q hq (fun z hz => nomatch hz)), hce, hO.vm, hcl, hWs, hall, hf⟩⟩
  refine st1 _ ?_
  show Steps p.tables e below (T1.setTop { method := m, pc := pc + 3, locals := ls, stack := .ref T.heap.size :: rest, locked := none }) _
  jvm_step X₁.here [X₁.here.top, hexec, d3', Value.category]
  exact hsteps
theorem vx_throwS {cc : ByteArray} {pc : Nat} (hexec : p.tables.exec = Jvm.exec) (hb : c.code = cc) (hl : l.stackTraces = false) {own cls text : String} {names : List String} {ik is ic mc ms sa : Nat} {A : Nat → Prop}
    (hown : s.vm.findClass own = some m.cls) (hcls : Bundle.fit cls = true) (hnames : ∀ n ∈ names, Bundle.fit n = true)
    (hk : (Cond.classLink own ik cls).before args s = true) (hini : (Cond.initialized cls).before args s = true) (hstr : vk_R own is text sa s) (hat : ∀ w ∈ vx_atS own ic cls names, w.before args s = true)
    (hgood : ∀ w ∈ Cond.classLink own ik cls :: Cond.initialized cls :: vx_atS own ic cls names, vx_ot w = true)
    (hU : vx_Zq Bundle.tN "UNASSIGNED_STACK" Bundle.steD A s s.heap) (hN : vx_Zq Bundle.tN "SUPPRESSED_SENTINEL" Bundle.listD A s s.heap) (hS : va_S A s.heap H locs) (hsize : ls.size = c.maxLocals)
    (d0 : decode cc pc = .ok (.new ik, 3)) (d3 : decode cc (pc + 3) = .ok (.dup, 1)) (d4 : decode cc (pc + 4) = .ok (.ldc is, 2)) (d6 : decode cc (pc + 6) = .ok (.invokespecial ic, 3)) (d9 : decode cc (pc + 9) = .ok (.athrow, 1))
    (hout : ∀ x ∈ c.exceptionTable.toList, covers x (pc + 9) = false)
    (hRframes : names.length + 3 < R.frames) (hRlocals : (rest.map fun v => v.category).sum + (13 * (names.length + 1) + 43) ≤ R.locals) (hRcells : cells + 1 ≤ R.cells) (hRslots : slots + 6 ≤ R.slots) (hlocks : meth.locks = false)
    (hx : ∀ t : State, s.vm.Alike t.vm → H.size ≤ t.heap.size → (∀ q : Nat, q < H.size → t.heap[q]? = H[q]?) → XC cls s t)
    (hf : ∀ z ∈ locs, free z.base) (hc : cells + 1 ≤ mc) (hs : slots + 6 ≤ ms) :
    W p l e R s m args below meth c H locs cells slots (vx_MQ below Qc XC args s mc ms free) (F0 m pc ls rest) := by
  intro T hT X
  have htr : e.platform.stackTraces = false := (show e.platform.stackTraces = l.stackTraces by rw [X.admits.platform]).trans hl
  have Y := vx_rebase X (R' := { frames := R.frames, locals := R.locals, cells := 1, slots := 6 }) (Nat.le_refl _) (Nat.le_refl _) hRcells hRslots
  obtain ⟨s', hA⟩ : ∃ z, z = (T.setVm s.vm).setFrames (.invoking m args :: below) := ⟨_, rfl⟩
  rw [← hA] at Y
  have hvm : s'.vm = s.vm := by rw [hA]; rfl
  have hhp : s'.heap = H := by rw [hA]; exact hT
  have hW0 : s.WarmedH s'.vm := by rw [hvm]; exact State.WarmedH.refl s
  have hat' : ∀ w ∈ vx_atS own ic cls names, w.before args s' = true := fun w hw => vx_ot_at hW0 hvm.symm (hgood w (List.mem_cons_of_mem _ (List.mem_cons_of_mem _ hw))) (hat w hw)
  have hk' : (Cond.classLink own ik cls).before args s' = true := vx_ot_at hW0 hvm.symm (hgood _ List.mem_cons_self) hk
  have hini' : (Cond.initialized cls).before args s' = true := vx_ot_at hW0 hvm.symm (hgood _ (List.mem_cons_of_mem _ List.mem_cons_self)) hini
  have hU' : vx_Zq Bundle.tN "UNASSIGNED_STACK" Bundle.steD A s' s'.heap := by rw [hhp]; exact vx_Zq.moved hW0.alike (hU.kept hS.2.1)
  have hN' : vx_Zq Bundle.tN "SUPPRESSED_SENTINEL" Bundle.listD A s' s'.heap := by rw [hhp]; exact vx_Zq.moved hW0.alike (hN.kept hS.2.1)
  have h : ∀ w ∈ Bundle.ownAtoms own ic cls names, w.before args s' = true := vx_own hat' (vx_isRefq hU'.1) (vx_isRefq hN'.1) hU'.2.word hN'.2.word
  have hown' : s'.vm.findClass own = some m.cls := by rw [hvm]; exact hown
  have hins : (Cond.instantiable cls 6).before args s' = true := h _ (by simp [Bundle.ownAtoms])
  obtain ⟨vm₁, cX, kX, hfX, hkX, -, -, X₁, st1⟩ := Y.newCold hexec (own := own) (C := cls) (index := ik) (n := 6) hown' hk' hins hini'
    (g := F0 m pc ls rest) rfl (by rw [hb]; exact d0) (Nat.le_refl _) (Nat.le_refl _)
  generalize hT1 : (T.setVm vm₁).pushCell { cls := cX, slots := kX.instanceTypes.map defaultValue, vm := .none } = T1 at X₁ st1
  have hcat : (Value.ref T.heap.size).category = 1 := rfl
  have hcellA : T1.heap[T.heap.size]? = some (freshCell cX kX) := by rw [← hT1]; exact State.heap_pushCell_size _ _
  have d3' : decode c.code (pc + 3) = .ok (.dup, 1) := by rw [hb]; exact d3
  have d4' : decode c.code (pc + 4) = .ok (.ldc is, 2) := by rw [hb]; exact d4
  have hstr' : vk_R own is text sa s' := vk_R.warm hW0 hstr
  obtain ⟨U, hsteps, hrun, hend, hW, hsame, ce, hce, hO⟩ := X₁.ctorThrowS hexec htr (own := own) (cls := cls) (names := names) (ic := ic) hown' hcls hnames h (fun x hx => nomatch hx) hfX hkX hcellA (by rw [hhp, hT]; exact Nat.le_refl _) (msg := .ref sa) rfl
    (g := { method := m, pc := pc + 6, locals := ls, stack := .ref sa :: .ref T.heap.size :: .ref T.heap.size :: rest, locked := none }) rfl hsize rfl rfl (rest := rest) rfl
    (by rw [hb]; exact d6) (by rw [hb]; exact d9) hout hRframes (by simp only [List.map_cons, List.sum_cons, hcat]; omega) hlocks
  obtain ⟨f1, f2⟩ := vx_frame hsame
  rw [hhp] at f1 f2
  have hWs : s.WarmedH U.vm := State.WarmedH.trans hW0 hW
  have hcl : s.vm.findClass cls = some ce.cls := by
    have h9 := hO.cls
    rw [hvm] at h9
    exact h9
  have hall : s.sameButNew ({ U with vm := s.vm } : State) locs mc ms := by
    subst hA
    obtain ⟨e1, e2⟩ := hsame
    rw [State.setFrames_setFrames] at e1
    have h2 : (T.setVm s.vm).sameButNew ({ U with vm := s.vm } : State) [] (0 + 1) (0 + 6) := ⟨e1, e2⟩
    have h3 := X.same.trans h2
    rw [List.append_nil] at h3
    exact h3.mono hc hs
  refine ⟨U, ?_, .threw T.heap.size, hrun, hend, Or.inr ⟨T.heap.size, rfl, cls, ce, locs, hx U hWs.alike f1 (fun q hq => f2 q hq (fun z hz => nomatch hz)), hce, hO.vm, hcl, hWs, hall, hf⟩⟩
  refine st1 _ ?_
  show Steps p.tables e below (T1.setTop { method := m, pc := pc + 3, locals := ls, stack := .ref T.heap.size :: rest, locked := none }) _
  jvm_step X₁.here [X₁.here.top, hexec, d3', Value.category]
  exact X₁.ldcString hexec (own := own) (text := text) (index := is) (a := sa) hown' hstr'.1 hstr'.2
    (g := { method := m, pc := pc + 4, locals := ls, stack := .ref T.heap.size :: .ref T.heap.size :: rest, locked := none }) rfl d4' _ hsteps
theorem vx_throwSW {cc : ByteArray} {pc : Nat} (hexec : p.tables.exec = Jvm.exec) (hb : c.code = cc) (hl : l.stackTraces = false) {own cls text : String} {names : List String} {ik is ic mc ms sa : Nat} {A : Nat → Prop}
    (hown : s.vm.findClass own = some m.cls) (hcls : Bundle.fit cls = true) (hnames : ∀ n ∈ names, Bundle.fit n = true)
    (hk : (Cond.classLink own ik cls).before args s = true) (hini : (Cond.initialized cls).before args s = true) (hstr : vk_R own is text sa s) (hat : ∀ w ∈ vx_atS own ic cls names, w.before args s = true)
    (hgood : ∀ w ∈ Cond.classLink own ik cls :: Cond.initialized cls :: vx_atS own ic cls names, vx_ot w = true)
    (hU : vx_Zq Bundle.tN "UNASSIGNED_STACK" Bundle.steD A s s.heap) (hN : vx_Zq Bundle.tN "SUPPRESSED_SENTINEL" Bundle.listD A s s.heap) (hS : va_S A s.heap H locs) (hsize : ls.size = c.maxLocals)
    (d0 : decode cc pc = .ok (.new ik, 3)) (d3 : decode cc (pc + 3) = .ok (.dup, 1)) (d4 : decode cc (pc + 4) = .ok (.ldc_w is, 3)) (d7 : decode cc (pc + 7) = .ok (.invokespecial ic, 3)) (d10 : decode cc (pc + 10) = .ok (.athrow, 1))
    (hout : ∀ x ∈ c.exceptionTable.toList, covers x (pc + 10) = false)
    (hRframes : names.length + 3 < R.frames) (hRlocals : (rest.map fun v => v.category).sum + (13 * (names.length + 1) + 43) ≤ R.locals) (hRcells : cells + 1 ≤ R.cells) (hRslots : slots + 6 ≤ R.slots) (hlocks : meth.locks = false)
    (hx : ∀ t : State, s.vm.Alike t.vm → H.size ≤ t.heap.size → (∀ q : Nat, q < H.size → t.heap[q]? = H[q]?) → XC cls s t)
    (hf : ∀ z ∈ locs, free z.base) (hc : cells + 1 ≤ mc) (hs : slots + 6 ≤ ms) :
    W p l e R s m args below meth c H locs cells slots (vx_MQ below Qc XC args s mc ms free) (F0 m pc ls rest) := by
  intro T hT X
  have htr : e.platform.stackTraces = false := (show e.platform.stackTraces = l.stackTraces by rw [X.admits.platform]).trans hl
  have Y := vx_rebase X (R' := { frames := R.frames, locals := R.locals, cells := 1, slots := 6 }) (Nat.le_refl _) (Nat.le_refl _) hRcells hRslots
  obtain ⟨s', hA⟩ : ∃ z, z = (T.setVm s.vm).setFrames (.invoking m args :: below) := ⟨_, rfl⟩
  rw [← hA] at Y
  have hvm : s'.vm = s.vm := by rw [hA]; rfl
  have hhp : s'.heap = H := by rw [hA]; exact hT
  have hW0 : s.WarmedH s'.vm := by rw [hvm]; exact State.WarmedH.refl s
  have hat' : ∀ w ∈ vx_atS own ic cls names, w.before args s' = true := fun w hw => vx_ot_at hW0 hvm.symm (hgood w (List.mem_cons_of_mem _ (List.mem_cons_of_mem _ hw))) (hat w hw)
  have hk' : (Cond.classLink own ik cls).before args s' = true := vx_ot_at hW0 hvm.symm (hgood _ List.mem_cons_self) hk
  have hini' : (Cond.initialized cls).before args s' = true := vx_ot_at hW0 hvm.symm (hgood _ (List.mem_cons_of_mem _ List.mem_cons_self)) hini
  have hU' : vx_Zq Bundle.tN "UNASSIGNED_STACK" Bundle.steD A s' s'.heap := by rw [hhp]; exact vx_Zq.moved hW0.alike (hU.kept hS.2.1)
  have hN' : vx_Zq Bundle.tN "SUPPRESSED_SENTINEL" Bundle.listD A s' s'.heap := by rw [hhp]; exact vx_Zq.moved hW0.alike (hN.kept hS.2.1)
  have h : ∀ w ∈ Bundle.ownAtoms own ic cls names, w.before args s' = true := vx_own hat' (vx_isRefq hU'.1) (vx_isRefq hN'.1) hU'.2.word hN'.2.word
  have hown' : s'.vm.findClass own = some m.cls := by rw [hvm]; exact hown
  have hins : (Cond.instantiable cls 6).before args s' = true := h _ (by simp [Bundle.ownAtoms])
  obtain ⟨vm₁, cX, kX, hfX, hkX, -, -, X₁, st1⟩ := Y.newCold hexec (own := own) (C := cls) (index := ik) (n := 6) hown' hk' hins hini'
    (g := F0 m pc ls rest) rfl (by rw [hb]; exact d0) (Nat.le_refl _) (Nat.le_refl _)
  generalize hT1 : (T.setVm vm₁).pushCell { cls := cX, slots := kX.instanceTypes.map defaultValue, vm := .none } = T1 at X₁ st1
  have hcat : (Value.ref T.heap.size).category = 1 := rfl
  have hcellA : T1.heap[T.heap.size]? = some (freshCell cX kX) := by rw [← hT1]; exact State.heap_pushCell_size _ _
  have d3' : decode c.code (pc + 3) = .ok (.dup, 1) := by rw [hb]; exact d3
  have d4' : decode c.code (pc + 4) = .ok (.ldc_w is, 3) := by rw [hb]; exact d4
  have hstr' : vk_R own is text sa s' := vk_R.warm hW0 hstr
  obtain ⟨U, hsteps, hrun, hend, hW, hsame, ce, hce, hO⟩ := X₁.ctorThrowS hexec htr (own := own) (cls := cls) (names := names) (ic := ic) hown' hcls hnames h (fun x hx => nomatch hx) hfX hkX hcellA (by rw [hhp, hT]; exact Nat.le_refl _) (msg := .ref sa) rfl
    (g := { method := m, pc := pc + 7, locals := ls, stack := .ref sa :: .ref T.heap.size :: .ref T.heap.size :: rest, locked := none }) rfl hsize rfl rfl (rest := rest) rfl
    (by rw [hb]; exact d7) (by rw [hb]; exact d10) hout hRframes (by simp only [List.map_cons, List.sum_cons, hcat]; omega) hlocks
  obtain ⟨f1, f2⟩ := vx_frame hsame
  rw [hhp] at f1 f2
  have hWs : s.WarmedH U.vm := State.WarmedH.trans hW0 hW
  have hcl : s.vm.findClass cls = some ce.cls := by
    have h9 := hO.cls
    rw [hvm] at h9
    exact h9
  have hall : s.sameButNew ({ U with vm := s.vm } : State) locs mc ms := by
    subst hA
    obtain ⟨e1, e2⟩ := hsame
    rw [State.setFrames_setFrames] at e1
    have h2 : (T.setVm s.vm).sameButNew ({ U with vm := s.vm } : State) [] (0 + 1) (0 + 6) := ⟨e1, e2⟩
    have h3 := X.same.trans h2
    rw [List.append_nil] at h3
    exact h3.mono hc hs
  refine ⟨U, ?_, .threw T.heap.size, hrun, hend, Or.inr ⟨T.heap.size, rfl, cls, ce, locs, hx U hWs.alike f1 (fun q hq => f2 q hq (fun z hz => nomatch hz)), hce, hO.vm, hcl, hWs, hall, hf⟩⟩
  refine st1 _ ?_
  show Steps p.tables e below (T1.setTop { method := m, pc := pc + 3, locals := ls, stack := .ref T.heap.size :: rest, locked := none }) _
  jvm_step X₁.here [X₁.here.top, hexec, d3', Value.category]
  exact X₁.ldcStringW hexec (own := own) (text := text) (index := is) (a := sa) hown' hstr'.1 hstr'.2
    (g := { method := m, pc := pc + 4, locals := ls, stack := .ref T.heap.size :: .ref T.heap.size :: rest, locked := none }) rfl d4' _ hsteps
end Ends
section Bodies
variable {l : Launch}
theorem vx_ofW {y : MethodName} {ws ws' : List Cond} {rm : Room} {Pc : Array Value → State → Prop} {Qc : Array Value → State → Outcome → State → Prop} {XC : String → State → State → Prop} {mc ms : Nat} {free : Addr → Prop} {cc : ByteArray} {maxL : Nat} {ret : Option FieldType}
    (hy : plainName y.cls = true) (hw : ws = Cond.code y cc maxL ret :: ws')
    (body : ∀ p e s m args below meth c s₁, BodyLoose p l y (headSpec ws rm) cc maxL ret e s m args below meth c s₁ → c.maxLocals = maxL → (∀ x ∈ c.exceptionTable.toList, False) → Pc args s →
      W p l e (headSpec ws rm).room s m args below meth c s.heap [] 0 0 (vx_MQ below Qc XC args s mc ms free) (entryFrame m args maxL)) : vx_Met l y ws rm Pc Qc XC mc ms free := by
  refine MetFree.of_bodyS (code := cc) (maxLocals := maxL) (ret := ret) hy ?_ ?_
  · intro args s m h hn
    obtain ⟨meth, c, h1, h2, h3, h4, h5, h6, -, -⟩ := Cond.code_spec hn (atoms_spec (ws := ws) h _ (by rw [hw]; exact List.mem_cons_self))
    exact ⟨meth, c, h1, h2, h3, h4, h5, h6⟩
  · intro p e s m args below meth c s₁ B hml hP _
    have hh0 : s₁.heap = s.heap := by rw [B.state]; rfl
    have ht : ∀ x ∈ c.exceptionTable.toList, False := by
      obtain ⟨meth9, c9, h1, h2, -, -, -, -, h7, -⟩ := Cond.code_spec B.named (atoms_spec (ws := ws) B.pre _ (by rw [hw]; exact List.mem_cons_self))
      cases Option.some.inj (h1.symm.trans B.method)
      cases Option.some.inj (h2.symm.trans (Stand.of_body B).code)
      intro x hx
      rw [Array.isEmpty_iff.mp h7] at hx
      cases hx
    obtain ⟨t, a1, o, b1, b2, b3⟩ := body p e s m args below meth c s₁ B hml ht hP s₁ hh0 (Stand.of_body B)
    exact ⟨t, o, a1, b1, b2, b3⟩
theorem vx_table {p : Program} {x y : MethodName} {S : Spec} {cc bytes : ByteArray} {maxL maxL' : Nat} {ret ret' : Option FieldType} {e : Env} {s s₁ : State} {m : MethodId} {args : Array Value} {below : List Frame} {meth : Method} {c : Code} {hh : List (Nat × Nat × Nat × Nat)}
    (B : BodyLoose p l y S cc maxL ret e s m args below meth c s₁) (h : (Cond.codeWith y bytes maxL' ret' hh).before args s = true) : c.exceptionTable.toList = tableOf hh := by
  obtain ⟨m9, meth9, c9, hn9, h1, h2, -, -, h6, -⟩ := Cond.codeWith_spec h
  cases Option.some.inj (hn9.symm.trans B.named)
  cases Option.some.inj (h1.symm.trans B.method)
  cases Option.some.inj (h2.symm.trans (Stand.of_body B).code)
  rw [← h6, table_eq]
end Bodies
end VXA
section VXS
variable {p : Program} {l : Launch} {e : Env} {R : Room} {s : State} {m : MethodId} {args : Array Value} {below : List Frame} {meth : Method} {c : Code} {T : State} {H : Heap} {locs : List Loc} {cells slots : Nat}
abbrev vx_CSW (R : Room) (s : State) (args : Array Value) (own : String) (index : Nat) (y : MethodName) (bytes : ByteArray) (maxL : Nat) (ret : Option FieldType) (hh : List (Nat × Nat × Nat × Nat)) (ws : List Cond) (rm : Room) (mc ms n : Nat) : Prop :=
  (rm.cells = mc ∧ rm.slots = ms ∧ rm.frames + 1 ≤ R.frames ∧ 8 + (maxL + 11) + rm.locals ≤ R.locals ∧ (∀ w ∈ ws, ∀ (a' : Array Value) (U : State), s.WarmedH U.vm → w.before a' U = true) ∧ Cond.codeWith y bytes maxL ret hh ∈ ws) ∧
  (Cond.codeWith y bytes maxL ret hh).before args s = true ∧ (Cond.initialized y.cls).before args s = true ∧ (y.cls ≠ "java/lang/invoke/MethodHandle" ∧ y.cls ≠ "java/lang/invoke/VarHandle") ∧
  (∀ sig, parseMethodDescriptor y.desc = some sig → n = sig.parameters.length) ∧ (Cond.methodLink own index y).before args s = true ∧ (Cond.static y).before args s = true
theorem vx_cwSW {own : String} {index maxL mc ms : Nat} {y : MethodName} {bytes : ByteArray} {ret : Option FieldType} {hh : List (Nat × Nat × Nat × Nat)} {Ts ws ws' : List Cond} {rm : Room} (n : Nat) (ht : ∀ w ∈ Ts, w.before args s = true) (hT : GoodIn Ts (va_wsS own index y ws)) (hw : ws = Cond.codeWith y bytes maxL ret hh :: ws') (hrc : rm.cells = mc) (hrs : rm.slots = ms)
    (hd : y.cls ≠ "java/lang/invoke/MethodHandle" ∧ y.cls ≠ "java/lang/invoke/VarHandle" ∧ (parseMethodDescriptor y.desc).map (fun d => d.parameters.length) = some n) (hR : rm.frames + 1 ≤ R.frames ∧ 8 + (maxL + 11) + rm.locals ≤ R.locals) :
    vx_CSW R s args own index y bytes maxL ret hh ws rm mc ms n := by
  have ok : ∀ w ∈ va_wsS own index y ws, w.before args s = true := fun w h => ht w (hT w h).1
  have hG : GoodIn Ts ws := fun w h => hT w (by unfold va_wsS; exact List.mem_append_right _ h)
  have hc : Cond.codeWith y bytes maxL ret hh ∈ ws := by rw [hw]; exact List.mem_cons_self
  refine ⟨⟨hrc, hrs, hR.1, hR.2, pay_in ht hG, hc⟩, ht _ (hG _ hc).1, ok _ (by simp [va_wsS]), ⟨hd.1, hd.2.1⟩, fun sig h => ?_, ok _ (by simp [va_wsS]), ok _ (by simp [va_wsS])⟩
  have h2 := hd.2.2
  rw [h] at h2
  exact (Option.some.inj h2).symm
theorem vx_callSW (X : Stand p l e R s m args below meth c T locs cells slots) (hexec : p.tables.exec = Jvm.exec) {own : String} {index : Nat} {y : MethodName} {bytes : ByteArray} {maxL : Nat} {ret : Option FieldType} {hh : List (Nat × Nat × Nat × Nat)}
    (hown : s.vm.findClass own = some m.cls) (hlink : (Cond.methodLink own index y).before args s = true) (hstat : (Cond.static y).before args s = true) (hinit : (Cond.initialized y.cls).before args s = true)
    (hcode : (Cond.codeWith y bytes maxL ret hh).before args s = true) (hy : y.cls ≠ "java/lang/invoke/MethodHandle" ∧ y.cls ≠ "java/lang/invoke/VarHandle")
    {W9 : Nat} {Pre : Pt → Array Value → Prop} {Post : Pt → Array Value → Option Value → Pt → Prop} (hK : Back l R p e below s args y 3 W9 Pre Post)
    {g : JFrame} (hg : g.method = m) (hsize : g.locals.size = c.maxLocals) {argsL rest : List Value} (hlen : ∀ sig, parseMethodDescriptor y.desc = some sig → argsL.length = sig.parameters.length)
    (hstack : g.stack = argsL.reverse ++ rest) (hW : 2 * g.monitorRoom + (rest.map fun v => v.category).sum ≤ W9) (hdg : decode c.code g.pc = .ok (.invokestatic index, 3))
    (hpre : ∀ vm₁, s.WarmedH vm₁ → Pre ⟨T.setVm vm₁, locs, cells, slots⟩ argsL.toArray) :
    ∃ (v : Option Value) (vm₁ : Vm) (B : Pt), s.WarmedH vm₁ ∧ Stand p l e R s m args below meth c B.U B.locs B.cells B.slots ∧ Post ⟨T.setVm vm₁, locs, cells, slots⟩ argsL.toArray v B ∧
      ∀ target, Steps p.tables e below (B.U.setTop { g with pc := g.pc + 3, stack := v.toList ++ rest }) target → Steps p.tables e below (T.setTop g) target := by
  obtain ⟨mk, methM, cM, hnamed, hmethM, -, -, -, -, -, -, hsigM⟩ := Cond.codeWith_spec hcode
  have hstatic : methM.isStatic = true := Cond.static_spec hnamed hmethM hstat
  obtain ⟨kP, hkP, -⟩ := className_of_methodNamed hnamed
  have hinitP : kP.init = .initialized := Cond.initialized_spec (findClass_of_methodNamed hnamed) hkP hinit
  obtain ⟨vm₁, X₁, hstep₁⟩ := X.invokestatic hexec hown hlink hnamed hmethM hstatic hkP hinitP hy (g := g) hg (argsL := argsL) (rest := rest) (hlen _ hsigM) hstack hdg
  obtain ⟨v, B, X', hpost, hsteps⟩ := hK m meth c ⟨T.setVm vm₁, locs, cells, slots⟩ { g with stack := rest } (.invokestatic index) mk argsL.toArray X₁ hg hsize hdg hW (X₁.named hnamed) (hpre vm₁ X₁.warmed)
  exact ⟨v, vm₁, B, X₁.warmed, X', hpost, fun target h => hstep₁ _ fun acts => by rw [doInvoke_state]; exact hsteps.trans h⟩
theorem vx_runSW {y : MethodName} {bytes cc : ByteArray} {maxL nL mc ms n index : Nat} {ret : Option FieldType} {hh : List (Nat × Nat × Nat × Nat)} {ws : List Cond} {rm : Room} {Pc : Array Value → State → Prop} {Qc : Array Value → State → Outcome → State → Prop} {free : Addr → Prop} {Ts : List Cond} {own : String} {As rest : List Value} {g : JFrame}
    (S : CallFix p m c cc nL s args Ts own) (hM : Met l y ws rm Pc Qc mc ms free) (cw : vx_CSW R s args own index y bytes maxL ret hh ws rm mc ms n) (hp : PreS s H Pc As)
    (hg : g.method = m) (hn : As.length = n) (hsize : g.locals.size = nL) (hstack : g.stack = As.reverse ++ rest) (hW : 2 * g.monitorRoom + (rest.map fun v => v.category).sum ≤ 8) (hdg : decode cc g.pc = .ok (.invokestatic index, 3)) (hf : cells + mc ≤ R.cells ∧ slots + ms ≤ R.slots) :
    va_Run p l e R s m args below meth c H locs cells slots mc ms g rest (Qc As.toArray) (free) := by
  obtain ⟨⟨hrc, hrs, hfr, hlo, hws, hcw⟩, hcode, hini, hy, hlen, hl, hstt⟩ := cw
  have hK : Back l R p e below s args y 3 8 (PreOf R mc ms Pc) (PostOf Qc mc ms free) := va_backW (hh := hh) (bytes := bytes) (maxL := maxL) (ret := ret) hM hp.1 hrc hrs hfr hlo hws hcw (fun a' U hW => word_at hW (Or.inl (by first | rfl | simp [Cond.onTables, Cond.keeps, Cond.steady])) hini)
  obtain ⟨hx, hb, hml, ho, -⟩ := S
  intro T hT X
  obtain ⟨v, vm₁, ⟨U', l2, c2, s2⟩, hW₁, X', ⟨g', mk, t, L, e1, e2, hq, h1, hL, h2, h3⟩, st⟩ := vx_callSW X hx (hh := hh) (bytes := bytes) (maxL := maxL) (ret := ret) ho hl hstt hini hcode hy hK hg (hsize.trans hml.symm) (argsL := As) (rest := rest) (fun sig h => hn.trans (hlen sig h)) hstack hW (by rw [hb]; exact hdg)
    (fun vm₁ hW₁ => ⟨hf.1, hf.2, hp.2 (T.setVm vm₁) hT hW₁⟩)
  dsimp only [Pt.U, Pt.locs, Pt.cells, Pt.slots] at X' e1 e2 h1 h2 h3 st
  subst h1; subst h2; subst h3
  exact ⟨v, (T.setVm vm₁).calling g' mk As.toArray, t, U', L, hT, X', hL, e1, e2, hq, st⟩
theorem vx_outP {p : Program} {l : Launch} {e : Env} {R : Room} {s : State} {m : MethodId} {args : Array Value} {below : List Frame} {meth : Method} {c : Code} {H : Heap} {locs : List Loc} {cells slots : Nat} {free : Addr → Prop} {ls : Array Slot} {rest : List Value} {Qc : Array Value → State → Outcome → State → Prop} {XC : String → State → State → Prop}
    {pc : Nat} {own E : String} {ce : Cell} {q : Addr} {mc ms : Nat} (hown : s.vm.findClass own = some m.cls) (hlocks : meth.locks = false)
    (hpass : ∀ z ∈ c.exceptionTable.toList, covers z pc = false ∨ (z.catchType ≠ 0 ∧ ∃ nm : String, (Cond.classLink own z.catchType nm).before args s = true ∧ va_Nc E nm s)) (hcell : H[q]? = some ce) (hv : ce.vm = .none) (hcl : s.vm.findClass E = some ce.cls)
    (hx : ∀ t : State, t.heap = H → s.vm.Alike t.vm → XC E s t) (hf : ∀ z ∈ locs, free z.base) (hc : cells ≤ mc) (hs : slots ≤ ms) :
    vx_W p l e R s m args below meth c H locs cells slots (vx_MQ below Qc XC args s mc ms free) (F0 m pc ls rest) q := by
  intro T hT X
  have hpl : e.platform.magicAccessors = ({} : Platform).magicAccessors := by rw [X.admits.platform]
  obtain ⟨vm', hW', X', st⟩ := X.outThrough hlocks q (g := F0 m pc ls rest) rfl rfl rfl (cell := ce) (by rw [hT]; exact hcell) (by rw [hv]; rfl)
    (by obtain ⟨k9, h9, -⟩ := Vm.findClass_spec hcl; exact ⟨k9, h9⟩) (fun z hz => by
      rcases hpass z hz with h | ⟨hz0, nm, hl1, hn1⟩
      · exact Or.inl h
      · obtain ⟨c6, hc6, hcl6⟩ := Cond.classLink_spec hown hl1 e.platform hpl
        obtain ⟨a8, b8, h1, h2, h3⟩ := hn1
        cases Option.some.inj (h1.symm.trans hcl)
        cases Option.some.inj (h2.symm.trans hc6)
        exact Or.inr ⟨hz0, _, hcl6, h3⟩)
  obtain ⟨g₀, hfr⟩ := X'.frames_eq
  have hcell9 : ((T.setVm vm').setFrames (.throwing q :: below)).heap[q]? = some ce := by
    show T.heap[q]? = some ce
    rw [hT]; exact hcell
  have hend : Ended ((T.setVm vm').setFrames (.throwing q :: below)) below (.threw q) := State.frames_setFrames _ (State.cur_lt_of_frames hfr)
  refine ⟨(T.setVm vm').setFrames (.throwing q :: below), ?_, .threw q, X'.here.running, hend, Or.inr ⟨q, rfl, E, ce, locs, hx _ hT (X'.ends _).1.alike, hcell9, hv, hcl, (X'.ends _).1, (X'.ends _).2.mono hc hs, hf⟩⟩
  rw [X.pushThrowing_eq]
  exact st
theorem vx_lt {D : va_G} {cl : List vw_C} {ws : va_W} {H1 : Heap} (h : va_P D cl ws H1) {k : Nat} {q : Nat × va_E} (hk : ws[k]? = some q) : q.1 < H1.size := (h k q hk).lt
end VXS
section VXH
section
variable {l : Launch} {R : Room} {p : Program} {e : Env} {below : List Frame} {s : State} {sargs : Array Value} {y : MethodName} {len W9 : Nat}
theorem vx_backW {ws : List Cond} {rm : Room} {Pc : Array Value → State → Prop} {Qc : Array Value → State → Outcome → State → Prop} {XC : String → State → State → Prop} {mc ms : Nat} {free : Addr → Prop} {bytes : ByteArray} {maxL : Nat} {ret : Option FieldType} {hh : List (Nat × Nat × Nat × Nat)}
    (hM : vx_Met l y ws rm Pc Qc XC mc ms free) (hblind : FrameBlind Pc) (hrc : rm.cells = mc) (hrs : rm.slots = ms)
    (hframes : rm.frames + 1 ≤ R.frames) (hlocals : W9 + (maxL + 11) + rm.locals ≤ R.locals)
    (hws : ∀ w ∈ ws, ∀ a' U, s.WarmedH U.vm → w.before a' U = true) (hcode : Cond.codeWith y bytes maxL ret hh ∈ ws) (hinit : ∀ a' U, s.WarmedH U.vm → (Cond.initialized y.cls).before a' U = true) :
    vx_Back l R p e below s sargs y len W9 (PreOf R mc ms Pc) (PostOf Qc mc ms free) (vx_Post XC mc ms free) := by
  intro m meth c A g ig mk a X hg hsize hdg hW hn hp
  have h1 : (headSpec ws rm).pre.before a A.U = true := atoms_intro fun w hw => hws w hw _ _ X.warmed
  have h2 : (Cond.codeWith y bytes maxL ret hh).before a A.U = true := hws _ hcode _ _ X.warmed
  have h3 : (Cond.initialized y.cls).before a A.U = true := hinit _ _ X.warmed
  have h4 : A.cells + (headSpec ws rm).room.cells ≤ R.cells := by rw [show (headSpec ws rm).room.cells = mc from hrc]; exact hp.1
  have h5 : A.slots + (headSpec ws rm).room.slots ≤ R.slots := by rw [show (headSpec ws rm).room.slots = ms from hrs]; exact hp.2.1
  have hPc : Pc a (A.U.calling g mk a) := hblind _ _ _ _ hp.2.2
  obtain ⟨U, Ls, c0, s0⟩ := A
  dsimp only [Pt.U, Pt.locs, Pt.cells, Pt.slots] at h1 h2 h3 h4 h5 X hn hPc ⊢
  obtain ⟨m9, methY, cY, hn9, hmY, hcY, -, hlY, -⟩ := Cond.codeWith_spec h2
  cases Option.some.inj (hn9.symm.trans hn)
  obtain ⟨kY, hkY, -⟩ := className_of_methodNamed hn
  have hinitY : kY.init = .initialized := Cond.initialized_spec (findClass_of_methodNamed hn) hkY h3
  have h : At U g.method c below := by rw [hg]; exact X.here
  have hlocals9 : W9 + (maxL + 11) + (headSpec ws rm).room.locals ≤ R.locals := hlocals
  have happ : (headSpec ws rm).appliesLoose y e.platform (U.calling g mk a) = true :=
    Spec.appliesLoose_calling (g := g) h hdg hn hkY hinitY
      (X.room_calling (g := g) (R' := (headSpec ws rm).room) hsize hmY hcY hframes (by rw [hlY]; omega) h4 h5) h1
  obtain ⟨mid, hmid⟩ := h.above
  have hfr : (U.setTop g).frames = (.java g :: mid) ++ below := by rw [State.frames_setTop' g h.top, hmid]; rfl
  obtain ⟨o, s₂, hsteps, -, hend, hq⟩ := Steps.callFree hM p X.admits X.cas X.clock (acts := []) hfr happ hPc trivial
  have hq' : vx_Q Qc XC mc ms free a (U.calling g mk a) o s₂ := hq
  rw [State.frames_setTop' g h.top] at hend
  obtain ⟨g₀, hg0⟩ := Option.isSome_iff_exists.mp h.top
  obtain ⟨r, hr⟩ := State.topJava?_eq_some.mp hg0
  have hr' : (({ U with heap := s₂.heap, slotsUsed := s₂.slotsUsed } : State).setVm s₂.vm).frames = .java g₀ :: r := hr
  rcases hq' with ⟨hqc, L, hfe, hL⟩ | ⟨q, rfl, E, ce, L, hx, hce, hcv, hcl, hW₂, hsm, hL⟩
  · obtain ⟨⟨v, rfl⟩, hW₂, e2, q2, q3, q4, q5, q6⟩ := id hfe
    have e3 : s₂ = ({ (U.calling g mk a).setFrames s₂.frames with heap := s₂.heap, slotsUsed := s₂.slotsUsed } : State).setVm s₂.vm := by
      have : s₂ = ({ s₂ with vm := (U.calling g mk a).vm } : State).setVm s₂.vm := rfl
      rw [e2] at this
      exact this
    obtain ⟨c₂, i₂, len₂, hc₂, hd₂, hf₂⟩ := hend
    have hW' : U.WarmedH s₂.vm := hW₂
    have hcc : c₂ = c := by
      have h1 : s₂.code? g.method = U.code? g.method := by
        rw [State.code?_eq, State.code?_eq, hW'.alike.method?]
      exact Option.some.inj (hc₂.symm.trans (h1.trans h.code))
    subst hcc
    have hlen : len₂ = len := by rw [hdg] at hd₂; cases hd₂; rfl
    subst hlen
    have hs₂ : s₂ = (({ U with heap := s₂.heap, slotsUsed := s₂.slotsUsed } : State).setVm s₂.vm).setTop { g with pc := g.pc + len₂, stack := v.toList ++ g.stack } := by
      refine e3.trans ?_
      rw [hf₂, State.calling_eq h.top, State.setFrames_setFrames, State.setTop_of_frames _ hr', hr]
      rfl
    have hsame : U.sameButNew ({ U with heap := s₂.heap, slotsUsed := s₂.slotsUsed } : State) L mc ms := by
      refine ⟨?_, q2, q3, q4, q5, q6⟩
      obtain ⟨t, ht, -⟩ := State.frames_cons hr
      show ({ U with heap := s₂.heap, slotsUsed := s₂.slotsUsed } : State) = { U.setFrames U.frames with heap := s₂.heap, slotsUsed := s₂.slotsUsed }
      rw [State.setFrames_self ht]
    subst hg
    refine Or.inl ⟨v, ⟨(({ U with heap := s₂.heap, slotsUsed := s₂.slotsUsed } : State).setVm s₂.vm), Ls ++ L, c0 + mc, s0 + ms⟩,
      ⟨X.admits, X.cas, X.clock, X.frames, X.room, X.hears, X.method, X.code, (X.here.setHeapUsed s₂.heap s₂.slotsUsed).setVm hW'.alike, X.tail, State.WarmedH.trans X.warmed hW', X.limits, X.bytes, X.same.trans (hsame.setVm s.vm)⟩,
      ⟨g, mk, s₂, L, rfl, rfl, hqc, rfl, hL, rfl, rfl⟩, ?_⟩
    show Steps p.tables e below _ ((({ U with heap := s₂.heap, slotsUsed := s₂.slotsUsed } : State).setVm s₂.vm).setTop { g with pc := g.pc + len₂, stack := v.toList ++ g.stack })
    rw [← hs₂]
    exact hsteps
  · obtain ⟨e2, q2, q3, q4, q5, q6⟩ := id hsm
    have e3 : s₂ = ({ (U.calling g mk a).setFrames s₂.frames with heap := s₂.heap, slotsUsed := s₂.slotsUsed } : State).setVm s₂.vm := by
      have : s₂ = ({ s₂ with vm := (U.calling g mk a).vm } : State).setVm s₂.vm := rfl
      rw [e2] at this
      exact this
    have hf₂ : s₂.frames = .throwing q :: .java g :: U.frames.tail := hend
    have hW' : U.WarmedH s₂.vm := hW₂
    have hs₂ : s₂ = ((({ U with heap := s₂.heap, slotsUsed := s₂.slotsUsed } : State).setVm s₂.vm).setTop g).pushFrame (.throwing q) := by
      refine e3.trans ?_
      rw [hf₂, State.calling_eq h.top, State.setFrames_setFrames, State.pushFrame, State.frames_setTop _ hr', State.setTop_of_frames _ hr', State.setFrames_setFrames, hr]
      rfl
    have hsame : U.sameButNew ({ U with heap := s₂.heap, slotsUsed := s₂.slotsUsed } : State) L mc ms := by
      refine ⟨?_, q2, q3, q4, q5, q6⟩
      obtain ⟨t, ht, -⟩ := State.frames_cons hr
      show ({ U with heap := s₂.heap, slotsUsed := s₂.slotsUsed } : State) = { U.setFrames U.frames with heap := s₂.heap, slotsUsed := s₂.slotsUsed }
      rw [State.setFrames_self ht]
    subst hg
    refine Or.inr ⟨q, ⟨(({ U with heap := s₂.heap, slotsUsed := s₂.slotsUsed } : State).setVm s₂.vm), Ls ++ L, c0 + mc, s0 + ms⟩,
      ⟨X.admits, X.cas, X.clock, X.frames, X.room, X.hears, X.method, X.code, (X.here.setHeapUsed s₂.heap s₂.slotsUsed).setVm hW'.alike, X.tail, State.WarmedH.trans X.warmed hW', X.limits, X.bytes, X.same.trans (hsame.setVm s.vm)⟩,
      ⟨g, mk, s₂, L, E, ce, rfl, rfl, hx, hce, hcv, hcl, rfl, hL, rfl, rfl⟩, ?_⟩
    show Steps p.tables e below _ (((({ U with heap := s₂.heap, slotsUsed := s₂.slotsUsed } : State).setVm s₂.vm).setTop g).pushFrame (.throwing q))
    rw [← hs₂]
    exact hsteps
end
variable {p : Program} {l : Launch} {e : Env} {R : Room} {s : State} {m : MethodId} {args : Array Value} {below : List Frame} {meth : Method} {c : Code} {T : State} {H : Heap} {locs : List Loc} {cells slots : Nat}
theorem vx_callVX (X : Stand p l e R s m args below meth c T locs cells slots) (hexec : p.tables.exec = Jvm.exec) {own C : String} {index : Nat} {y : MethodName} {bytes : ByteArray} {maxL : Nat} {ret : Option FieldType} {hh : List (Nat × Nat × Nat × Nat)}
    (hown : s.vm.findClass own = some m.cls) (hlink : (Cond.methodLink own index y).before args s = true) (hinst : (Cond.instanceMethod y).before args s = true) (hsel : (Cond.selects C y y).before args s = true)
    (hcode : (Cond.codeWith y bytes maxL ret hh).before args s = true) (hy : y.cls ≠ "java/lang/invoke/MethodHandle" ∧ y.cls ≠ "java/lang/invoke/VarHandle")
    {W9 : Nat} {Pre : Pt → Array Value → Prop} {Post : Pt → Array Value → Option Value → Pt → Prop} {PostX : Pt → Array Value → Addr → Pt → Prop} (hK : vx_Back l R p e below s args y 3 W9 Pre Post PostX)
    {b : Addr} {cellB : Cell} (hcell : T.heap[b]? = some cellB) (hobj : cellB.vm.isStatics = false) (hcls : s.vm.findClass C = some cellB.cls)
    {g : JFrame} (hg : g.method = m) (hsize : g.locals.size = c.maxLocals) {argsL rest : List Value} (hlen : ∀ sig, parseMethodDescriptor y.desc = some sig → argsL.length = sig.parameters.length)
    (hstack : g.stack = argsL.reverse ++ .ref b :: rest) (hW : 2 * g.monitorRoom + (rest.map fun v => v.category).sum ≤ W9) (hdg : decode c.code g.pc = .ok (.invokevirtual index, 3))
    (hpre : ∀ vm₁, s.WarmedH vm₁ → Pre ⟨T.setVm vm₁, locs, cells, slots⟩ (Value.ref b :: argsL).toArray) :
    (∃ (v : Option Value) (vm₁ : Vm) (B : Pt), s.WarmedH vm₁ ∧ Stand p l e R s m args below meth c B.U B.locs B.cells B.slots ∧ Post ⟨T.setVm vm₁, locs, cells, slots⟩ (Value.ref b :: argsL).toArray v B ∧
      ∀ target, Steps p.tables e below (B.U.setTop { g with pc := g.pc + 3, stack := v.toList ++ rest }) target → Steps p.tables e below (T.setTop g) target) ∨
    (∃ (q : Addr) (vm₁ : Vm) (B : Pt), s.WarmedH vm₁ ∧ Stand p l e R s m args below meth c B.U B.locs B.cells B.slots ∧ PostX ⟨T.setVm vm₁, locs, cells, slots⟩ (Value.ref b :: argsL).toArray q B ∧
      Steps p.tables e below (T.setTop g) ((B.U.setTop { g with stack := rest }).pushFrame (.throwing q))) := by
  obtain ⟨mk, methM, hnamed, hmethM, hstM, habM⟩ := Cond.instanceMethod_spec hinst
  obtain ⟨m8, methM', cM, hn8, hmethM', -, -, -, -, -, -, hsigM⟩ := Cond.codeWith_spec hcode
  cases Option.some.inj (hn8.symm.trans hnamed)
  cases hmethM.symm.trans hmethM'
  obtain ⟨c2, r2, m2, q1, q2, q3, q4, kP, hkP, hkPi⟩ := Cond.selects_spec hsel
  cases hcls.symm.trans q1
  cases (State.methodFound?_of_named hnamed hy).symm.trans q2
  cases hnamed.symm.trans q3
  have hselP : selectMethod e.platform s.vm cellB.cls mk = .method mk := by rw [Launch.admits_selectMethod X.admits]; exact q4
  obtain ⟨vm₁, X₁, hstep₁⟩ := X.invokevirtual hexec hown hlink hnamed hmethM hstM hkP hkPi hy (a := b) (cell := cellB) hcell
    (fun z h => by rw [h] at hobj; cases hobj) hselP hmethM habM hkP hkPi (g := g) hg (argsL := argsL) (rest := rest) (hlen _ hsigM) hstack hdg
  rcases hK m meth c ⟨T.setVm vm₁, locs, cells, slots⟩ { g with stack := rest } (.invokevirtual index) mk (Value.ref b :: argsL).toArray X₁ hg hsize hdg hW (X₁.named hnamed) (hpre vm₁ X₁.warmed) with ⟨v, B, X', hpost, hsteps⟩ | ⟨q, B, X', hpost, hsteps⟩
  · exact Or.inl ⟨v, vm₁, B, X₁.warmed, X', hpost, fun target h => hstep₁ _ fun acts => by rw [doInvoke_state]; exact hsteps.trans h⟩
  · exact Or.inr ⟨q, vm₁, B, X₁.warmed, X', hpost, hstep₁ _ fun acts => by rw [doInvoke_state]; exact hsteps⟩
theorem vx_callSX (X : Stand p l e R s m args below meth c T locs cells slots) (hexec : p.tables.exec = Jvm.exec) {own : String} {index : Nat} {y : MethodName} {bytes : ByteArray} {maxL : Nat} {ret : Option FieldType} {hh : List (Nat × Nat × Nat × Nat)}
    (hown : s.vm.findClass own = some m.cls) (hlink : (Cond.methodLink own index y).before args s = true) (hstat : (Cond.static y).before args s = true) (hinit : (Cond.initialized y.cls).before args s = true)
    (hcode : (Cond.codeWith y bytes maxL ret hh).before args s = true) (hy : y.cls ≠ "java/lang/invoke/MethodHandle" ∧ y.cls ≠ "java/lang/invoke/VarHandle")
    {W9 : Nat} {Pre : Pt → Array Value → Prop} {Post : Pt → Array Value → Option Value → Pt → Prop} {PostX : Pt → Array Value → Addr → Pt → Prop} (hK : vx_Back l R p e below s args y 3 W9 Pre Post PostX)
    {g : JFrame} (hg : g.method = m) (hsize : g.locals.size = c.maxLocals) {argsL rest : List Value} (hlen : ∀ sig, parseMethodDescriptor y.desc = some sig → argsL.length = sig.parameters.length)
    (hstack : g.stack = argsL.reverse ++ rest) (hW : 2 * g.monitorRoom + (rest.map fun v => v.category).sum ≤ W9) (hdg : decode c.code g.pc = .ok (.invokestatic index, 3))
    (hpre : ∀ vm₁, s.WarmedH vm₁ → Pre ⟨T.setVm vm₁, locs, cells, slots⟩ argsL.toArray) :
    (∃ (v : Option Value) (vm₁ : Vm) (B : Pt), s.WarmedH vm₁ ∧ Stand p l e R s m args below meth c B.U B.locs B.cells B.slots ∧ Post ⟨T.setVm vm₁, locs, cells, slots⟩ argsL.toArray v B ∧
      ∀ target, Steps p.tables e below (B.U.setTop { g with pc := g.pc + 3, stack := v.toList ++ rest }) target → Steps p.tables e below (T.setTop g) target) ∨
    (∃ (q : Addr) (vm₁ : Vm) (B : Pt), s.WarmedH vm₁ ∧ Stand p l e R s m args below meth c B.U B.locs B.cells B.slots ∧ PostX ⟨T.setVm vm₁, locs, cells, slots⟩ argsL.toArray q B ∧
      Steps p.tables e below (T.setTop g) ((B.U.setTop { g with stack := rest }).pushFrame (.throwing q))) := by
  obtain ⟨mk, methM, cM, hnamed, hmethM, -, -, -, -, -, -, hsigM⟩ := Cond.codeWith_spec hcode
  have hstatic : methM.isStatic = true := Cond.static_spec hnamed hmethM hstat
  obtain ⟨kP, hkP, -⟩ := className_of_methodNamed hnamed
  have hinitP : kP.init = .initialized := Cond.initialized_spec (findClass_of_methodNamed hnamed) hkP hinit
  obtain ⟨vm₁, X₁, hstep₁⟩ := X.invokestatic hexec hown hlink hnamed hmethM hstatic hkP hinitP hy (g := g) hg (argsL := argsL) (rest := rest) (hlen _ hsigM) hstack hdg
  rcases hK m meth c ⟨T.setVm vm₁, locs, cells, slots⟩ { g with stack := rest } (.invokestatic index) mk argsL.toArray X₁ hg hsize hdg hW (X₁.named hnamed) (hpre vm₁ X₁.warmed) with ⟨v, B, X', hpost, hsteps⟩ | ⟨q, B, X', hpost, hsteps⟩
  · exact Or.inl ⟨v, vm₁, B, X₁.warmed, X', hpost, fun target h => hstep₁ _ fun acts => by rw [doInvoke_state]; exact hsteps.trans h⟩
  · exact Or.inr ⟨q, vm₁, B, X₁.warmed, X', hpost, hstep₁ _ fun acts => by rw [doInvoke_state]; exact hsteps⟩
theorem vx_callVW (X : Stand p l e R s m args below meth c T locs cells slots) (hexec : p.tables.exec = Jvm.exec) {own C : String} {index : Nat} {y : MethodName} {bytes : ByteArray} {maxL : Nat} {ret : Option FieldType} {hh : List (Nat × Nat × Nat × Nat)}
    (hown : s.vm.findClass own = some m.cls) (hlink : (Cond.methodLink own index y).before args s = true) (hinst : (Cond.instanceMethod y).before args s = true) (hsel : (Cond.selects C y y).before args s = true)
    (hcode : (Cond.codeWith y bytes maxL ret hh).before args s = true) (hy : y.cls ≠ "java/lang/invoke/MethodHandle" ∧ y.cls ≠ "java/lang/invoke/VarHandle")
    {W9 : Nat} {Pre : Pt → Array Value → Prop} {Post : Pt → Array Value → Option Value → Pt → Prop} (hK : Back l R p e below s args y 3 W9 Pre Post)
    {b : Addr} {cellB : Cell} (hcell : T.heap[b]? = some cellB) (hobj : cellB.vm.isStatics = false) (hcls : s.vm.findClass C = some cellB.cls)
    {g : JFrame} (hg : g.method = m) (hsize : g.locals.size = c.maxLocals) {argsL rest : List Value} (hlen : ∀ sig, parseMethodDescriptor y.desc = some sig → argsL.length = sig.parameters.length)
    (hstack : g.stack = argsL.reverse ++ .ref b :: rest) (hW : 2 * g.monitorRoom + (rest.map fun v => v.category).sum ≤ W9) (hdg : decode c.code g.pc = .ok (.invokevirtual index, 3))
    (hpre : ∀ vm₁, s.WarmedH vm₁ → Pre ⟨T.setVm vm₁, locs, cells, slots⟩ (Value.ref b :: argsL).toArray) :
    ∃ (v : Option Value) (vm₁ : Vm) (B : Pt), s.WarmedH vm₁ ∧ Stand p l e R s m args below meth c B.U B.locs B.cells B.slots ∧ Post ⟨T.setVm vm₁, locs, cells, slots⟩ (Value.ref b :: argsL).toArray v B ∧
      ∀ target, Steps p.tables e below (B.U.setTop { g with pc := g.pc + 3, stack := v.toList ++ rest }) target → Steps p.tables e below (T.setTop g) target := by
  obtain ⟨mk, methM, hnamed, hmethM, hstM, habM⟩ := Cond.instanceMethod_spec hinst
  obtain ⟨m8, methM', cM, hn8, hmethM', -, -, -, -, -, -, hsigM⟩ := Cond.codeWith_spec hcode
  cases Option.some.inj (hn8.symm.trans hnamed)
  cases hmethM.symm.trans hmethM'
  obtain ⟨c2, r2, m2, q1, q2, q3, q4, kP, hkP, hkPi⟩ := Cond.selects_spec hsel
  cases hcls.symm.trans q1
  cases (State.methodFound?_of_named hnamed hy).symm.trans q2
  cases hnamed.symm.trans q3
  have hselP : selectMethod e.platform s.vm cellB.cls mk = .method mk := by rw [Launch.admits_selectMethod X.admits]; exact q4
  obtain ⟨vm₁, X₁, hstep₁⟩ := X.invokevirtual hexec hown hlink hnamed hmethM hstM hkP hkPi hy (a := b) (cell := cellB) hcell
    (fun z h => by rw [h] at hobj; cases hobj) hselP hmethM habM hkP hkPi (g := g) hg (argsL := argsL) (rest := rest) (hlen _ hsigM) hstack hdg
  obtain ⟨v, B, X', hpost, hsteps⟩ := hK m meth c ⟨T.setVm vm₁, locs, cells, slots⟩ { g with stack := rest } (.invokevirtual index) mk (Value.ref b :: argsL).toArray X₁ hg hsize hdg hW (X₁.named hnamed) (hpre vm₁ X₁.warmed)
  exact ⟨v, vm₁, B, X₁.warmed, X', hpost, fun target h => hstep₁ _ fun acts => by rw [doInvoke_state]; exact hsteps.trans h⟩
abbrev vx_CVW (R : Room) (s : State) (args : Array Value) (own C : String) (index : Nat) (y : MethodName) (bytes : ByteArray) (maxL : Nat) (ret : Option FieldType) (hh : List (Nat × Nat × Nat × Nat)) (ws : List Cond) (rm : Room) (mc ms n : Nat) : Prop :=
  (rm.cells = mc ∧ rm.slots = ms ∧ rm.frames + 1 ≤ R.frames ∧ 8 + (maxL + 11) + rm.locals ≤ R.locals ∧ (∀ w ∈ ws, ∀ (a' : Array Value) (U : State), s.WarmedH U.vm → w.before a' U = true) ∧ Cond.codeWith y bytes maxL ret hh ∈ ws) ∧
  (Cond.codeWith y bytes maxL ret hh).before args s = true ∧ (Cond.initialized y.cls).before args s = true ∧ (y.cls ≠ "java/lang/invoke/MethodHandle" ∧ y.cls ≠ "java/lang/invoke/VarHandle") ∧
  (∀ sig, parseMethodDescriptor y.desc = some sig → n = sig.parameters.length) ∧ (Cond.methodLink own index y).before args s = true ∧ (Cond.instanceMethod y).before args s = true ∧ (Cond.selects C y y).before args s = true
theorem vx_cwVW {own C : String} {index maxL mc ms : Nat} {y : MethodName} {bytes : ByteArray} {ret : Option FieldType} {hh : List (Nat × Nat × Nat × Nat)} {Ts ws ws' : List Cond} {rm : Room} (n : Nat) (ht : ∀ w ∈ Ts, w.before args s = true) (hT : GoodIn Ts (wsV own index C y ws)) (hw : ws = Cond.codeWith y bytes maxL ret hh :: ws') (hrc : rm.cells = mc) (hrs : rm.slots = ms)
    (hd : y.cls = C ∧ y.cls ≠ "java/lang/invoke/MethodHandle" ∧ y.cls ≠ "java/lang/invoke/VarHandle" ∧ (parseMethodDescriptor y.desc).map (fun d => d.parameters.length) = some n) (hR : rm.frames + 1 ≤ R.frames ∧ 8 + (maxL + 11) + rm.locals ≤ R.locals) :
    vx_CVW R s args own C index y bytes maxL ret hh ws rm mc ms n := by
  obtain ⟨hC, hd⟩ := hd
  subst hC
  have ok : ∀ w ∈ wsV own index y.cls y ws, w.before args s = true := fun w h => ht w (hT w h).1
  have hG : GoodIn Ts ws := fun w h => hT w (by unfold wsV; exact List.mem_append_right _ h)
  have hc : Cond.codeWith y bytes maxL ret hh ∈ ws := by rw [hw]; exact List.mem_cons_self
  refine ⟨⟨hrc, hrs, hR.1, hR.2, pay_in ht hG, hc⟩, ht _ (hG _ hc).1, ok _ (by simp [wsV]), ⟨hd.1, hd.2.1⟩, fun sig h => ?_, ok _ (by simp [wsV]), ok _ (by simp [wsV]), ok _ (by simp [wsV])⟩
  have h2 := hd.2.2
  rw [h] at h2
  exact (Option.some.inj h2).symm
theorem vx_runVW {y : MethodName} {bytes cc : ByteArray} {maxL nL mc ms n index : Nat} {ret : Option FieldType} {hh : List (Nat × Nat × Nat × Nat)} {ws : List Cond} {rm : Room} {Pc : Array Value → State → Prop} {Qc : Array Value → State → Outcome → State → Prop} {free : Addr → Prop} {Ts : List Cond} {own C : String} {b : Addr} {As rest : List Value} {g : JFrame}
    (S : CallFix p m c cc nL s args Ts own) (hM : Met l y ws rm Pc Qc mc ms free) (cw : vx_CVW R s args own C index y bytes maxL ret hh ws rm mc ms n) (hp : PreV s H C b Pc As)
    (hg : g.method = m) (hn : As.length = n) (hsize : g.locals.size = nL) (hstack : g.stack = As.reverse ++ .ref b :: rest) (hW : 2 * g.monitorRoom + (rest.map fun v => v.category).sum ≤ 8) (hdg : decode cc g.pc = .ok (.invokevirtual index, 3)) (hf : cells + mc ≤ R.cells ∧ slots + ms ≤ R.slots) :
    va_Run p l e R s m args below meth c H locs cells slots mc ms g rest (Qc (Value.ref b :: As).toArray) free := by
  obtain ⟨⟨hrc, hrs, hfr, hlo, hws, hcw⟩, hcode, hini, hy, hlen, hl, hin, hse⟩ := cw
  have hK : Back l R p e below s args y 3 8 (PreOf R mc ms Pc) (PostOf Qc mc ms free) := va_backW (hh := hh) (bytes := bytes) (maxL := maxL) (ret := ret) hM hp.1 hrc hrs hfr hlo hws hcw (fun a' U hW => word_at hW (Or.inl (by first | rfl | simp [Cond.onTables, Cond.keeps, Cond.steady])) hini)
  obtain ⟨hx, hb, hml, ho, -⟩ := S
  obtain ⟨-, ⟨cellB, hcB, hoB, hclB⟩, hPc⟩ := hp
  intro T hT X
  obtain ⟨v, vm₁, ⟨U', l2, c2, s2⟩, hW₁, X', ⟨g', mk, t, L, e1, e2, hq, h1, hL, h2, h3⟩, st⟩ := vx_callVW X hx (C := C) (hh := hh) (bytes := bytes) (maxL := maxL) (ret := ret) ho hl hin hse hcode hy hK (by rw [hT]; exact hcB) hoB hclB hg (hsize.trans hml.symm) (argsL := As) (rest := rest) (fun sig h => hn.trans (hlen sig h)) hstack hW (by rw [hb]; exact hdg)
    (fun vm₁ hW₁ => ⟨hf.1, hf.2, hPc (T.setVm vm₁) hT hW₁⟩)
  dsimp only [Pt.U, Pt.locs, Pt.cells, Pt.slots] at X' e1 e2 h1 h2 h3 st
  subst h1; subst h2; subst h3
  exact ⟨v, (T.setVm vm₁).calling g' mk (Value.ref b :: As).toArray, t, U', L, hT, X', hL, e1, e2, hq, st⟩
section
variable {y : MethodName} {bytes cc : ByteArray} {maxL nL mc ms n index : Nat} {ret : Option FieldType} {ws : List Cond} {rm : Room} {Pc : Array Value → State → Prop} {Qc : Array Value → State → Outcome → State → Prop} {XC : String → State → State → Prop} {free : Addr → Prop} {Ts : List Cond} {own C : String} {b : Addr} {As rest : List Value} {g : JFrame}
theorem vx_runVX {hh : List (Nat × Nat × Nat × Nat)} (S : CallFix p m c cc nL s args Ts own) (hM : vx_Met l y ws rm Pc Qc XC mc ms free) (cw : vx_CVW R s args own C index y bytes maxL ret hh ws rm mc ms n) (hp : PreV s H C b Pc As)
    (hg : g.method = m) (hn : As.length = n) (hsize : g.locals.size = nL) (hstack : g.stack = As.reverse ++ .ref b :: rest) (hW : 2 * g.monitorRoom + (rest.map fun v => v.category).sum ≤ 8) (hdg : decode cc g.pc = .ok (.invokevirtual index, 3)) (hf : cells + mc ≤ R.cells ∧ slots + ms ≤ R.slots) :
    vx_Run p l e R s m args below meth c H locs cells slots mc ms g rest (Qc (Value.ref b :: As).toArray) XC free := by
  obtain ⟨⟨hrc, hrs, hfr, hlo, hws, hcw⟩, hcode, hini, hy, hlen, hl, hin, hse⟩ := cw
  have hK : vx_Back l R p e below s args y 3 8 (PreOf R mc ms Pc) (PostOf Qc mc ms free) (vx_Post XC mc ms free) := vx_backW (hh := hh) (bytes := bytes) (maxL := maxL) (ret := ret) hM hp.1 hrc hrs hfr hlo hws hcw (fun a' U hW => word_at hW (Or.inl (by first | rfl | simp [Cond.onTables, Cond.keeps, Cond.steady])) hini)
  obtain ⟨hx, hb, hml, ho, -⟩ := S
  obtain ⟨-, ⟨cellB, hcB, hoB, hclB⟩, hPc⟩ := hp
  intro T hT X
  rcases vx_callVX X hx (C := C) (hh := hh) (bytes := bytes) (maxL := maxL) (ret := ret) ho hl hin hse hcode hy hK (by rw [hT]; exact hcB) hoB hclB hg (hsize.trans hml.symm) (argsL := As) (rest := rest) (fun sig h => hn.trans (hlen sig h)) hstack hW (by rw [hb]; exact hdg)
    (fun vm₁ hW₁ => ⟨hf.1, hf.2, hPc (T.setVm vm₁) hT hW₁⟩) with ⟨v, vm₁, ⟨U', l2, c2, s2⟩, hW₁, X', ⟨g', mk, t, L, e1, e2, hq, h1, hL, h2, h3⟩, st⟩ | ⟨q, vm₁, ⟨U', l2, c2, s2⟩, hW₁, X', ⟨g', mk, t, L, E, ce, e1, e2, hq, hce, hcv, hcl, h1, hL, h2, h3⟩, st⟩
  · dsimp only [Pt.U, Pt.locs, Pt.cells, Pt.slots] at X' e1 e2 h1 h2 h3 st
    subst h1; subst h2; subst h3
    exact Or.inl ⟨v, (T.setVm vm₁).calling g' mk (Value.ref b :: As).toArray, t, U', L, hT, X', hL, e1, e2, hq, st⟩
  · dsimp only [Pt.U, Pt.locs, Pt.cells, Pt.slots] at X' e1 e2 h1 h2 h3 st hcl
    subst h1; subst h2; subst h3
    exact Or.inr ⟨q, (T.setVm vm₁).calling g' mk (Value.ref b :: As).toArray, t, U', L, E, ce, hT, X', hL, e1, e2, hq, hce, hcv, vx_cls hW₁ hcl, st⟩
theorem vx_runSX {hh : List (Nat × Nat × Nat × Nat)} (S : CallFix p m c cc nL s args Ts own) (hM : vx_Met l y ws rm Pc Qc XC mc ms free) (cw : vx_CSW R s args own index y bytes maxL ret hh ws rm mc ms n) (hp : PreS s H Pc As)
    (hg : g.method = m) (hn : As.length = n) (hsize : g.locals.size = nL) (hstack : g.stack = As.reverse ++ rest) (hW : 2 * g.monitorRoom + (rest.map fun v => v.category).sum ≤ 8) (hdg : decode cc g.pc = .ok (.invokestatic index, 3)) (hf : cells + mc ≤ R.cells ∧ slots + ms ≤ R.slots) :
    vx_Run p l e R s m args below meth c H locs cells slots mc ms g rest (Qc As.toArray) XC free := by
  obtain ⟨⟨hrc, hrs, hfr, hlo, hws, hcw⟩, hcode, hini, hy, hlen, hl, hstt⟩ := cw
  have hK : vx_Back l R p e below s args y 3 8 (PreOf R mc ms Pc) (PostOf Qc mc ms free) (vx_Post XC mc ms free) := vx_backW (hh := hh) (bytes := bytes) (maxL := maxL) (ret := ret) hM hp.1 hrc hrs hfr hlo hws hcw (fun a' U hW => word_at hW (Or.inl (by first | rfl | simp [Cond.onTables, Cond.keeps, Cond.steady])) hini)
  obtain ⟨hx, hb, hml, ho, -⟩ := S
  intro T hT X
  rcases vx_callSX X hx (hh := hh) (bytes := bytes) (maxL := maxL) (ret := ret) ho hl hstt hini hcode hy hK hg (hsize.trans hml.symm) (argsL := As) (rest := rest) (fun sig h => hn.trans (hlen sig h)) hstack hW (by rw [hb]; exact hdg)
    (fun vm₁ hW₁ => ⟨hf.1, hf.2, hp.2 (T.setVm vm₁) hT hW₁⟩) with ⟨v, vm₁, ⟨U', l2, c2, s2⟩, hW₁, X', ⟨g', mk, t, L, e1, e2, hq, h1, hL, h2, h3⟩, st⟩ | ⟨q, vm₁, ⟨U', l2, c2, s2⟩, hW₁, X', ⟨g', mk, t, L, E, ce, e1, e2, hq, hce, hcv, hcl, h1, hL, h2, h3⟩, st⟩
  · dsimp only [Pt.U, Pt.locs, Pt.cells, Pt.slots] at X' e1 e2 h1 h2 h3 st
    subst h1; subst h2; subst h3
    exact Or.inl ⟨v, (T.setVm vm₁).calling g' mk As.toArray, t, U', L, hT, X', hL, e1, e2, hq, st⟩
  · dsimp only [Pt.U, Pt.locs, Pt.cells, Pt.slots] at X' e1 e2 h1 h2 h3 st hcl
    subst h1; subst h2; subst h3
    exact Or.inr ⟨q, (T.setVm vm₁).calling g' mk As.toArray, t, U', L, E, ce, hT, X', hL, e1, e2, hq, hce, hcv, vx_cls hW₁ hcl, st⟩
end
end VXH
theorem vx_ofWH {l : Launch} {y : MethodName} {ws ws' : List Cond} {rm : Room} {Pc : Array Value → State → Prop} {Qc : Array Value → State → Outcome → State → Prop} {XC : String → State → State → Prop} {mc ms : Nat} {free : Addr → Prop} {cc : ByteArray} {maxL : Nat} {ret : Option FieldType} {hh : List (Nat × Nat × Nat × Nat)}
    (hy : plainName y.cls = true) (hw : ws = Cond.codeWith y cc maxL ret hh :: ws')
    (body : ∀ p e s m args below meth c s₁, BodyLoose p l y (headSpec ws rm) cc maxL ret e s m args below meth c s₁ → c.maxLocals = maxL → Pc args s →
      W p l e (headSpec ws rm).room s m args below meth c s.heap [] 0 0 (vx_MQ below Qc XC args s mc ms free) (entryFrame m args maxL)) : vx_Met l y ws rm Pc Qc XC mc ms free := by
  refine MetFree.of_bodyS (code := cc) (maxLocals := maxL) (ret := ret) hy ?_ ?_
  · intro args s m h hn
    obtain ⟨m9, meth, c, hn9, h1, h2, h3, h4, -, h5, h6, -⟩ := Cond.codeWith_spec (atoms_spec (ws := ws) h _ (by rw [hw]; exact List.mem_cons_self))
    cases hn.symm.trans hn9
    exact ⟨meth, c, h1, h2, h3, h4, h5, h6⟩
  · intro p e s m args below meth c s₁ B hml hP _
    have hh0 : s₁.heap = s.heap := by rw [B.state]; rfl
    obtain ⟨t, a1, o, b1, b2, b3⟩ := body p e s m args below meth c s₁ B hml hP s₁ hh0 (Stand.of_body B)
    exact ⟨t, o, a1, b1, b2, b3⟩
end
section
-- the environment that every contract of mine asks: one list of words for all methods, what lies beside them, the two statics of Throwable
theorem z_mem {w : Cond} (i : Nat) (h : lw_tbl[i]? = some w) : w ∈ lw_tbl := List.mem_of_getElem? h
def z_T : List Cond := lw_tbl.filter goodWord
theorem z_in {w : Cond} (h : w ∈ lw_tbl) (hg : goodWord w = true) : w ∈ z_T := List.mem_filter.mpr ⟨h, hg⟩
theorem z_lw {w : Cond} (h : w ∈ z_T) : w ∈ lw_tbl := (List.mem_filter.mp h).1
theorem z_gi {big ws : List Cond} (hb : ∀ w ∈ z_T, w ∈ big) (h : ∀ w ∈ ws, w ∈ z_T) : GoodIn big ws := fun w hw => ⟨hb w (h w hw), good_of_word (List.mem_filter.mp (h w hw)).2⟩
theorem z_cons {c0 : Cond} : ∀ w ∈ z_T, w ∈ c0 :: z_T := fun w h => List.mem_cons_of_mem _ h
theorem z_all {ws : List Cond} {c1 : Cond} (h : c1 ∈ z_T) : ∀ w ∈ c1 :: z_T, w ∈ z_T := fun w hw => (List.mem_cons.mp hw).elim (fun e => by rw [e]; exact h) id
theorem z_gV {big : List Cond} {own C : String} {index : Nat} {y : MethodName} {c1 : Cond} (hb : ∀ w ∈ z_T, w ∈ big) (h1 : Cond.methodLink own index y ∈ z_T) (h2 : Cond.instanceMethod y ∈ z_T) (h3 : Cond.selects C y y ∈ z_T) (h4 : Cond.initialized C ∈ z_T) (h5 : c1 ∈ z_T) : GoodIn big (wsV own index C y (c1 :: z_T)) := by
  refine z_gi hb fun w hw => ?_
  unfold wsV at hw
  simp only [List.cons_append, List.nil_append, List.mem_cons] at hw
  rcases hw with rfl | rfl | rfl | rfl | rfl | h
  · exact h1
  · exact h2
  · exact h3
  · exact h4
  · exact h5
  · exact h
theorem z_gS {big : List Cond} {own : String} {index : Nat} {y : MethodName} {c1 : Cond} (hb : ∀ w ∈ z_T, w ∈ big) (h1 : Cond.methodLink own index y ∈ z_T) (h2 : Cond.static y ∈ z_T) (h4 : Cond.initialized y.cls ∈ z_T) (h5 : c1 ∈ z_T) : GoodIn big (va_wsS own index y (c1 :: z_T)) := by
  refine z_gi hb fun w hw => ?_
  unfold va_wsS at hw
  simp only [List.cons_append, List.nil_append, List.mem_cons] at hw
  rcases hw with rfl | rfl | rfl | rfl | h
  · exact h1
  · exact h2
  · exact h4
  · exact h5
  · exact h
theorem z_gI {big : List Cond} {c1 : Cond} (hb : ∀ w ∈ z_T, w ∈ big) (h5 : c1 ∈ z_T) : GoodIn big (c1 :: z_T) := z_gi hb fun w hw => (List.mem_cons.mp hw).elim (fun e => by rw [e]; exact h5) id
-- words of the tables that stay, but not by the kit's list
def z_isN : Cond → Bool
  | .fieldLinkNest .. => true
  | .methodLinkNest .. => true
  | .castable .. => true
  | .declares _ => true
  | _ => false
def z_NW : List Cond := lw_tbl.filter z_isN
theorem z_inN {w : Cond} (h : w ∈ lw_tbl) (hg : z_isN w = true) : w ∈ z_NW := List.mem_filter.mpr ⟨h, hg⟩
theorem z_warm {w : Cond} {s U : State} (hg : z_isN w = true) (hW : s.WarmedH U.vm) (h : va_Nw w s) : va_Nw w U := by
  cases w <;> first | (cases hg; done) | exact va_Nw.warmF hW h | exact va_Nw.warmM hW h | exact va_Nw.warmC hW h | exact va_Nw.warmD hW h
theorem z_tab {w : Cond} (hg : z_isN w = true) : w.onTables = true := by
  cases w <;> first | (cases hg; done) | rfl
def z_AO : List String := ["QuestionText$Question", "QuestionText$Kind", "QuestionText$Edition"]
-- the String constants: the class, its entry, the text
def z_ST : List (String × Nat × String) := [("QuestionText", 43, "1 to 8 bytes at once"), ("QuestionText", 53, "a text has at most 400 bytes"), ("QuestionText$TextReader", 131, "wrong here"), ("java/util/Arrays", 337, " > "), ("QuestionText", 67, "the text is wrong"), ("QuestionText", 69, "there are 8 editions"), ("QuestionText", 91, "no such edition"), ("QuestionText", 97, "no such kind in the edition"), ("QuestionText", 121, "no question is asked"), ("QuestionText", 129, "not an answer to this question"), ("QuestionText", 143, "40 questions were asked"), ("QuestionText", 153, "there is no call"), ("QuestionText", 159, "below 0"), ("QuestionText", 178, "no such question, language or byte")]
def z_E (A : Nat → Prop) (U : State) : Prop := (∀ w ∈ z_NW, va_Nw w U) ∧ (∀ C ∈ z_AO, va_AO C U) ∧ (∀ q ∈ z_ST, ∃ a : Nat, vk_R q.1 q.2.1 q.2.2 a U) ∧
  vx_Zq Bundle.tN "UNASSIGNED_STACK" Bundle.steD A U U.heap ∧ vx_Zq Bundle.tN "SUPPRESSED_SENTINEL" Bundle.listD A U U.heap ∧ va_Nc "java/lang/IllegalStateException" "java/lang/IllegalArgumentException" U
theorem z_E.blind {A : Nat → Prop} {U : State} {g : JFrame} {mk : MethodId} {a : Array Value} (h : z_E A U) : z_E A (U.calling g mk a) := by
  obtain ⟨h1, h2, h3, h4, h5, h6⟩ := h
  refine ⟨fun w hw => va_Nw.same (u := U) (U := U.calling g mk a) (z_tab (List.mem_filter.mp hw).2) rfl (h1 w hw), fun C hC => va_AO.moved (u := U) (U := U.calling g mk a) (Vm.Alike.refl U.vm) (h2 C hC), fun q hq => ?_, vx_Zq.moved (u := U) (U := U.calling g mk a) (Vm.Alike.refl U.vm) h4, vx_Zq.moved (u := U) (U := U.calling g mk a) (Vm.Alike.refl U.vm) h5, va_Nc.moved (u := U) (U := U.calling g mk a) (Vm.Alike.refl U.vm) h6⟩
  obtain ⟨x, hx⟩ := h3 q hq
  exact ⟨x, vk_R.same rfl hx⟩
theorem z_E.call {A B : Nat → Prop} {s U : State} {H : Heap} {locs : List Loc} (h : z_E A s) (hS : va_S A s.heap H locs) (hAB : ∀ q, B q → A q) (hU : U.heap = H) (hW : s.WarmedH U.vm) : z_E B U := by
  obtain ⟨h1, h2, h3, h4, h5, h6⟩ := h
  refine ⟨fun w hw => z_warm (List.mem_filter.mp hw).2 hW (h1 w hw), fun C hC => va_AO.moved hW.alike (h2 C hC), fun q hq => ?_, ?_, ?_, va_Nc.moved hW.alike h6⟩
  · obtain ⟨x, hx⟩ := h3 q hq
    exact ⟨x, vk_R.warm hW hx⟩
  · exact vx_Zq.narrow (vx_Zq.moved hW.alike (vx_Zq.kept h4 (fun a h1 h2 => by rw [hU]; exact hS.2.1 a h1 h2))) hAB
  · exact vx_Zq.narrow (vx_Zq.moved hW.alike (vx_Zq.kept h5 (fun a h1 h2 => by rw [hU]; exact hS.2.1 a h1 h2))) hAB
theorem z_E.sub {A B : Nat → Prop} {s : State} (h : z_E A s) (hAB : ∀ q, B q → A q) : z_E B s := ⟨h.1, h.2.1, h.2.2.1, vx_Zq.narrow h.2.2.2.1 hAB, vx_Zq.narrow h.2.2.2.2.1 hAB, h.2.2.2.2.2⟩
-- array classes by their places
abbrev z_ty (k : Nat → ClassId) : List (ClassId × FieldType) := [(k 0, .int), (k 1, .long), (k 2, .boolean), (k 3, .object "QuestionText$Question"), (k 4, .object "QuestionText$Kind"), (k 5, .object "QuestionText$Edition")]
section ZN
variable {p : Program} {l : Launch} {e : Env} {R : Room} {s : State} {m : MethodId} {args : Array Value} {below : List Frame} {meth : Method} {c : Code} {H : Heap} {locs : List Loc} {cells slots : Nat} {Q : State → Prop}
variable {cc : ByteArray} {pc : Nat} {ls : Array Slot} {rest : List Value} {D : va_G} {cl : List vw_C} {A : Nat → Prop} {tys : List (ClassId × FieldType)} {ws : va_W} {H0 : Heap}
theorem z_newa (hexec : p.tables.exec = Jvm.exec) (hb : c.code = cc) {atype : ArrayType} (harr : (Cond.arrayClass (newarray.typeOf atype)).before args s = true) {ty : FieldType} (hty : newarray.typeOf atype = ty) (hK : va_K D cl tys s) (hP : va_P D cl ws H) (hD : va_D A ws) (hS : va_S A H0 H locs) (hA : ∀ q, H0.size ≤ q → A q)
    (t0 : Nat) {cB : ClassId} (ht : tys[t0]? = some (cB, ty)) {n : Int32} {N' : Nat} {a0 : vp_A} (ha : ∀ cA : ClassId, vp_cell cA a0 = arrV cA N' (fun _ => defaultValue ty)) (hn : ¬ n < 0) (hN : n.toNatClampNeg = N') (hbytes : N' * componentBytes ty ≤ 536870912) (hcells : cells + 1 ≤ R.cells) (hslots : slots + N' ≤ R.slots) (hdg : decode cc pc = .ok (.newarray atype, 2))
    (kk : ∀ (q : Nat) (H1 : Heap), va_P D cl (ws ++ [(q, .inl (cB, a0))]) H1 → va_D A (ws ++ [(q, .inl (cB, a0))]) → va_S A H0 H1 locs →
      W p l e R s m args below meth c H1 locs (cells + 1) (slots + N') Q (F0 m (pc + 2) ls (.ref q :: rest))) : W p l e R s m args below meth c H locs cells slots Q (F0 m pc ls (.int n :: rest)) := by
  refine va_newa hexec hb harr hty hK hP hD hS hA ha hn hN hbytes hcells hslots hdg fun q cA H1 hK1 hP1 hD1 hS1 => ?_
  have h1 : va_RA s cA ty := (hK1.2 tys.length (cA, ty) (by rw [List.getElem?_append_right (Nat.le_refl _)]; simp)).2
  have h2 : va_RA s cB ty := (hK.2 t0 _ ht).2
  have e1 : s.vm.findClass ("[" ++ ty.toString) = some cA := by
    rw [← hty] at h1 ⊢
    cases atype <;> exact h1
  have e2 : s.vm.findClass ("[" ++ ty.toString) = some cB := by
    rw [← hty] at h2 ⊢
    cases atype <;> exact h2
  cases Option.some.inj (e1.symm.trans e2)
  exact kk q H1 hP1 hD1 hS1
theorem z_newq (hexec : p.tables.exec = Jvm.exec) (hb : c.code = cc) {own C : String} {index : Nat} (hown : s.vm.findClass own = some m.cls) (hclink : (Cond.classLink own index C).before args s = true) (hover : va_AO C s) (hK : va_K D cl tys s) (hP : va_P D cl ws H) (hD : va_D A ws) (hS : va_S A H0 H locs) (hA : ∀ q, H0.size ≤ q → A q)
    (t0 : Nat) {cB : ClassId} (ht : tys[t0]? = some (cB, .object C)) {n : Int32} {N' : Nat} (hn : ¬ n < 0) (hN : n.toNatClampNeg = N') (hbytes : N' * 4 ≤ 536870912) (hcells : cells + 1 ≤ R.cells) (hslots : slots + N' ≤ R.slots) (hdg : decode cc pc = .ok (.anewarray index, 3))
    (kk : ∀ (q : Nat) (H1 : Heap), va_P D cl (ws ++ [(q, .inl (cB, N', .inr (.inr (.inr (.inr (fun _ => none))))))]) H1 → va_D A (ws ++ [(q, .inl (cB, N', .inr (.inr (.inr (.inr (fun _ => none))))))]) → va_S A H0 H1 locs →
      W p l e R s m args below meth c H1 locs (cells + 1) (slots + N') Q (F0 m (pc + 3) ls (.ref q :: rest))) : W p l e R s m args below meth c H locs cells slots Q (F0 m pc ls (.int n :: rest)) := by
  refine va_newq hexec hb hown hclink hover hK hP hD hS hA hn hN hbytes hcells hslots hdg fun q cA H1 hK1 hP1 hD1 hS1 => ?_
  have h1 : va_RA s cA (.object C) := (hK1.2 tys.length (cA, .object C) (by rw [List.getElem?_append_right (Nat.le_refl _)]; simp)).2
  have h2 : va_RA s cB (.object C) := (hK.2 t0 _ ht).2
  obtain ⟨k1, c1, a1, a2, a3, a4⟩ := h1
  obtain ⟨k2, c2, b1, b2, b3, b4⟩ := h2
  cases Option.some.inj (a4.symm.trans b4)
  exact kk q H1 hP1 hD1 hS1
end ZN
end
section
-- names: classes, their fields, methods, the places of the words (printed by wip/whole/names.py)
def R_Q : String := "QuestionText"
def F_Q : u_T := fun k => match k with
  | 0 => ("QuestionText", "reader", "LQuestionText$TextReader;", true)
  | 1 => ("QuestionText", "editions", "[LQuestionText$Edition;", true)
  | 2 => ("QuestionText", "call", "LQuestionText$Call;", true)
  | 3 => ("QuestionText", "chosen", "LQuestionText$Edition;", false)
  | 4 => ("QuestionText", "made", "I", false)
  | _ => ("QuestionText", "wrongPlace", "I", false)
def t_Q : Nat → FieldType := fun k => match k with
  | 0 => .object "QuestionText$TextReader"
  | 1 => .array (.object "QuestionText$Edition")
  | 2 => .object "QuestionText$Call"
  | 3 => .object "QuestionText$Edition"
  | 4 => .int
  | _ => .int
theorem n_Q : ∀ a, a < 6 → ∀ b, b < 6 → a ≠ b → (F_Q a).2.1 ≠ (F_Q b).2.1 := by decide +kernel
theorem o_Q : ∀ k, k < 6 → parseFieldDescriptor (F_Q k).2.2.1 = some (t_Q k) := by decide +kernel
theorem i_Q : ∀ w ∈ u_ws R_Q F_Q 6, w ∈ z_T := by
  intro w hw
  obtain ⟨k, hk, rfl⟩ := List.mem_map.mp hw
  have hk := List.mem_range.mp hk
  match k, hk with
  | 0, _ => exact z_in (z_mem 183 (by decide +kernel)) rfl
  | 1, _ => exact z_in (z_mem 185 (by decide +kernel)) rfl
  | 2, _ => exact z_in (z_mem 187 (by decide +kernel)) rfl
  | 3, _ => exact z_in (z_mem 189 (by decide +kernel)) rfl
  | 4, _ => exact z_in (z_mem 191 (by decide +kernel)) rfl
  | 5, _ => exact z_in (z_mem 193 (by decide +kernel)) rfl
  | k + 6, h => exact absurd h (by omega)
def R_TR : String := "QuestionText$TextReader"
def F_TR : u_T := fun k => match k with
  | 0 => ("QuestionText$TextReader", "tape", "[I", true)
  | 1 => ("QuestionText$TextReader", "questions", "[LQuestionText$Question;", true)
  | 2 => ("QuestionText$TextReader", "kinds", "[LQuestionText$Kind;", true)
  | 3 => ("QuestionText$TextReader", "length", "I", false)
  | _ => ("QuestionText$TextReader", "at", "I", false)
def t_TR : Nat → FieldType := fun k => match k with
  | 0 => .array .int
  | 1 => .array (.object "QuestionText$Question")
  | 2 => .array (.object "QuestionText$Kind")
  | 3 => .int
  | _ => .int
theorem n_TR : ∀ a, a < 5 → ∀ b, b < 5 → a ≠ b → (F_TR a).2.1 ≠ (F_TR b).2.1 := by decide +kernel
theorem o_TR : ∀ k, k < 5 → parseFieldDescriptor (F_TR k).2.2.1 = some (t_TR k) := by decide +kernel
theorem i_TR : ∀ w ∈ u_ws R_TR F_TR 5, w ∈ z_T := by
  intro w hw
  obtain ⟨k, hk, rfl⟩ := List.mem_map.mp hw
  have hk := List.mem_range.mp hk
  match k, hk with
  | 0, _ => exact z_in (z_mem 98 (by decide +kernel)) rfl
  | 1, _ => exact z_in (z_mem 100 (by decide +kernel)) rfl
  | 2, _ => exact z_in (z_mem 102 (by decide +kernel)) rfl
  | 3, _ => exact z_in (z_mem 104 (by decide +kernel)) rfl
  | 4, _ => exact z_in (z_mem 106 (by decide +kernel)) rfl
  | k + 5, h => exact absurd h (by omega)
def R_Ca : String := "QuestionText$Call"
def F_Ca : u_T := fun k => match k with
  | 0 => ("QuestionText$Call", "asked", "[I", true)
  | 1 => ("QuestionText$Call", "latest", "[I", true)
  | 2 => ("QuestionText$Call", "count", "I", false)
  | 3 => ("QuestionText$Call", "now", "I", false)
  | 4 => ("QuestionText$Call", "points", "I", false)
  | _ => ("QuestionText$Call", "kind", "I", false)
def t_Ca : Nat → FieldType := fun k => match k with
  | 0 => .array .int
  | 1 => .array .int
  | 2 => .int
  | 3 => .int
  | 4 => .int
  | _ => .int
theorem n_Ca : ∀ a, a < 6 → ∀ b, b < 6 → a ≠ b → (F_Ca a).2.1 ≠ (F_Ca b).2.1 := by decide +kernel
theorem o_Ca : ∀ k, k < 6 → parseFieldDescriptor (F_Ca k).2.2.1 = some (t_Ca k) := by decide +kernel
theorem i_Ca : ∀ w ∈ u_ws R_Ca F_Ca 6, w ∈ z_T := by
  intro w hw
  obtain ⟨k, hk, rfl⟩ := List.mem_map.mp hw
  have hk := List.mem_range.mp hk
  match k, hk with
  | 0, _ => exact z_in (z_mem 132 (by decide +kernel)) rfl
  | 1, _ => exact z_in (z_mem 134 (by decide +kernel)) rfl
  | 2, _ => exact z_in (z_mem 136 (by decide +kernel)) rfl
  | 3, _ => exact z_in (z_mem 138 (by decide +kernel)) rfl
  | 4, _ => exact z_in (z_mem 140 (by decide +kernel)) rfl
  | 5, _ => exact z_in (z_mem 142 (by decide +kernel)) rfl
  | k + 6, h => exact absurd h (by omega)
def R_Ed : String := "QuestionText$Edition"
def F_Ed : u_T := fun k => match k with
  | 0 => ("QuestionText$Edition", "questions", "[LQuestionText$Question;", true)
  | 1 => ("QuestionText$Edition", "kinds", "[LQuestionText$Kind;", true)
  | 2 => ("QuestionText$Edition", "size", "I", false)
  | 3 => ("QuestionText$Edition", "onLoop", "J", false)
  | 4 => ("QuestionText$Edition", "unreached", "J", false)
  | _ => ("QuestionText$Edition", "withoutEnd", "J", false)
def t_Ed : Nat → FieldType := fun k => match k with
  | 0 => .array (.object "QuestionText$Question")
  | 1 => .array (.object "QuestionText$Kind")
  | 2 => .int
  | 3 => .long
  | 4 => .long
  | _ => .long
theorem n_Ed : ∀ a, a < 6 → ∀ b, b < 6 → a ≠ b → (F_Ed a).2.1 ≠ (F_Ed b).2.1 := by decide +kernel
theorem o_Ed : ∀ k, k < 6 → parseFieldDescriptor (F_Ed k).2.2.1 = some (t_Ed k) := by decide +kernel
theorem i_Ed : ∀ w ∈ u_ws R_Ed F_Ed 6, w ∈ z_T := by
  intro w hw
  obtain ⟨k, hk, rfl⟩ := List.mem_map.mp hw
  have hk := List.mem_range.mp hk
  match k, hk with
  | 0, _ => exact z_in (z_mem 164 (by decide +kernel)) rfl
  | 1, _ => exact z_in (z_mem 166 (by decide +kernel)) rfl
  | 2, _ => exact z_in (z_mem 168 (by decide +kernel)) rfl
  | 3, _ => exact z_in (z_mem 170 (by decide +kernel)) rfl
  | 4, _ => exact z_in (z_mem 172 (by decide +kernel)) rfl
  | 5, _ => exact z_in (z_mem 174 (by decide +kernel)) rfl
  | k + 6, h => exact absurd h (by omega)
def R_Mo : String := "QuestionTextModel"
def F_Mo : u_T := fun k => match k with
  | 0 => ("QuestionTextModel", "thrown", "I", false)
  | 1 => ("QuestionTextModel", "taped", "I", false)
  | 2 => ("QuestionTextModel", "tape", "[I", true)
  | 3 => ("QuestionTextModel", "place", "I", false)
  | 4 => ("QuestionTextModel", "editions", "I", false)
  | 5 => ("QuestionTextModel", "chosen", "I", false)
  | 6 => ("QuestionTextModel", "is", "[Z", true)
  | 7 => ("QuestionTextModel", "must", "[Z", true)
  | 8 => ("QuestionTextModel", "low", "[I", true)
  | 9 => ("QuestionTextModel", "high", "[I", true)
  | 10 => ("QuestionTextModel", "length", "[I", true)
  | 11 => ("QuestionTextModel", "letter", "[I", true)
  | 12 => ("QuestionTextModel", "jumps", "[I", true)
  | 13 => ("QuestionTextModel", "jump", "[I", true)
  | 14 => ("QuestionTextModel", "begins", "[I", true)
  | 15 => ("QuestionTextModel", "base", "[I", true)
  | 16 => ("QuestionTextModel", "conditions", "[I", true)
  | 17 => ("QuestionTextModel", "condition", "[I", true)
  | 18 => ("QuestionTextModel", "at", "I", false)
  | 19 => ("QuestionTextModel", "wrong", "I", false)
  | 20 => ("QuestionTextModel", "digits", "I", false)
  | 21 => ("QuestionTextModel", "into", "I", false)
  | 22 => ("QuestionTextModel", "toldQuestion", "[Z", true)
  | 23 => ("QuestionTextModel", "toldKind", "[Z", true)
  | 24 => ("QuestionTextModel", "kind", "I", false)
  | 25 => ("QuestionTextModel", "now", "I", false)
  | 26 => ("QuestionTextModel", "points", "I", false)
  | 27 => ("QuestionTextModel", "many", "I", false)
  | 28 => ("QuestionTextModel", "asked", "[I", true)
  | 29 => ("QuestionTextModel", "answer", "[I", true)
  | _ => ("QuestionTextModel", "mark", "[Z", true)
def t_Mo : Nat → FieldType := fun k => match k with
  | 0 => .int
  | 1 => .int
  | 2 => .array .int
  | 3 => .int
  | 4 => .int
  | 5 => .int
  | 6 => .array .boolean
  | 7 => .array .boolean
  | 8 => .array .int
  | 9 => .array .int
  | 10 => .array .int
  | 11 => .array .int
  | 12 => .array .int
  | 13 => .array .int
  | 14 => .array .int
  | 15 => .array .int
  | 16 => .array .int
  | 17 => .array .int
  | 18 => .int
  | 19 => .int
  | 20 => .int
  | 21 => .int
  | 22 => .array .boolean
  | 23 => .array .boolean
  | 24 => .int
  | 25 => .int
  | 26 => .int
  | 27 => .int
  | 28 => .array .int
  | 29 => .array .int
  | _ => .array .boolean
theorem n_Mo : ∀ a, a < 31 → ∀ b, b < 31 → a ≠ b → (F_Mo a).2.1 ≠ (F_Mo b).2.1 := by decide +kernel
theorem o_Mo : ∀ k, k < 31 → parseFieldDescriptor (F_Mo k).2.2.1 = some (t_Mo k) := by decide +kernel
theorem i_Mo : ∀ w ∈ u_ws R_Mo F_Mo 31, w ∈ z_T := by
  intro w hw
  obtain ⟨k, hk, rfl⟩ := List.mem_map.mp hw
  have hk := List.mem_range.mp hk
  match k, hk with
  | 0, _ => exact z_in (z_mem 1044 (by decide +kernel)) rfl
  | 1, _ => exact z_in (z_mem 1046 (by decide +kernel)) rfl
  | 2, _ => exact z_in (z_mem 1048 (by decide +kernel)) rfl
  | 3, _ => exact z_in (z_mem 1050 (by decide +kernel)) rfl
  | 4, _ => exact z_in (z_mem 1052 (by decide +kernel)) rfl
  | 5, _ => exact z_in (z_mem 1054 (by decide +kernel)) rfl
  | 6, _ => exact z_in (z_mem 1056 (by decide +kernel)) rfl
  | 7, _ => exact z_in (z_mem 1058 (by decide +kernel)) rfl
  | 8, _ => exact z_in (z_mem 1060 (by decide +kernel)) rfl
  | 9, _ => exact z_in (z_mem 1062 (by decide +kernel)) rfl
  | 10, _ => exact z_in (z_mem 1064 (by decide +kernel)) rfl
  | 11, _ => exact z_in (z_mem 1066 (by decide +kernel)) rfl
  | 12, _ => exact z_in (z_mem 1068 (by decide +kernel)) rfl
  | 13, _ => exact z_in (z_mem 1070 (by decide +kernel)) rfl
  | 14, _ => exact z_in (z_mem 1072 (by decide +kernel)) rfl
  | 15, _ => exact z_in (z_mem 1074 (by decide +kernel)) rfl
  | 16, _ => exact z_in (z_mem 1076 (by decide +kernel)) rfl
  | 17, _ => exact z_in (z_mem 1078 (by decide +kernel)) rfl
  | 18, _ => exact z_in (z_mem 1080 (by decide +kernel)) rfl
  | 19, _ => exact z_in (z_mem 1082 (by decide +kernel)) rfl
  | 20, _ => exact z_in (z_mem 1084 (by decide +kernel)) rfl
  | 21, _ => exact z_in (z_mem 1086 (by decide +kernel)) rfl
  | 22, _ => exact z_in (z_mem 1088 (by decide +kernel)) rfl
  | 23, _ => exact z_in (z_mem 1090 (by decide +kernel)) rfl
  | 24, _ => exact z_in (z_mem 1092 (by decide +kernel)) rfl
  | 25, _ => exact z_in (z_mem 1094 (by decide +kernel)) rfl
  | 26, _ => exact z_in (z_mem 1096 (by decide +kernel)) rfl
  | 27, _ => exact z_in (z_mem 1098 (by decide +kernel)) rfl
  | 28, _ => exact z_in (z_mem 1100 (by decide +kernel)) rfl
  | 29, _ => exact z_in (z_mem 1102 (by decide +kernel)) rfl
  | 30, _ => exact z_in (z_mem 1104 (by decide +kernel)) rfl
  | k + 31, h => exact absurd h (by omega)
def R_Ki : String := "QuestionText$Kind"
def F_Ki : u_T := fun k => match k with
  | 0 => ("QuestionText$Kind", "first", "I", true)
  | 1 => ("QuestionText$Kind", "priority", "I", true)
  | _ => ("QuestionText$Kind", "conditions", "Ljava/util/List;", true)
def t_Ki : Nat → FieldType := fun k => match k with
  | 0 => .int
  | 1 => .int
  | _ => .object "java/util/List"
theorem n_Ki : ∀ a, a < 3 → ∀ b, b < 3 → a ≠ b → (F_Ki a).2.1 ≠ (F_Ki b).2.1 := by decide +kernel
theorem o_Ki : ∀ k, k < 3 → parseFieldDescriptor (F_Ki k).2.2.1 = some (t_Ki k) := by decide +kernel
theorem i_Ki : ∀ w ∈ u_ws R_Ki F_Ki 3, w ∈ z_T := by
  intro w hw
  obtain ⟨k, hk, rfl⟩ := List.mem_map.mp hw
  have hk := List.mem_range.mp hk
  match k, hk with
  | 0, _ => exact z_in (z_mem 810 (by decide +kernel)) rfl
  | 1, _ => exact z_in (z_mem 812 (by decide +kernel)) rfl
  | 2, _ => exact z_in (z_mem 814 (by decide +kernel)) rfl
  | k + 3, h => exact absurd h (by omega)
def R_Qu : String := "QuestionText$Question"
def F_Qu : u_T := fun k => match k with
  | 0 => ("QuestionText$Question", "must", "Z", true)
  | 1 => ("QuestionText$Question", "span", "LQuestionText$Span;", true)
  | 2 => ("QuestionText$Question", "words", "[I", true)
  | 3 => ("QuestionText$Question", "otherWords", "[I", true)
  | 4 => ("QuestionText$Question", "jumps", "Ljava/util/List;", true)
  | _ => ("QuestionText$Question", "lastJump", "LQuestionText$Jump;", true)
def t_Qu : Nat → FieldType := fun k => match k with
  | 0 => .boolean
  | 1 => .object "QuestionText$Span"
  | 2 => .array .int
  | 3 => .array .int
  | 4 => .object "java/util/List"
  | _ => .object "QuestionText$Jump"
theorem n_Qu : ∀ a, a < 6 → ∀ b, b < 6 → a ≠ b → (F_Qu a).2.1 ≠ (F_Qu b).2.1 := by decide +kernel
theorem o_Qu : ∀ k, k < 6 → parseFieldDescriptor (F_Qu k).2.2.1 = some (t_Qu k) := by decide +kernel
theorem i_Qu : ∀ w ∈ u_ws R_Qu F_Qu 6, w ∈ z_T := by
  intro w hw
  obtain ⟨k, hk, rfl⟩ := List.mem_map.mp hw
  have hk := List.mem_range.mp hk
  match k, hk with
  | 0, _ => exact z_in (z_mem 745 (by decide +kernel)) rfl
  | 1, _ => exact z_in (z_mem 747 (by decide +kernel)) rfl
  | 2, _ => exact z_in (z_mem 749 (by decide +kernel)) rfl
  | 3, _ => exact z_in (z_mem 751 (by decide +kernel)) rfl
  | 4, _ => exact z_in (z_mem 753 (by decide +kernel)) rfl
  | 5, _ => exact z_in (z_mem 755 (by decide +kernel)) rfl
  | k + 6, h => exact absurd h (by omega)
def R_Sp : String := "QuestionText$Span"
def F_Sp : u_T := fun k => match k with
  | 0 => ("QuestionText$Span", "low", "I", true)
  | _ => ("QuestionText$Span", "high", "I", true)
def t_Sp : Nat → FieldType := fun k => match k with
  | 0 => .int
  | _ => .int
theorem n_Sp : ∀ a, a < 2 → ∀ b, b < 2 → a ≠ b → (F_Sp a).2.1 ≠ (F_Sp b).2.1 := by decide +kernel
theorem o_Sp : ∀ k, k < 2 → parseFieldDescriptor (F_Sp k).2.2.1 = some (t_Sp k) := by decide +kernel
theorem i_Sp : ∀ w ∈ u_ws R_Sp F_Sp 2, w ∈ z_T := by
  intro w hw
  obtain ⟨k, hk, rfl⟩ := List.mem_map.mp hw
  have hk := List.mem_range.mp hk
  match k, hk with
  | 0, _ => exact z_in (z_mem 364 (by decide +kernel)) rfl
  | 1, _ => exact z_in (z_mem 366 (by decide +kernel)) rfl
  | k + 2, h => exact absurd h (by omega)
def R_Ju : String := "QuestionText$Jump"
def F_Ju : u_T := fun k => match k with
  | 0 => ("QuestionText$Jump", "span", "LQuestionText$Span;", true)
  | 1 => ("QuestionText$Jump", "target", "I", true)
  | _ => ("QuestionText$Jump", "points", "I", true)
def t_Ju : Nat → FieldType := fun k => match k with
  | 0 => .object "QuestionText$Span"
  | 1 => .int
  | _ => .int
theorem n_Ju : ∀ a, a < 3 → ∀ b, b < 3 → a ≠ b → (F_Ju a).2.1 ≠ (F_Ju b).2.1 := by decide +kernel
theorem o_Ju : ∀ k, k < 3 → parseFieldDescriptor (F_Ju k).2.2.1 = some (t_Ju k) := by decide +kernel
theorem i_Ju : ∀ w ∈ u_ws R_Ju F_Ju 3, w ∈ z_T := by
  intro w hw
  obtain ⟨k, hk, rfl⟩ := List.mem_map.mp hw
  have hk := List.mem_range.mp hk
  match k, hk with
  | 0, _ => exact z_in (z_mem 669 (by decide +kernel)) rfl
  | 1, _ => exact z_in (z_mem 671 (by decide +kernel)) rfl
  | 2, _ => exact z_in (z_mem 673 (by decide +kernel)) rfl
  | k + 3, h => exact absurd h (by omega)
def R_Te : String := "QuestionText$Term"
def F_Te : u_T := fun k => match k with
  | 0 => ("QuestionText$Term", "about", "I", true)
  | 1 => ("QuestionText$Term", "relation", "I", true)
  | _ => ("QuestionText$Term", "value", "I", true)
def t_Te : Nat → FieldType := fun k => match k with
  | 0 => .int
  | 1 => .int
  | _ => .int
theorem n_Te : ∀ a, a < 3 → ∀ b, b < 3 → a ≠ b → (F_Te a).2.1 ≠ (F_Te b).2.1 := by decide +kernel
theorem o_Te : ∀ k, k < 3 → parseFieldDescriptor (F_Te k).2.2.1 = some (t_Te k) := by decide +kernel
theorem i_Te : ∀ w ∈ u_ws R_Te F_Te 3, w ∈ z_T := by
  intro w hw
  obtain ⟨k, hk, rfl⟩ := List.mem_map.mp hw
  have hk := List.mem_range.mp hk
  match k, hk with
  | 0, _ => exact z_in (z_mem 779 (by decide +kernel)) rfl
  | 1, _ => exact z_in (z_mem 781 (by decide +kernel)) rfl
  | 2, _ => exact z_in (z_mem 783 (by decide +kernel)) rfl
  | k + 3, h => exact absurd h (by omega)
def R_Co : String := "QuestionText$Condition"
def F_Co : u_T := fun k => match k with
  | 0 => ("QuestionText$Condition", "terms", "Ljava/util/List;", true)
  | _ => ("QuestionText$Condition", "priority", "I", true)
def t_Co : Nat → FieldType := fun k => match k with
  | 0 => .object "java/util/List"
  | _ => .int
theorem n_Co : ∀ a, a < 2 → ∀ b, b < 2 → a ≠ b → (F_Co a).2.1 ≠ (F_Co b).2.1 := by decide +kernel
theorem o_Co : ∀ k, k < 2 → parseFieldDescriptor (F_Co k).2.2.1 = some (t_Co k) := by decide +kernel
theorem i_Co : ∀ w ∈ u_ws R_Co F_Co 2, w ∈ z_T := by
  intro w hw
  obtain ⟨k, hk, rfl⟩ := List.mem_map.mp hw
  have hk := List.mem_range.mp hk
  match k, hk with
  | 0, _ => exact z_in (z_mem 795 (by decide +kernel)) rfl
  | 1, _ => exact z_in (z_mem 797 (by decide +kernel)) rfl
  | k + 2, h => exact absurd h (by omega)
abbrev classes : List vw_C := [(R_Q, F_Q, 6), (R_TR, F_TR, 5), (R_Ca, F_Ca, 6), (R_Ed, F_Ed, 6), (R_Mo, F_Mo, 31), (R_Ki, F_Ki, 3), (R_Qu, F_Qu, 6), (R_Sp, F_Sp, 2), (R_Ju, F_Ju, 3), (R_Te, F_Te, 3), (R_Co, F_Co, 2)]
end
section
-- methods and the places of their words (printed by wip/whole/names.py)
abbrev b_Q_init : ByteArray := prog_1_method_1_code
abbrev y_Q_init : MethodName := ⟨"QuestionText", "<init>", "()V"⟩
theorem m_Q_init : Cond.code y_Q_init b_Q_init 1 none ∈ z_T := z_in (z_mem 76 (by decide +kernel)) rfl
abbrev b_TR_init : ByteArray := prog_10_method_1_code
abbrev y_TR_init : MethodName := ⟨"QuestionText$TextReader", "<init>", "()V"⟩
theorem m_TR_init : Cond.code y_TR_init b_TR_init 1 none ∈ z_T := z_in (z_mem 84 (by decide +kernel)) rfl
abbrev b_Ca_init : ByteArray := prog_2_method_1_code
abbrev y_Ca_init : MethodName := ⟨"QuestionText$Call", "<init>", "()V"⟩
theorem m_Ca_init : Cond.code y_Ca_init b_Ca_init 1 none ∈ z_T := z_in (z_mem 116 (by decide +kernel)) rfl
abbrev b_Ed_init : ByteArray := prog_4_method_1_code
abbrev y_Ed_init : MethodName := ⟨"QuestionText$Edition", "<init>", "()V"⟩
theorem m_Ed_init : Cond.code y_Ed_init b_Ed_init 1 none ∈ z_T := z_in (z_mem 148 (by decide +kernel)) rfl
abbrev b_Q_place : ByteArray := prog_1_method_4_code
abbrev y_Q_place : MethodName := ⟨"QuestionText", "place", "()I"⟩
theorem m_Q_place : Cond.code y_Q_place b_Q_place 1 (some .int) ∈ z_T := z_in (z_mem 199 (by decide +kernel)) rfl
abbrev b_Q_kind : ByteArray := prog_1_method_8_code
abbrev y_Q_kind : MethodName := ⟨"QuestionText", "kind", "()I"⟩
theorem m_Q_kind : Cond.code y_Q_kind b_Q_kind 1 (some .int) ∈ z_T := z_in (z_mem 203 (by decide +kernel)) rfl
abbrev b_La_sign : ByteArray := method_3_code
abbrev y_La_sign : MethodName := ⟨"QuestionTextLaw", "sign", "(LQuestionText;JI[J)I"⟩
theorem m_La_sign : Cond.codeWith y_La_sign b_La_sign 6 (some .int) [((0), (11), (14), (13)), ((0), (11), (18), (15))] ∈ z_T := z_in (z_mem 206 (by decide +kernel)) rfl
abbrev b_Q_sign : ByteArray := prog_1_method_2_code
abbrev y_Q_sign : MethodName := ⟨"QuestionText", "sign", "(JI)I"⟩
theorem m_Q_sign : Cond.code y_Q_sign b_Q_sign 5 (some .int) ∈ z_T := z_in (z_mem 212 (by decide +kernel)) rfl
abbrev b_TR_add : ByteArray := prog_10_method_2_code
abbrev y_TR_add : MethodName := ⟨"QuestionText$TextReader", "add", "(I)V"⟩
theorem m_TR_add : Cond.code y_TR_add b_TR_add 2 none ∈ z_T := z_in (z_mem 299 (by decide +kernel)) rfl
abbrev b_La_read : ByteArray := method_4_code
abbrev y_La_read : MethodName := ⟨"QuestionTextLaw", "read", "(LQuestionText;[J)I"⟩
theorem m_La_read : Cond.codeWith y_La_read b_La_read 3 (some .int) [((0), (8), (11), (13)), ((0), (8), (14), (15))] ∈ z_T := z_in (z_mem 302 (by decide +kernel)) rfl
abbrev b_Q_read : ByteArray := prog_1_method_3_code
abbrev y_Q_read : MethodName := ⟨"QuestionText", "read", "()I"⟩
theorem m_Q_read : Cond.code y_Q_read b_Q_read 2 (some .int) ∈ z_T := z_in (z_mem 306 (by decide +kernel)) rfl
abbrev b_Ca_clear : ByteArray := prog_2_method_2_code
abbrev y_Ca_clear : MethodName := ⟨"QuestionText$Call", "clear", "()V"⟩
theorem m_Ca_clear : Cond.code y_Ca_clear b_Ca_clear 1 none ∈ z_T := z_in (z_mem 310 (by decide +kernel)) rfl
abbrev b_Ar_fill : ByteArray := prog_32_method_103_code
abbrev y_Ar_fill : MethodName := ⟨"java/util/Arrays", "fill", "([II)V"⟩
theorem m_Ar_fill : Cond.code y_Ar_fill b_Ar_fill 4 none ∈ z_T := z_in (z_mem 313 (by decide +kernel)) rfl
abbrev b_TR_readTape : ByteArray := prog_10_method_3_code
abbrev y_TR_readTape : MethodName := ⟨"QuestionText$TextReader", "readTape", "()I"⟩
theorem m_TR_readTape : Cond.codeWith y_TR_readTape b_TR_readTape 3 (some .int) [((11), (60), (63), (55))] ∈ z_T := z_in (z_mem 317 (by decide +kernel)) rfl
abbrev b_TR_forgetRows : ByteArray := prog_10_method_4_code
abbrev y_TR_forgetRows : MethodName := ⟨"QuestionText$TextReader", "forgetRows", "()V"⟩
theorem m_TR_forgetRows : Cond.code y_TR_forgetRows b_TR_forgetRows 2 none ∈ z_T := z_in (z_mem 322 (by decide +kernel)) rfl
abbrev b_TR_nextSign : ByteArray := prog_10_method_15_code
abbrev y_TR_nextSign : MethodName := ⟨"QuestionText$TextReader", "nextSign", "()I"⟩
theorem m_TR_nextSign : Cond.code y_TR_nextSign b_TR_nextSign 1 (some .int) ∈ z_T := z_in (z_mem 326 (by decide +kernel)) rfl
abbrev b_TR_took : ByteArray := prog_10_method_14_code
abbrev y_TR_took : MethodName := ⟨"QuestionText$TextReader", "took", "(I)Z"⟩
theorem m_TR_took : Cond.code y_TR_took b_TR_took 2 (some .boolean) ∈ z_T := z_in (z_mem 330 (by decide +kernel)) rfl
abbrev b_TR_readQuestion : ByteArray := prog_10_method_5_code
abbrev y_TR_readQuestion : MethodName := ⟨"QuestionText$TextReader", "readQuestion", "()V"⟩
theorem m_TR_readQuestion : Cond.code y_TR_readQuestion b_TR_readQuestion 8 none ∈ z_T := z_in (z_mem 334 (by decide +kernel)) rfl
abbrev b_TR_readNumber : ByteArray := prog_10_method_12_code
abbrev y_TR_readNumber : MethodName := ⟨"QuestionText$TextReader", "readNumber", "(II)I"⟩
theorem m_TR_readNumber : Cond.code y_TR_readNumber b_TR_readNumber 6 (some .int) ∈ z_T := z_in (z_mem 338 (by decide +kernel)) rfl
abbrev b_TR_isDigit : ByteArray := prog_10_method_17_code
abbrev y_TR_isDigit : MethodName := ⟨"QuestionText$TextReader", "isDigit", "(I)Z"⟩
theorem m_TR_isDigit : Cond.code y_TR_isDigit b_TR_isDigit 1 (some .boolean) ∈ z_T := z_in (z_mem 341 (by decide +kernel)) rfl
abbrev b_TR_fail : ByteArray := prog_10_method_16_code
abbrev y_TR_fail : MethodName := ⟨"QuestionText$TextReader", "fail", "(I)V"⟩
theorem m_TR_fail : Cond.code y_TR_fail b_TR_fail 2 none ∈ z_T := z_in (z_mem 345 (by decide +kernel)) rfl
abbrev b_TR_take : ByteArray := prog_10_method_13_code
abbrev y_TR_take : MethodName := ⟨"QuestionText$TextReader", "take", "(I)V"⟩
theorem m_TR_take : Cond.code y_TR_take b_TR_take 2 none ∈ z_T := z_in (z_mem 351 (by decide +kernel)) rfl
abbrev b_TR_readSpan : ByteArray := prog_10_method_6_code
abbrev y_TR_readSpan : MethodName := ⟨"QuestionText$TextReader", "readSpan", "()LQuestionText$Span;"⟩
theorem m_TR_readSpan : Cond.code y_TR_readSpan b_TR_readSpan 2 (some (.object "QuestionText$Span")) ∈ z_T := z_in (z_mem 355 (by decide +kernel)) rfl
abbrev b_Sp_init : ByteArray := prog_8_method_1_code
abbrev y_Sp_init : MethodName := ⟨"QuestionText$Span", "<init>", "(II)V"⟩
theorem m_Sp_init : Cond.code y_Sp_init b_Sp_init 3 none ∈ z_T := z_in (z_mem 360 (by decide +kernel)) rfl
abbrev b_TR_readWords : ByteArray := prog_10_method_7_code
abbrev y_TR_readWords : MethodName := ⟨"QuestionText$TextReader", "readWords", "()[I"⟩
theorem m_TR_readWords : Cond.code y_TR_readWords b_TR_readWords 2 (some (.array .int)) ∈ z_T := z_in (z_mem 372 (by decide +kernel)) rfl
abbrev b_TR_isWordByte : ByteArray := prog_10_method_18_code
abbrev y_TR_isWordByte : MethodName := ⟨"QuestionText$TextReader", "isWordByte", "(I)Z"⟩
theorem m_TR_isWordByte : Cond.code y_TR_isWordByte b_TR_isWordByte 1 (some .boolean) ∈ z_T := z_in (z_mem 375 (by decide +kernel)) rfl
abbrev b_TR_readJump : ByteArray := prog_10_method_8_code
abbrev y_TR_readJump : MethodName := ⟨"QuestionText$TextReader", "readJump", "(LQuestionText$Span;)LQuestionText$Jump;"⟩
theorem m_TR_readJump : Cond.code y_TR_readJump b_TR_readJump 4 (some (.object "QuestionText$Jump")) ∈ z_T := z_in (z_mem 655 (by decide +kernel)) rfl
abbrev b_Ju_init : ByteArray := prog_5_method_1_code
abbrev y_Ju_init : MethodName := ⟨"QuestionText$Jump", "<init>", "(LQuestionText$Span;II)V"⟩
theorem m_Ju_init : Cond.code y_Ju_init b_Ju_init 4 none ∈ z_T := z_in (z_mem 660 (by decide +kernel)) rfl
abbrev b_Qu_init : ByteArray := prog_7_method_1_code
abbrev y_Qu_init : MethodName := ⟨"QuestionText$Question", "<init>", "(ZLQuestionText$Span;[I[ILjava/util/List;LQuestionText$Jump;)V"⟩
theorem m_Qu_init : Cond.code y_Qu_init b_Qu_init 7 none ∈ z_T := z_in (z_mem 733 (by decide +kernel)) rfl
abbrev b_TR_readKind : ByteArray := prog_10_method_9_code
abbrev y_TR_readKind : MethodName := ⟨"QuestionText$TextReader", "readKind", "()V"⟩
theorem m_TR_readKind : Cond.code y_TR_readKind b_TR_readKind 6 none ∈ z_T := z_in (z_mem 761 (by decide +kernel)) rfl
abbrev b_TR_readCondition : ByteArray := prog_10_method_10_code
abbrev y_TR_readCondition : MethodName := ⟨"QuestionText$TextReader", "readCondition", "()LQuestionText$Condition;"⟩
theorem m_TR_readCondition : Cond.code y_TR_readCondition b_TR_readCondition 3 (some (.object "QuestionText$Condition")) ∈ z_T := z_in (z_mem 765 (by decide +kernel)) rfl
abbrev b_TR_readTerm : ByteArray := prog_10_method_11_code
abbrev y_TR_readTerm : MethodName := ⟨"QuestionText$TextReader", "readTerm", "()LQuestionText$Term;"⟩
theorem m_TR_readTerm : Cond.code y_TR_readTerm b_TR_readTerm 3 (some (.object "QuestionText$Term")) ∈ z_T := z_in (z_mem 769 (by decide +kernel)) rfl
abbrev b_Te_init : ByteArray := prog_9_method_1_code
abbrev y_Te_init : MethodName := ⟨"QuestionText$Term", "<init>", "(III)V"⟩
theorem m_Te_init : Cond.code y_Te_init b_Te_init 4 none ∈ z_T := z_in (z_mem 774 (by decide +kernel)) rfl
abbrev b_Co_init : ByteArray := prog_3_method_1_code
abbrev y_Co_init : MethodName := ⟨"QuestionText$Condition", "<init>", "(Ljava/util/List;I)V"⟩
theorem m_Co_init : Cond.code y_Co_init b_Co_init 3 none ∈ z_T := z_in (z_mem 790 (by decide +kernel)) rfl
abbrev b_Ki_init : ByteArray := prog_6_method_1_code
abbrev y_Ki_init : MethodName := ⟨"QuestionText$Kind", "<init>", "(IILjava/util/List;)V"⟩
theorem m_Ki_init : Cond.code y_Ki_init b_Ki_init 4 none ∈ z_T := z_in (z_mem 803 (by decide +kernel)) rfl
abbrev b_Ed_putRows : ByteArray := prog_4_method_5_code
abbrev y_Ed_putRows : MethodName := ⟨"QuestionText$Edition", "putRows", "([LQuestionText$Question;[LQuestionText$Kind;)V"⟩
theorem m_Ed_putRows : Cond.code y_Ed_putRows b_Ed_putRows 4 none ∈ z_T := z_in (z_mem 822 (by decide +kernel)) rfl
abbrev b_Ed_study : ByteArray := prog_4_method_6_code
abbrev y_Ed_study : MethodName := ⟨"QuestionText$Edition", "study", "()V"⟩
theorem m_Ed_study : Cond.code y_Ed_study b_Ed_study 6 none ∈ z_T := z_in (z_mem 826 (by decide +kernel)) rfl
abbrev b_Ed_waysByJumps : ByteArray := prog_4_method_7_code
abbrev y_Ed_waysByJumps : MethodName := ⟨"QuestionText$Edition", "waysByJumps", "()[J"⟩
theorem m_Ed_waysByJumps : Cond.code y_Ed_waysByJumps b_Ed_waysByJumps 4 (some (.array .long)) ∈ z_T := z_in (z_mem 830 (by decide +kernel)) rfl
abbrev b_Ed_targetsOf : ByteArray := prog_4_method_8_code
abbrev y_Ed_targetsOf : MethodName := ⟨"QuestionText$Edition", "targetsOf", "(LQuestionText$Question;)J"⟩
theorem m_Ed_targetsOf : Cond.code y_Ed_targetsOf b_Ed_targetsOf 5 (some .long) ∈ z_T := z_in (z_mem 834 (by decide +kernel)) rfl
abbrev b_Ed_asNext : ByteArray := prog_4_method_4_code
abbrev y_Ed_asNext : MethodName := ⟨"QuestionText$Edition", "asNext", "(I)I"⟩
theorem m_Ed_asNext : Cond.code y_Ed_asNext b_Ed_asNext 2 (some .int) ∈ z_T := z_in (z_mem 838 (by decide +kernel)) rfl
abbrev b_Ed_questionAt : ByteArray := prog_4_method_2_code
abbrev y_Ed_questionAt : MethodName := ⟨"QuestionText$Edition", "questionAt", "(I)LQuestionText$Question;"⟩
theorem m_Ed_questionAt : Cond.code y_Ed_questionAt b_Ed_questionAt 2 (some (.object "QuestionText$Question")) ∈ z_T := z_in (z_mem 842 (by decide +kernel)) rfl
abbrev b_Q_hasMember : ByteArray := prog_1_method_17_code
abbrev y_Q_hasMember : MethodName := ⟨"QuestionText", "hasMember", "(JI)Z"⟩
theorem m_Q_hasMember : Cond.code y_Q_hasMember b_Q_hasMember 3 (some .boolean) ∈ z_T := z_in (z_mem 874 (by decide +kernel)) rfl
abbrev b_La_edition : ByteArray := method_5_code
abbrev y_La_edition : MethodName := ⟨"QuestionTextLaw", "edition", "(LQuestionText;I[J)I"⟩
theorem m_La_edition : Cond.codeWith y_La_edition b_La_edition 4 (some .int) [((0), (9), (12), (13))] ∈ z_T := z_in (z_mem 878 (by decide +kernel)) rfl
abbrev b_Q_edition : ByteArray := prog_1_method_5_code
abbrev y_Q_edition : MethodName := ⟨"QuestionText", "edition", "(I)I"⟩
theorem m_Q_edition : Cond.code y_Q_edition b_Q_edition 2 (some .int) ∈ z_T := z_in (z_mem 882 (by decide +kernel)) rfl
abbrev b_La_first : ByteArray := method_6_code
abbrev y_La_first : MethodName := ⟨"QuestionTextLaw", "first", "(LQuestionText;I[J)I"⟩
theorem m_La_first : Cond.codeWith y_La_first b_La_first 4 (some .int) [((0), (9), (12), (13))] ∈ z_T := z_in (z_mem 886 (by decide +kernel)) rfl
abbrev b_Q_first : ByteArray := prog_1_method_6_code
abbrev y_Q_first : MethodName := ⟨"QuestionText", "first", "(I)I"⟩
theorem m_Q_first : Cond.code y_Q_first b_Q_first 3 (some .int) ∈ z_T := z_in (z_mem 890 (by decide +kernel)) rfl
abbrev b_Ed_kindAt : ByteArray := prog_4_method_3_code
abbrev y_Ed_kindAt : MethodName := ⟨"QuestionText$Edition", "kindAt", "(I)LQuestionText$Kind;"⟩
theorem m_Ed_kindAt : Cond.code y_Ed_kindAt b_Ed_kindAt 2 (some (.object "QuestionText$Kind")) ∈ z_T := z_in (z_mem 894 (by decide +kernel)) rfl
abbrev b_Ca_ask : ByteArray := prog_2_method_3_code
abbrev y_Ca_ask : MethodName := ⟨"QuestionText$Call", "ask", "(I)V"⟩
theorem m_Ca_ask : Cond.code y_Ca_ask b_Ca_ask 2 none ∈ z_T := z_in (z_mem 900 (by decide +kernel)) rfl
abbrev b_La_answer : ByteArray := method_7_code
abbrev y_La_answer : MethodName := ⟨"QuestionTextLaw", "answer", "(LQuestionText;I[J)I"⟩
theorem m_La_answer : Cond.codeWith y_La_answer b_La_answer 4 (some .int) [((0), (9), (12), (13)), ((0), (9), (15), (15))] ∈ z_T := z_in (z_mem 903 (by decide +kernel)) rfl
abbrev b_Q_answer : ByteArray := prog_1_method_7_code
abbrev y_Q_answer : MethodName := ⟨"QuestionText", "answer", "(I)I"⟩
theorem m_Q_answer : Cond.code y_Q_answer b_Q_answer 5 (some .int) ∈ z_T := z_in (z_mem 907 (by decide +kernel)) rfl
abbrev b_Qu_allows : ByteArray := prog_7_method_2_code
abbrev y_Qu_allows : MethodName := ⟨"QuestionText$Question", "allows", "(I)Z"⟩
theorem m_Qu_allows : Cond.code y_Qu_allows b_Qu_allows 2 (some .boolean) ∈ z_T := z_in (z_mem 913 (by decide +kernel)) rfl
abbrev b_Sp_has : ByteArray := prog_8_method_2_code
abbrev y_Sp_has : MethodName := ⟨"QuestionText$Span", "has", "(I)Z"⟩
theorem m_Sp_has : Cond.code y_Sp_has b_Sp_has 2 (some .boolean) ∈ z_T := z_in (z_mem 917 (by decide +kernel)) rfl
abbrev b_Qu_jumpFor : ByteArray := prog_7_method_3_code
abbrev y_Qu_jumpFor : MethodName := ⟨"QuestionText$Question", "jumpFor", "(I)LQuestionText$Jump;"⟩
theorem m_Qu_jumpFor : Cond.code y_Qu_jumpFor b_Qu_jumpFor 3 (some (.object "QuestionText$Jump")) ∈ z_T := z_in (z_mem 922 (by decide +kernel)) rfl
abbrev b_La_priority : ByteArray := method_8_code
abbrev y_La_priority : MethodName := ⟨"QuestionTextLaw", "priority", "(LQuestionText;[J)I"⟩
theorem m_La_priority : Cond.codeWith y_La_priority b_La_priority 3 (some .int) [((0), (8), (11), (15))] ∈ z_T := z_in (z_mem 931 (by decide +kernel)) rfl
abbrev b_Q_priority : ByteArray := prog_1_method_9_code
abbrev y_Q_priority : MethodName := ⟨"QuestionText", "priority", "()I"⟩
theorem m_Q_priority : Cond.code y_Q_priority b_Q_priority 2 (some .int) ∈ z_T := z_in (z_mem 935 (by decide +kernel)) rfl
abbrev b_Ki_priorityOf : ByteArray := prog_6_method_2_code
abbrev y_Ki_priorityOf : MethodName := ⟨"QuestionText$Kind", "priorityOf", "(LQuestionText$Call;)I"⟩
theorem m_Ki_priorityOf : Cond.code y_Ki_priorityOf b_Ki_priorityOf 3 (some .int) ∈ z_T := z_in (z_mem 940 (by decide +kernel)) rfl
abbrev b_Co_holds : ByteArray := prog_3_method_2_code
abbrev y_Co_holds : MethodName := ⟨"QuestionText$Condition", "holds", "(LQuestionText$Call;)Z"⟩
theorem m_Co_holds : Cond.code y_Co_holds b_Co_holds 3 (some .boolean) ∈ z_T := z_in (z_mem 949 (by decide +kernel)) rfl
abbrev b_Te_holds : ByteArray := prog_9_method_2_code
abbrev y_Te_holds : MethodName := ⟨"QuestionText$Term", "holds", "(LQuestionText$Call;)Z"⟩
theorem m_Te_holds : Cond.code y_Te_holds b_Te_holds 3 (some .boolean) ∈ z_T := z_in (z_mem 958 (by decide +kernel)) rfl
abbrev b_La_points : ByteArray := method_9_code
abbrev y_La_points : MethodName := ⟨"QuestionTextLaw", "points", "(LQuestionText;[J)I"⟩
theorem m_La_points : Cond.codeWith y_La_points b_La_points 3 (some .int) [((0), (8), (11), (15))] ∈ z_T := z_in (z_mem 961 (by decide +kernel)) rfl
abbrev b_Q_points : ByteArray := prog_1_method_10_code
abbrev y_Q_points : MethodName := ⟨"QuestionText", "points", "()I"⟩
theorem m_Q_points : Cond.code y_Q_points b_Q_points 1 (some .int) ∈ z_T := z_in (z_mem 965 (by decide +kernel)) rfl
abbrev b_La_asked : ByteArray := method_10_code
abbrev y_La_asked : MethodName := ⟨"QuestionTextLaw", "asked", "(LQuestionText;I[J)I"⟩
theorem m_La_asked : Cond.codeWith y_La_asked b_La_asked 4 (some .int) [((0), (9), (12), (13))] ∈ z_T := z_in (z_mem 968 (by decide +kernel)) rfl
abbrev b_Q_asked : ByteArray := prog_1_method_11_code
abbrev y_Q_asked : MethodName := ⟨"QuestionText", "asked", "(I)I"⟩
theorem m_Q_asked : Cond.code y_Q_asked b_Q_asked 2 (some .int) ∈ z_T := z_in (z_mem 972 (by decide +kernel)) rfl
abbrev b_La_loop : ByteArray := method_11_code
abbrev y_La_loop : MethodName := ⟨"QuestionTextLaw", "loop", "(LQuestionText;I[J)I"⟩
theorem m_La_loop : Cond.codeWith y_La_loop b_La_loop 4 (some .int) [((0), (9), (12), (13))] ∈ z_T := z_in (z_mem 976 (by decide +kernel)) rfl
abbrev b_Q_loop : ByteArray := prog_1_method_12_code
abbrev y_Q_loop : MethodName := ⟨"QuestionText", "loop", "(I)I"⟩
theorem m_Q_loop : Cond.code y_Q_loop b_Q_loop 2 (some .int) ∈ z_T := z_in (z_mem 980 (by decide +kernel)) rfl
abbrev b_Q_memberOf : ByteArray := prog_1_method_16_code
abbrev y_Q_memberOf : MethodName := ⟨"QuestionText", "memberOf", "(JI)I"⟩
theorem m_Q_memberOf : Cond.code y_Q_memberOf b_Q_memberOf 5 (some .int) ∈ z_T := z_in (z_mem 983 (by decide +kernel)) rfl
abbrev b_La_never : ByteArray := method_12_code
abbrev y_La_never : MethodName := ⟨"QuestionTextLaw", "never", "(LQuestionText;I[J)I"⟩
theorem m_La_never : Cond.codeWith y_La_never b_La_never 4 (some .int) [((0), (9), (12), (13))] ∈ z_T := z_in (z_mem 987 (by decide +kernel)) rfl
abbrev b_Q_never : ByteArray := prog_1_method_13_code
abbrev y_Q_never : MethodName := ⟨"QuestionText", "never", "(I)I"⟩
theorem m_Q_never : Cond.code y_Q_never b_Q_never 2 (some .int) ∈ z_T := z_in (z_mem 991 (by decide +kernel)) rfl
abbrev b_La_endless : ByteArray := method_13_code
abbrev y_La_endless : MethodName := ⟨"QuestionTextLaw", "endless", "(LQuestionText;I[J)I"⟩
theorem m_La_endless : Cond.codeWith y_La_endless b_La_endless 4 (some .int) [((0), (9), (12), (13))] ∈ z_T := z_in (z_mem 994 (by decide +kernel)) rfl
abbrev b_Q_endless : ByteArray := prog_1_method_14_code
abbrev y_Q_endless : MethodName := ⟨"QuestionText", "endless", "(I)I"⟩
theorem m_Q_endless : Cond.code y_Q_endless b_Q_endless 2 (some .int) ∈ z_T := z_in (z_mem 998 (by decide +kernel)) rfl
abbrev b_La_word : ByteArray := method_14_code
abbrev y_La_word : MethodName := ⟨"QuestionTextLaw", "word", "(LQuestionText;III[J)I"⟩
theorem m_La_word : Cond.codeWith y_La_word b_La_word 6 (some .int) [((0), (12), (15), (13))] ∈ z_T := z_in (z_mem 1001 (by decide +kernel)) rfl
abbrev b_Q_word : ByteArray := prog_1_method_15_code
abbrev y_Q_word : MethodName := ⟨"QuestionText", "word", "(III)I"⟩
theorem m_Q_word : Cond.code y_Q_word b_Q_word 6 (some .int) ∈ z_T := z_in (z_mem 1005 (by decide +kernel)) rfl
abbrev b_Mo_init : ByteArray := prog_12_method_1_code
abbrev y_Mo_init : MethodName := ⟨"QuestionTextModel", "<init>", "()V"⟩
theorem m_Mo_init : Cond.code y_Mo_init b_Mo_init 1 none ∈ z_T := z_in (z_mem 1011 (by decide +kernel)) rfl
abbrev b_Mo_thrown : ByteArray := prog_12_method_2_code
abbrev y_Mo_thrown : MethodName := ⟨"QuestionTextModel", "thrown", "()I"⟩
theorem m_Mo_thrown : Cond.code y_Mo_thrown b_Mo_thrown 1 (some .int) ∈ z_T := z_in (z_mem 1111 (by decide +kernel)) rfl
abbrev b_Mo_sign : ByteArray := prog_12_method_5_code
abbrev y_Mo_sign : MethodName := ⟨"QuestionTextModel", "sign", "(JI)I"⟩
theorem m_Mo_sign : Cond.code y_Mo_sign b_Mo_sign 5 (some .int) ∈ z_T := z_in (z_mem 1115 (by decide +kernel)) rfl
abbrev b_Mo_in : ByteArray := prog_12_method_3_code
abbrev y_Mo_in : MethodName := ⟨"QuestionTextModel", "in", "(III)Z"⟩
theorem m_Mo_in : Cond.code y_Mo_in b_Mo_in 3 (some .boolean) ∈ z_T := z_in (z_mem 1118 (by decide +kernel)) rfl
abbrev b_Mo_read : ByteArray := prog_12_method_20_code
abbrev y_Mo_read : MethodName := ⟨"QuestionTextModel", "read", "()I"⟩
theorem m_Mo_read : Cond.code y_Mo_read b_Mo_read 2 (some .int) ∈ z_T := z_in (z_mem 1122 (by decide +kernel)) rfl
abbrev b_Mo_copy : ByteArray := prog_12_method_18_code
abbrev y_Mo_copy : MethodName := ⟨"QuestionTextModel", "copy", "(II)V"⟩
theorem m_Mo_copy : Cond.code y_Mo_copy b_Mo_copy 8 none ∈ z_T := z_in (z_mem 1126 (by decide +kernel)) rfl
abbrev b_Mo_see : ByteArray := prog_12_method_7_code
abbrev y_Mo_see : MethodName := ⟨"QuestionTextModel", "see", "()I"⟩
theorem m_Mo_see : Cond.code y_Mo_see b_Mo_see 1 (some .int) ∈ z_T := z_in (z_mem 1130 (by decide +kernel)) rfl
abbrev b_Mo_here : ByteArray := prog_12_method_6_code
abbrev y_Mo_here : MethodName := ⟨"QuestionTextModel", "here", "()I"⟩
theorem m_Mo_here : Cond.code y_Mo_here b_Mo_here 1 (some .int) ∈ z_T := z_in (z_mem 1134 (by decide +kernel)) rfl
abbrev b_Mo_fail : ByteArray := prog_12_method_8_code
abbrev y_Mo_fail : MethodName := ⟨"QuestionTextModel", "fail", "(I)V"⟩
theorem m_Mo_fail : Cond.code y_Mo_fail b_Mo_fail 2 none ∈ z_T := z_in (z_mem 1138 (by decide +kernel)) rfl
abbrev b_Mo_question : ByteArray := prog_12_method_13_code
abbrev y_Mo_question : MethodName := ⟨"QuestionTextModel", "question", "()V"⟩
theorem m_Mo_question : Cond.code y_Mo_question b_Mo_question 5 none ∈ z_T := z_in (z_mem 1142 (by decide +kernel)) rfl
abbrev b_Mo_number : ByteArray := prog_12_method_11_code
abbrev y_Mo_number : MethodName := ⟨"QuestionTextModel", "number", "(II)I"⟩
theorem m_Mo_number : Cond.code y_Mo_number b_Mo_number 4 (some .int) ∈ z_T := z_in (z_mem 1146 (by decide +kernel)) rfl
abbrev b_Mo_isDigit : ByteArray := prog_12_method_10_code
abbrev y_Mo_isDigit : MethodName := ⟨"QuestionTextModel", "isDigit", "()Z"⟩
theorem m_Mo_isDigit : Cond.code y_Mo_isDigit b_Mo_isDigit 1 (some .boolean) ∈ z_T := z_in (z_mem 1150 (by decide +kernel)) rfl
abbrev b_Mo_take : ByteArray := prog_12_method_9_code
abbrev y_Mo_take : MethodName := ⟨"QuestionTextModel", "take", "(I)V"⟩
theorem m_Mo_take : Cond.code y_Mo_take b_Mo_take 2 none ∈ z_T := z_in (z_mem 1154 (by decide +kernel)) rfl
abbrev b_Mo_words : ByteArray := prog_12_method_12_code
abbrev y_Mo_words : MethodName := ⟨"QuestionTextModel", "words", "(II)V"⟩
theorem m_Mo_words : Cond.code y_Mo_words b_Mo_words 5 none ∈ z_T := z_in (z_mem 1158 (by decide +kernel)) rfl
abbrev b_Mo_jump : ByteArray := prog_12_method_14_code
abbrev y_Mo_jump : MethodName := ⟨"QuestionTextModel", "jump", "(II)Z"⟩
theorem m_Mo_jump : Cond.code y_Mo_jump b_Mo_jump 5 (some .boolean) ∈ z_T := z_in (z_mem 1162 (by decide +kernel)) rfl
abbrev b_Mo_kindRow : ByteArray := prog_12_method_15_code
abbrev y_Mo_kindRow : MethodName := ⟨"QuestionTextModel", "kindRow", "()V"⟩
theorem m_Mo_kindRow : Cond.code y_Mo_kindRow b_Mo_kindRow 3 none ∈ z_T := z_in (z_mem 1166 (by decide +kernel)) rfl
abbrev b_Mo_conditionRow : ByteArray := prog_12_method_16_code
abbrev y_Mo_conditionRow : MethodName := ⟨"QuestionTextModel", "conditionRow", "(I)V"⟩
theorem m_Mo_conditionRow : Cond.code y_Mo_conditionRow b_Mo_conditionRow 4 none ∈ z_T := z_in (z_mem 1170 (by decide +kernel)) rfl
abbrev b_Mo_term : ByteArray := prog_12_method_17_code
abbrev y_Mo_term : MethodName := ⟨"QuestionTextModel", "term", "(I)V"⟩
theorem m_Mo_term : Cond.code y_Mo_term b_Mo_term 4 none ∈ z_T := z_in (z_mem 1174 (by decide +kernel)) rfl
abbrev b_Mo_questions : ByteArray := prog_12_method_19_code
abbrev y_Mo_questions : MethodName := ⟨"QuestionTextModel", "questions", "()I"⟩
theorem m_Mo_questions : Cond.code y_Mo_questions b_Mo_questions 3 (some .int) ∈ z_T := z_in (z_mem 1178 (by decide +kernel)) rfl
abbrev b_Mo_place : ByteArray := prog_12_method_21_code
abbrev y_Mo_place : MethodName := ⟨"QuestionTextModel", "place", "()I"⟩
theorem m_Mo_place : Cond.code y_Mo_place b_Mo_place 1 (some .int) ∈ z_T := z_in (z_mem 1182 (by decide +kernel)) rfl
abbrev b_Mo_edition : ByteArray := prog_12_method_22_code
abbrev y_Mo_edition : MethodName := ⟨"QuestionTextModel", "edition", "(I)I"⟩
theorem m_Mo_edition : Cond.code y_Mo_edition b_Mo_edition 2 (some .int) ∈ z_T := z_in (z_mem 1186 (by decide +kernel)) rfl
abbrev b_Mo_says : ByteArray := prog_12_method_4_code
abbrev y_Mo_says : MethodName := ⟨"QuestionTextModel", "says", "(Z)Z"⟩
theorem m_Mo_says : Cond.code y_Mo_says b_Mo_says 2 (some .boolean) ∈ z_T := z_in (z_mem 1190 (by decide +kernel)) rfl
abbrev b_Mo_first : ByteArray := prog_12_method_25_code
abbrev y_Mo_first : MethodName := ⟨"QuestionTextModel", "first", "(I)I"⟩
theorem m_Mo_first : Cond.code y_Mo_first b_Mo_first 3 (some .int) ∈ z_T := z_in (z_mem 1194 (by decide +kernel)) rfl
abbrev b_Mo_asks : ByteArray := prog_12_method_24_code
abbrev y_Mo_asks : MethodName := ⟨"QuestionTextModel", "asks", "(I)V"⟩
theorem m_Mo_asks : Cond.code y_Mo_asks b_Mo_asks 2 none ∈ z_T := z_in (z_mem 1198 (by decide +kernel)) rfl
abbrev b_Mo_isThere : ByteArray := prog_12_method_23_code
abbrev y_Mo_isThere : MethodName := ⟨"QuestionTextModel", "isThere", "(I)Z"⟩
theorem m_Mo_isThere : Cond.code y_Mo_isThere b_Mo_isThere 2 (some .boolean) ∈ z_T := z_in (z_mem 1202 (by decide +kernel)) rfl
abbrev b_Mo_answer : ByteArray := prog_12_method_26_code
abbrev y_Mo_answer : MethodName := ⟨"QuestionTextModel", "answer", "(I)I"⟩
theorem m_Mo_answer : Cond.code y_Mo_answer b_Mo_answer 5 (some .int) ∈ z_T := z_in (z_mem 1206 (by decide +kernel)) rfl
abbrev b_Mo_kind : ByteArray := prog_12_method_27_code
abbrev y_Mo_kind : MethodName := ⟨"QuestionTextModel", "kind", "()I"⟩
theorem m_Mo_kind : Cond.code y_Mo_kind b_Mo_kind 1 (some .int) ∈ z_T := z_in (z_mem 1210 (by decide +kernel)) rfl
abbrev b_Mo_priority : ByteArray := prog_12_method_29_code
abbrev y_Mo_priority : MethodName := ⟨"QuestionTextModel", "priority", "()I"⟩
theorem m_Mo_priority : Cond.code y_Mo_priority b_Mo_priority 6 (some .int) ∈ z_T := z_in (z_mem 1214 (by decide +kernel)) rfl
abbrev b_Mo_holds : ByteArray := prog_12_method_28_code
abbrev y_Mo_holds : MethodName := ⟨"QuestionTextModel", "holds", "(I)Z"⟩
theorem m_Mo_holds : Cond.code y_Mo_holds b_Mo_holds 4 (some .boolean) ∈ z_T := z_in (z_mem 1218 (by decide +kernel)) rfl
abbrev b_Mo_points : ByteArray := prog_12_method_30_code
abbrev y_Mo_points : MethodName := ⟨"QuestionTextModel", "points", "()I"⟩
theorem m_Mo_points : Cond.code y_Mo_points b_Mo_points 1 (some .int) ∈ z_T := z_in (z_mem 1222 (by decide +kernel)) rfl
abbrev b_Mo_asked : ByteArray := prog_12_method_31_code
abbrev y_Mo_asked : MethodName := ⟨"QuestionTextModel", "asked", "(I)I"⟩
theorem m_Mo_asked : Cond.code y_Mo_asked b_Mo_asked 2 (some .int) ∈ z_T := z_in (z_mem 1226 (by decide +kernel)) rfl
abbrev b_Mo_loop : ByteArray := prog_12_method_35_code
abbrev y_Mo_loop : MethodName := ⟨"QuestionTextModel", "loop", "(I)I"⟩
theorem m_Mo_loop : Cond.code y_Mo_loop b_Mo_loop 4 (some .int) ∈ z_T := z_in (z_mem 1230 (by decide +kernel)) rfl
abbrev b_Mo_loops : ByteArray := prog_12_method_34_code
abbrev y_Mo_loops : MethodName := ⟨"QuestionTextModel", "loops", "(I)Z"⟩
theorem m_Mo_loops : Cond.code y_Mo_loops b_Mo_loops 5 (some .boolean) ∈ z_T := z_in (z_mem 1234 (by decide +kernel)) rfl
abbrev b_Mo_unmark : ByteArray := prog_12_method_33_code
abbrev y_Mo_unmark : MethodName := ⟨"QuestionTextModel", "unmark", "()V"⟩
theorem m_Mo_unmark : Cond.code y_Mo_unmark b_Mo_unmark 2 none ∈ z_T := z_in (z_mem 1238 (by decide +kernel)) rfl
abbrev b_Mo_spreads : ByteArray := prog_12_method_32_code
abbrev y_Mo_spreads : MethodName := ⟨"QuestionTextModel", "spreads", "()Z"⟩
theorem m_Mo_spreads : Cond.code y_Mo_spreads b_Mo_spreads 7 (some .boolean) ∈ z_T := z_in (z_mem 1242 (by decide +kernel)) rfl
abbrev b_Mo_never : ByteArray := prog_12_method_36_code
abbrev y_Mo_never : MethodName := ⟨"QuestionTextModel", "never", "(I)I"⟩
theorem m_Mo_never : Cond.code y_Mo_never b_Mo_never 5 (some .int) ∈ z_T := z_in (z_mem 1246 (by decide +kernel)) rfl
abbrev b_Mo_endless : ByteArray := prog_12_method_37_code
abbrev y_Mo_endless : MethodName := ⟨"QuestionTextModel", "endless", "(I)I"⟩
theorem m_Mo_endless : Cond.code y_Mo_endless b_Mo_endless 5 (some .int) ∈ z_T := z_in (z_mem 1250 (by decide +kernel)) rfl
abbrev b_Mo_word : ByteArray := prog_12_method_38_code
abbrev y_Mo_word : MethodName := ⟨"QuestionTextModel", "word", "(III)I"⟩
theorem m_Mo_word : Cond.code y_Mo_word b_Mo_word 5 (some .int) ∈ z_T := z_in (z_mem 1254 (by decide +kernel)) rfl
theorem ini_La : Cond.initialized "QuestionTextLaw" ∈ z_T := z_in (z_mem 40 (by decide +kernel)) rfl
theorem ini_Q : Cond.initialized "QuestionText" ∈ z_T := z_in (z_mem 41 (by decide +kernel)) rfl
theorem ini_TR : Cond.initialized "QuestionText$TextReader" ∈ z_T := z_in (z_mem 42 (by decide +kernel)) rfl
theorem ini_Ca : Cond.initialized "QuestionText$Call" ∈ z_T := z_in (z_mem 43 (by decide +kernel)) rfl
theorem ini_Ed : Cond.initialized "QuestionText$Edition" ∈ z_T := z_in (z_mem 44 (by decide +kernel)) rfl
theorem ini_Mo : Cond.initialized "QuestionTextModel" ∈ z_T := z_in (z_mem 45 (by decide +kernel)) rfl
theorem ini_IAE : Cond.initialized "java/lang/IllegalArgumentException" ∈ z_T := z_in (z_mem 49 (by decide +kernel)) rfl
theorem ini_ISE : Cond.initialized "java/lang/IllegalStateException" ∈ z_T := z_in (z_mem 50 (by decide +kernel)) rfl
theorem ini_Ar : Cond.initialized "java/util/Arrays" ∈ z_T := z_in (z_mem 51 (by decide +kernel)) rfl
theorem ini_Sp : Cond.initialized "QuestionText$Span" ∈ z_T := z_in (z_mem 52 (by decide +kernel)) rfl
theorem ini_Ju : Cond.initialized "QuestionText$Jump" ∈ z_T := z_in (z_mem 66 (by decide +kernel)) rfl
theorem ini_Qu : Cond.initialized "QuestionText$Question" ∈ z_T := z_in (z_mem 67 (by decide +kernel)) rfl
theorem ini_Te : Cond.initialized "QuestionText$Term" ∈ z_T := z_in (z_mem 68 (by decide +kernel)) rfl
theorem ini_Co : Cond.initialized "QuestionText$Condition" ∈ z_T := z_in (z_mem 69 (by decide +kernel)) rfl
theorem ini_Ki : Cond.initialized "QuestionText$Kind" ∈ z_T := z_in (z_mem 70 (by decide +kernel)) rfl
theorem kc_La_8 : Cond.classLink "QuestionTextLaw" 8 "QuestionText" ∈ z_T := z_in (z_mem 72 (by decide +kernel)) rfl
theorem mk_Q : Cond.instantiable "QuestionText" 6 ∈ z_T := z_in (z_mem 73 (by decide +kernel)) rfl
theorem km_La_53 : Cond.methodLink "QuestionTextLaw" 53 y_Q_init ∈ z_T := z_in (z_mem 74 (by decide +kernel)) rfl
theorem in_Q_init : Cond.instanceMethod y_Q_init ∈ z_T := z_in (z_mem 75 (by decide +kernel)) rfl
theorem km_Q_1 : Cond.methodLink "QuestionText" 1 ⟨"java/lang/Object", "<init>", "()V"⟩ ∈ z_T := z_in (z_mem 77 (by decide +kernel)) rfl
theorem kc_Q_7 : Cond.classLink "QuestionText" 7 "QuestionText$TextReader" ∈ z_T := z_in (z_mem 80 (by decide +kernel)) rfl
theorem mk_TR : Cond.instantiable "QuestionText$TextReader" 5 ∈ z_T := z_in (z_mem 81 (by decide +kernel)) rfl
theorem km_Q_9 : Cond.methodLinkNest "QuestionText" 9 y_TR_init "QuestionText" ∈ z_NW := z_inN (z_mem 82 (by decide +kernel)) rfl
theorem in_TR_init : Cond.instanceMethod y_TR_init ∈ z_T := z_in (z_mem 83 (by decide +kernel)) rfl
theorem km_TR_3 : Cond.methodLink "QuestionText$TextReader" 3 ⟨"java/lang/Object", "<init>", "()V"⟩ ∈ z_T := z_in (z_mem 85 (by decide +kernel)) rfl
theorem kc_TR_15 : Cond.classLink "QuestionText$TextReader" 15 "QuestionText$Question" ∈ z_T := z_in (z_mem 86 (by decide +kernel)) rfl
theorem kc_TR_21 : Cond.classLink "QuestionText$TextReader" 21 "QuestionText$Kind" ∈ z_T := z_in (z_mem 88 (by decide +kernel)) rfl
theorem kf_TR_9 : Cond.fieldLink "QuestionText$TextReader" 9 "QuestionText$TextReader" "tape" "[I" ∈ z_T := z_in (z_mem 90 (by decide +kernel)) rfl
theorem kf_TR_17 : Cond.fieldLink "QuestionText$TextReader" 17 "QuestionText$TextReader" "questions" "[LQuestionText$Question;" ∈ z_T := z_in (z_mem 91 (by decide +kernel)) rfl
theorem kf_Q_83 : Cond.fieldLinkNest "QuestionText" 83 "QuestionText$TextReader" "questions" "[LQuestionText$Question;" "QuestionText" ∈ z_NW := z_inN (z_mem 92 (by decide +kernel)) rfl
theorem kf_TR_23 : Cond.fieldLink "QuestionText$TextReader" 23 "QuestionText$TextReader" "kinds" "[LQuestionText$Kind;" ∈ z_T := z_in (z_mem 93 (by decide +kernel)) rfl
theorem kf_Q_84 : Cond.fieldLinkNest "QuestionText" 84 "QuestionText$TextReader" "kinds" "[LQuestionText$Kind;" "QuestionText" ∈ z_NW := z_inN (z_mem 94 (by decide +kernel)) rfl
theorem kf_TR_27 : Cond.fieldLink "QuestionText$TextReader" 27 "QuestionText$TextReader" "length" "I" ∈ z_T := z_in (z_mem 95 (by decide +kernel)) rfl
theorem kf_Q_48 : Cond.fieldLinkNest "QuestionText" 48 "QuestionText$TextReader" "length" "I" "QuestionText" ∈ z_NW := z_inN (z_mem 96 (by decide +kernel)) rfl
theorem kf_TR_31 : Cond.fieldLink "QuestionText$TextReader" 31 "QuestionText$TextReader" "at" "I" ∈ z_T := z_in (z_mem 97 (by decide +kernel)) rfl
theorem kc_Q_16 : Cond.classLink "QuestionText" 16 "QuestionText$Edition" ∈ z_T := z_in (z_mem 110 (by decide +kernel)) rfl
theorem kc_Q_22 : Cond.classLink "QuestionText" 22 "QuestionText$Call" ∈ z_T := z_in (z_mem 112 (by decide +kernel)) rfl
theorem mk_Ca : Cond.instantiable "QuestionText$Call" 6 ∈ z_T := z_in (z_mem 113 (by decide +kernel)) rfl
theorem km_Q_24 : Cond.methodLinkNest "QuestionText" 24 y_Ca_init "QuestionText" ∈ z_NW := z_inN (z_mem 114 (by decide +kernel)) rfl
theorem in_Ca_init : Cond.instanceMethod y_Ca_init ∈ z_T := z_in (z_mem 115 (by decide +kernel)) rfl
theorem km_Ca_3 : Cond.methodLink "QuestionText$Call" 3 ⟨"java/lang/Object", "<init>", "()V"⟩ ∈ z_T := z_in (z_mem 117 (by decide +kernel)) rfl
theorem kf_Ca_9 : Cond.fieldLink "QuestionText$Call" 9 "QuestionText$Call" "asked" "[I" ∈ z_T := z_in (z_mem 118 (by decide +kernel)) rfl
theorem kf_Q_161 : Cond.fieldLinkNest "QuestionText" 161 "QuestionText$Call" "asked" "[I" "QuestionText" ∈ z_NW := z_inN (z_mem 119 (by decide +kernel)) rfl
theorem kf_Ca_15 : Cond.fieldLink "QuestionText$Call" 15 "QuestionText$Call" "latest" "[I" ∈ z_T := z_in (z_mem 120 (by decide +kernel)) rfl
theorem kf_Te_26 : Cond.fieldLinkNest "QuestionText$Term" 26 "QuestionText$Call" "latest" "[I" "QuestionText" ∈ z_NW := z_inN (z_mem 121 (by decide +kernel)) rfl
theorem kf_Q_145 : Cond.fieldLinkNest "QuestionText" 145 "QuestionText$Call" "latest" "[I" "QuestionText" ∈ z_NW := z_inN (z_mem 122 (by decide +kernel)) rfl
theorem kf_Ca_18 : Cond.fieldLink "QuestionText$Call" 18 "QuestionText$Call" "count" "I" ∈ z_T := z_in (z_mem 123 (by decide +kernel)) rfl
theorem kf_Q_140 : Cond.fieldLinkNest "QuestionText" 140 "QuestionText$Call" "count" "I" "QuestionText" ∈ z_NW := z_inN (z_mem 124 (by decide +kernel)) rfl
theorem kf_Ca_22 : Cond.fieldLink "QuestionText$Call" 22 "QuestionText$Call" "now" "I" ∈ z_T := z_in (z_mem 125 (by decide +kernel)) rfl
theorem kf_Q_114 : Cond.fieldLinkNest "QuestionText" 114 "QuestionText$Call" "now" "I" "QuestionText" ∈ z_NW := z_inN (z_mem 126 (by decide +kernel)) rfl
theorem kf_Ca_25 : Cond.fieldLink "QuestionText$Call" 25 "QuestionText$Call" "points" "I" ∈ z_T := z_in (z_mem 127 (by decide +kernel)) rfl
theorem kf_Te_21 : Cond.fieldLinkNest "QuestionText$Term" 21 "QuestionText$Call" "points" "I" "QuestionText" ∈ z_NW := z_inN (z_mem 128 (by decide +kernel)) rfl
theorem kf_Q_149 : Cond.fieldLinkNest "QuestionText" 149 "QuestionText$Call" "points" "I" "QuestionText" ∈ z_NW := z_inN (z_mem 129 (by decide +kernel)) rfl
theorem kf_Ca_28 : Cond.fieldLink "QuestionText$Call" 28 "QuestionText$Call" "kind" "I" ∈ z_T := z_in (z_mem 130 (by decide +kernel)) rfl
theorem kf_Q_99 : Cond.fieldLinkNest "QuestionText" 99 "QuestionText$Call" "kind" "I" "QuestionText" ∈ z_NW := z_inN (z_mem 131 (by decide +kernel)) rfl
theorem mk_Ed : Cond.instantiable "QuestionText$Edition" 6 ∈ z_T := z_in (z_mem 145 (by decide +kernel)) rfl
theorem km_Q_29 : Cond.methodLinkNest "QuestionText" 29 y_Ed_init "QuestionText" ∈ z_NW := z_inN (z_mem 146 (by decide +kernel)) rfl
theorem in_Ed_init : Cond.instanceMethod y_Ed_init ∈ z_T := z_in (z_mem 147 (by decide +kernel)) rfl
theorem km_Ed_3 : Cond.methodLink "QuestionText$Edition" 3 ⟨"java/lang/Object", "<init>", "()V"⟩ ∈ z_T := z_in (z_mem 149 (by decide +kernel)) rfl
theorem kc_Ed_9 : Cond.classLink "QuestionText$Edition" 9 "QuestionText$Question" ∈ z_T := z_in (z_mem 150 (by decide +kernel)) rfl
theorem kc_Ed_17 : Cond.classLink "QuestionText$Edition" 17 "QuestionText$Kind" ∈ z_T := z_in (z_mem 151 (by decide +kernel)) rfl
theorem kf_Ed_11 : Cond.fieldLink "QuestionText$Edition" 11 "QuestionText$Edition" "questions" "[LQuestionText$Question;" ∈ z_T := z_in (z_mem 152 (by decide +kernel)) rfl
theorem kf_Q_71 : Cond.fieldLinkNest "QuestionText" 71 "QuestionText$Edition" "questions" "[LQuestionText$Question;" "QuestionText" ∈ z_NW := z_inN (z_mem 153 (by decide +kernel)) rfl
theorem kf_Ed_19 : Cond.fieldLink "QuestionText$Edition" 19 "QuestionText$Edition" "kinds" "[LQuestionText$Kind;" ∈ z_T := z_in (z_mem 154 (by decide +kernel)) rfl
theorem kf_Q_75 : Cond.fieldLinkNest "QuestionText" 75 "QuestionText$Edition" "kinds" "[LQuestionText$Kind;" "QuestionText" ∈ z_NW := z_inN (z_mem 155 (by decide +kernel)) rfl
theorem kf_Ed_23 : Cond.fieldLink "QuestionText$Edition" 23 "QuestionText$Edition" "size" "I" ∈ z_T := z_in (z_mem 156 (by decide +kernel)) rfl
theorem kf_Q_88 : Cond.fieldLinkNest "QuestionText" 88 "QuestionText$Edition" "size" "I" "QuestionText" ∈ z_NW := z_inN (z_mem 157 (by decide +kernel)) rfl
theorem kf_Ed_27 : Cond.fieldLink "QuestionText$Edition" 27 "QuestionText$Edition" "onLoop" "J" ∈ z_T := z_in (z_mem 158 (by decide +kernel)) rfl
theorem kf_Q_164 : Cond.fieldLinkNest "QuestionText" 164 "QuestionText$Edition" "onLoop" "J" "QuestionText" ∈ z_NW := z_inN (z_mem 159 (by decide +kernel)) rfl
theorem kf_Ed_31 : Cond.fieldLink "QuestionText$Edition" 31 "QuestionText$Edition" "unreached" "J" ∈ z_T := z_in (z_mem 160 (by decide +kernel)) rfl
theorem kf_Q_172 : Cond.fieldLinkNest "QuestionText" 172 "QuestionText$Edition" "unreached" "J" "QuestionText" ∈ z_NW := z_inN (z_mem 161 (by decide +kernel)) rfl
theorem kf_Ed_34 : Cond.fieldLink "QuestionText$Edition" 34 "QuestionText$Edition" "withoutEnd" "J" ∈ z_T := z_in (z_mem 162 (by decide +kernel)) rfl
theorem kf_Q_175 : Cond.fieldLinkNest "QuestionText" 175 "QuestionText$Edition" "withoutEnd" "J" "QuestionText" ∈ z_NW := z_inN (z_mem 163 (by decide +kernel)) rfl
theorem kf_Q_10 : Cond.fieldLink "QuestionText" 10 "QuestionText" "reader" "LQuestionText$TextReader;" ∈ z_T := z_in (z_mem 177 (by decide +kernel)) rfl
theorem kf_Q_18 : Cond.fieldLink "QuestionText" 18 "QuestionText" "editions" "[LQuestionText$Edition;" ∈ z_T := z_in (z_mem 178 (by decide +kernel)) rfl
theorem kf_Q_25 : Cond.fieldLink "QuestionText" 25 "QuestionText" "call" "LQuestionText$Call;" ∈ z_T := z_in (z_mem 179 (by decide +kernel)) rfl
theorem kf_Q_30 : Cond.fieldLink "QuestionText" 30 "QuestionText" "chosen" "LQuestionText$Edition;" ∈ z_T := z_in (z_mem 180 (by decide +kernel)) rfl
theorem kf_Q_34 : Cond.fieldLink "QuestionText" 34 "QuestionText" "made" "I" ∈ z_T := z_in (z_mem 181 (by decide +kernel)) rfl
theorem kf_Q_38 : Cond.fieldLink "QuestionText" 38 "QuestionText" "wrongPlace" "I" ∈ z_T := z_in (z_mem 182 (by decide +kernel)) rfl
theorem km_La_72 : Cond.methodLink "QuestionTextLaw" 72 y_Q_place ∈ z_T := z_in (z_mem 196 (by decide +kernel)) rfl
theorem in_Q_place : Cond.instanceMethod y_Q_place ∈ z_T := z_in (z_mem 197 (by decide +kernel)) rfl
theorem se_Q_place : Cond.selects "QuestionText" y_Q_place y_Q_place ∈ z_T := z_in (z_mem 198 (by decide +kernel)) rfl
theorem km_La_86 : Cond.methodLink "QuestionTextLaw" 86 y_Q_kind ∈ z_T := z_in (z_mem 200 (by decide +kernel)) rfl
theorem in_Q_kind : Cond.instanceMethod y_Q_kind ∈ z_T := z_in (z_mem 201 (by decide +kernel)) rfl
theorem se_Q_kind : Cond.selects "QuestionText" y_Q_kind y_Q_kind ∈ z_T := z_in (z_mem 202 (by decide +kernel)) rfl
theorem km_La_59 : Cond.methodLink "QuestionTextLaw" 59 y_La_sign ∈ z_T := z_in (z_mem 204 (by decide +kernel)) rfl
theorem st_La_sign : Cond.static y_La_sign ∈ z_T := z_in (z_mem 205 (by decide +kernel)) rfl
theorem kc_La_13 : Cond.classLink "QuestionTextLaw" 13 "java/lang/IllegalArgumentException" ∈ z_T := z_in (z_mem 207 (by decide +kernel)) rfl
theorem kc_La_15 : Cond.classLink "QuestionTextLaw" 15 "java/lang/IllegalStateException" ∈ z_T := z_in (z_mem 208 (by decide +kernel)) rfl
theorem km_La_7 : Cond.methodLink "QuestionTextLaw" 7 y_Q_sign ∈ z_T := z_in (z_mem 209 (by decide +kernel)) rfl
theorem in_Q_sign : Cond.instanceMethod y_Q_sign ∈ z_T := z_in (z_mem 210 (by decide +kernel)) rfl
theorem se_Q_sign : Cond.selects "QuestionText" y_Q_sign y_Q_sign ∈ z_T := z_in (z_mem 211 (by decide +kernel)) rfl
theorem kc_Q_41 : Cond.classLink "QuestionText" 41 "java/lang/IllegalArgumentException" ∈ z_T := z_in (z_mem 213 (by decide +kernel)) rfl
theorem km_Q_45 : Cond.methodLink "QuestionText" 45 ⟨"java/lang/IllegalArgumentException", "<init>", "(Ljava/lang/String;)V"⟩ ∈ z_T := z_in (z_mem 254 (by decide +kernel)) rfl
theorem kc_Q_51 : Cond.classLink "QuestionText" 51 "java/lang/IllegalStateException" ∈ z_T := z_in (z_mem 280 (by decide +kernel)) rfl
theorem km_Q_55 : Cond.methodLink "QuestionText" 55 ⟨"java/lang/IllegalStateException", "<init>", "(Ljava/lang/String;)V"⟩ ∈ z_T := z_in (z_mem 290 (by decide +kernel)) rfl
theorem km_Q_56 : Cond.methodLink "QuestionText" 56 y_TR_add ∈ z_T := z_in (z_mem 296 (by decide +kernel)) rfl
theorem in_TR_add : Cond.instanceMethod y_TR_add ∈ z_T := z_in (z_mem 297 (by decide +kernel)) rfl
theorem se_TR_add : Cond.selects "QuestionText$TextReader" y_TR_add y_TR_add ∈ z_T := z_in (z_mem 298 (by decide +kernel)) rfl
theorem km_La_68 : Cond.methodLink "QuestionTextLaw" 68 y_La_read ∈ z_T := z_in (z_mem 300 (by decide +kernel)) rfl
theorem st_La_read : Cond.static y_La_read ∈ z_T := z_in (z_mem 301 (by decide +kernel)) rfl
theorem km_La_17 : Cond.methodLink "QuestionTextLaw" 17 y_Q_read ∈ z_T := z_in (z_mem 303 (by decide +kernel)) rfl
theorem in_Q_read : Cond.instanceMethod y_Q_read ∈ z_T := z_in (z_mem 304 (by decide +kernel)) rfl
theorem se_Q_read : Cond.selects "QuestionText" y_Q_read y_Q_read ∈ z_T := z_in (z_mem 305 (by decide +kernel)) rfl
theorem km_Q_60 : Cond.methodLink "QuestionText" 60 y_Ca_clear ∈ z_T := z_in (z_mem 307 (by decide +kernel)) rfl
theorem in_Ca_clear : Cond.instanceMethod y_Ca_clear ∈ z_T := z_in (z_mem 308 (by decide +kernel)) rfl
theorem se_Ca_clear : Cond.selects "QuestionText$Call" y_Ca_clear y_Ca_clear ∈ z_T := z_in (z_mem 309 (by decide +kernel)) rfl
theorem km_Ca_31 : Cond.methodLink "QuestionText$Call" 31 y_Ar_fill ∈ z_T := z_in (z_mem 311 (by decide +kernel)) rfl
theorem st_Ar_fill : Cond.static y_Ar_fill ∈ z_T := z_in (z_mem 312 (by decide +kernel)) rfl
theorem km_Q_63 : Cond.methodLink "QuestionText" 63 y_TR_readTape ∈ z_T := z_in (z_mem 314 (by decide +kernel)) rfl
theorem in_TR_readTape : Cond.instanceMethod y_TR_readTape ∈ z_T := z_in (z_mem 315 (by decide +kernel)) rfl
theorem se_TR_readTape : Cond.selects "QuestionText$TextReader" y_TR_readTape y_TR_readTape ∈ z_T := z_in (z_mem 316 (by decide +kernel)) rfl
theorem kc_TR_55 : Cond.classLink "QuestionText$TextReader" 55 "java/lang/IllegalArgumentException" ∈ z_T := z_in (z_mem 318 (by decide +kernel)) rfl
theorem km_TR_34 : Cond.methodLink "QuestionText$TextReader" 34 y_TR_forgetRows ∈ z_T := z_in (z_mem 319 (by decide +kernel)) rfl
theorem in_TR_forgetRows : Cond.instanceMethod y_TR_forgetRows ∈ z_T := z_in (z_mem 321 (by decide +kernel)) rfl
theorem km_TR_37 : Cond.methodLink "QuestionText$TextReader" 37 y_TR_nextSign ∈ z_T := z_in (z_mem 323 (by decide +kernel)) rfl
theorem in_TR_nextSign : Cond.instanceMethod y_TR_nextSign ∈ z_T := z_in (z_mem 325 (by decide +kernel)) rfl
theorem km_TR_41 : Cond.methodLink "QuestionText$TextReader" 41 y_TR_took ∈ z_T := z_in (z_mem 327 (by decide +kernel)) rfl
theorem in_TR_took : Cond.instanceMethod y_TR_took ∈ z_T := z_in (z_mem 329 (by decide +kernel)) rfl
theorem km_TR_45 : Cond.methodLink "QuestionText$TextReader" 45 y_TR_readQuestion ∈ z_T := z_in (z_mem 331 (by decide +kernel)) rfl
theorem in_TR_readQuestion : Cond.instanceMethod y_TR_readQuestion ∈ z_T := z_in (z_mem 333 (by decide +kernel)) rfl
theorem km_TR_57 : Cond.methodLink "QuestionText$TextReader" 57 y_TR_readNumber ∈ z_T := z_in (z_mem 335 (by decide +kernel)) rfl
theorem in_TR_readNumber : Cond.instanceMethod y_TR_readNumber ∈ z_T := z_in (z_mem 337 (by decide +kernel)) rfl
theorem km_TR_75 : Cond.methodLink "QuestionText$TextReader" 75 y_TR_isDigit ∈ z_T := z_in (z_mem 339 (by decide +kernel)) rfl
theorem st_TR_isDigit : Cond.static y_TR_isDigit ∈ z_T := z_in (z_mem 340 (by decide +kernel)) rfl
theorem km_TR_61 : Cond.methodLink "QuestionText$TextReader" 61 y_TR_fail ∈ z_T := z_in (z_mem 342 (by decide +kernel)) rfl
theorem in_TR_fail : Cond.instanceMethod y_TR_fail ∈ z_T := z_in (z_mem 344 (by decide +kernel)) rfl
theorem km_TR_133 : Cond.methodLink "QuestionText$TextReader" 133 ⟨"java/lang/IllegalArgumentException", "<init>", "(Ljava/lang/String;)V"⟩ ∈ z_T := z_in (z_mem 347 (by decide +kernel)) rfl
theorem km_TR_48 : Cond.methodLink "QuestionText$TextReader" 48 y_TR_take ∈ z_T := z_in (z_mem 348 (by decide +kernel)) rfl
theorem in_TR_take : Cond.instanceMethod y_TR_take ∈ z_T := z_in (z_mem 350 (by decide +kernel)) rfl
theorem km_TR_64 : Cond.methodLink "QuestionText$TextReader" 64 y_TR_readSpan ∈ z_T := z_in (z_mem 352 (by decide +kernel)) rfl
theorem in_TR_readSpan : Cond.instanceMethod y_TR_readSpan ∈ z_T := z_in (z_mem 354 (by decide +kernel)) rfl
theorem kc_TR_88 : Cond.classLink "QuestionText$TextReader" 88 "QuestionText$Span" ∈ z_T := z_in (z_mem 356 (by decide +kernel)) rfl
theorem mk_Sp : Cond.instantiable "QuestionText$Span" 2 ∈ z_T := z_in (z_mem 357 (by decide +kernel)) rfl
theorem km_TR_90 : Cond.methodLink "QuestionText$TextReader" 90 y_Sp_init ∈ z_T := z_in (z_mem 358 (by decide +kernel)) rfl
theorem in_Sp_init : Cond.instanceMethod y_Sp_init ∈ z_T := z_in (z_mem 359 (by decide +kernel)) rfl
theorem km_Sp_1 : Cond.methodLink "QuestionText$Span" 1 ⟨"java/lang/Object", "<init>", "()V"⟩ ∈ z_T := z_in (z_mem 361 (by decide +kernel)) rfl
theorem kf_Sp_7 : Cond.fieldLink "QuestionText$Span" 7 "QuestionText$Span" "low" "I" ∈ z_T := z_in (z_mem 362 (by decide +kernel)) rfl
theorem kf_Sp_13 : Cond.fieldLink "QuestionText$Span" 13 "QuestionText$Span" "high" "I" ∈ z_T := z_in (z_mem 363 (by decide +kernel)) rfl
theorem km_TR_68 : Cond.methodLink "QuestionText$TextReader" 68 y_TR_readWords ∈ z_T := z_in (z_mem 369 (by decide +kernel)) rfl
theorem in_TR_readWords : Cond.instanceMethod y_TR_readWords ∈ z_T := z_in (z_mem 371 (by decide +kernel)) rfl
theorem km_TR_96 : Cond.methodLink "QuestionText$TextReader" 96 y_TR_isWordByte ∈ z_T := z_in (z_mem 373 (by decide +kernel)) rfl
theorem st_TR_isWordByte : Cond.static y_TR_isWordByte ∈ z_T := z_in (z_mem 374 (by decide +kernel)) rfl
theorem km_TR_99 : Cond.methodLink "QuestionText$TextReader" 99 ⟨"java/util/Arrays", "copyOfRange", "([III)[I"⟩ ∈ z_T := z_in (z_mem 376 (by decide +kernel)) rfl
theorem km_Ar_351 : Cond.methodLink "java/util/Arrays" 351 ⟨"java/util/Arrays", "copyOfRangeInt", "([III)[I"⟩ ∈ z_T := z_in (z_mem 379 (by decide +kernel)) rfl
theorem km_Ar_343 : Cond.methodLink "java/util/Arrays" 343 ⟨"java/util/Arrays", "checkLength", "(II)V"⟩ ∈ z_T := z_in (z_mem 382 (by decide +kernel)) rfl
theorem kc_Ar_43 : Cond.classLink "java/util/Arrays" 43 "java/lang/IllegalArgumentException" ∈ z_T := z_in (z_mem 385 (by decide +kernel)) rfl
theorem kc_Ar_45 : Cond.classLink "java/util/Arrays" 45 "java/lang/StringBuilder" ∈ z_T := z_in (z_mem 386 (by decide +kernel)) rfl
theorem km_Ar_47 : Cond.methodLink "java/util/Arrays" 47 ⟨"java/lang/StringBuilder", "<init>", "()V"⟩ ∈ z_T := z_in (z_mem 388 (by decide +kernel)) rfl
theorem km_Ar_54 : Cond.methodLink "java/util/Arrays" 54 ⟨"java/lang/StringBuilder", "append", "(I)Ljava/lang/StringBuilder;"⟩ ∈ z_T := z_in (z_mem 417 (by decide +kernel)) rfl
theorem km_Ar_310 : Cond.methodLink "java/util/Arrays" 310 ⟨"[B", "clone", "()Ljava/lang/Object;"⟩ ∈ z_T := z_in (z_mem 449 (by decide +kernel)) rfl
theorem kc_Ar_311 : Cond.classLink "java/util/Arrays" 311 "[B" ∈ z_T := z_in (z_mem 455 (by decide +kernel)) rfl
theorem km_Ar_304 : Cond.methodLink "java/util/Arrays" 304 ⟨"java/lang/Math", "min", "(II)I"⟩ ∈ z_T := z_in (z_mem 456 (by decide +kernel)) rfl
theorem km_Ar_150 : Cond.methodLink "java/util/Arrays" 150 ⟨"java/lang/System", "arraycopy", "(Ljava/lang/Object;ILjava/lang/Object;II)V"⟩ ∈ z_T := z_in (z_mem 459 (by decide +kernel)) rfl
theorem km_Ar_50 : Cond.methodLink "java/util/Arrays" 50 ⟨"java/lang/StringBuilder", "append", "(Ljava/lang/String;)Ljava/lang/StringBuilder;"⟩ ∈ z_T := z_in (z_mem 506 (by decide +kernel)) rfl
theorem km_Ar_61 : Cond.methodLink "java/util/Arrays" 61 ⟨"java/lang/StringBuilder", "toString", "()Ljava/lang/String;"⟩ ∈ z_T := z_in (z_mem 563 (by decide +kernel)) rfl
theorem km_Ar_339 : Cond.methodLink "java/util/Arrays" 339 ⟨"java/util/Arrays", "copyOfRangeByte", "([BII)[B"⟩ ∈ z_T := z_in (z_mem 593 (by decide +kernel)) rfl
theorem km_Ar_65 : Cond.methodLink "java/util/Arrays" 65 ⟨"java/lang/IllegalArgumentException", "<init>", "(Ljava/lang/String;)V"⟩ ∈ z_T := z_in (z_mem 620 (by decide +kernel)) rfl
theorem km_Ar_316 : Cond.methodLink "java/util/Arrays" 316 ⟨"[I", "clone", "()Ljava/lang/Object;"⟩ ∈ z_T := z_in (z_mem 621 (by decide +kernel)) rfl
theorem kc_Ar_317 : Cond.classLink "java/util/Arrays" 317 "[I" ∈ z_T := z_in (z_mem 625 (by decide +kernel)) rfl
theorem kc_TR_72 : Cond.classLink "QuestionText$TextReader" 72 "java/util/ArrayList" ∈ z_T := z_in (z_mem 626 (by decide +kernel)) rfl
theorem mk_AL : Cond.instantiable "java/util/ArrayList" 3 ∈ z_T := z_in (z_mem 627 (by decide +kernel)) rfl
theorem km_TR_74 : Cond.methodLink "QuestionText$TextReader" 74 ⟨"java/util/ArrayList", "<init>", "()V"⟩ ∈ z_T := z_in (z_mem 628 (by decide +kernel)) rfl
theorem km_AL_1 : Cond.methodLink "java/util/ArrayList" 1 ⟨"java/util/AbstractList", "<init>", "()V"⟩ ∈ z_T := z_in (z_mem 631 (by decide +kernel)) rfl
theorem kf_AL_39 : Cond.fieldLink "java/util/ArrayList" 39 "java/util/ArrayList" "DEFAULTCAPACITY_EMPTY_ELEMENTDATA" "[Ljava/lang/Object;" ∈ z_T := z_in (z_mem 638 (by decide +kernel)) rfl
theorem kf_AL_9 : Cond.fieldLink "java/util/ArrayList" 9 "java/util/ArrayList" "elementData" "[Ljava/lang/Object;" ∈ z_T := z_in (z_mem 640 (by decide +kernel)) rfl
theorem kf_AL_48 : Cond.fieldLink "java/util/ArrayList" 48 "java/util/ArrayList" "size" "I" ∈ z_T := z_in (z_mem 641 (by decide +kernel)) rfl
theorem kf_AL_63 : Cond.fieldLink "java/util/ArrayList" 63 "java/util/ArrayList" "modCount" "I" ∈ z_T := z_in (z_mem 643 (by decide +kernel)) rfl
theorem km_TR_78 : Cond.methodLink "QuestionText$TextReader" 78 y_TR_readJump ∈ z_T := z_in (z_mem 652 (by decide +kernel)) rfl
theorem in_TR_readJump : Cond.instanceMethod y_TR_readJump ∈ z_T := z_in (z_mem 654 (by decide +kernel)) rfl
theorem kc_TR_105 : Cond.classLink "QuestionText$TextReader" 105 "QuestionText$Jump" ∈ z_T := z_in (z_mem 656 (by decide +kernel)) rfl
theorem mk_Ju : Cond.instantiable "QuestionText$Jump" 3 ∈ z_T := z_in (z_mem 657 (by decide +kernel)) rfl
theorem km_TR_107 : Cond.methodLink "QuestionText$TextReader" 107 y_Ju_init ∈ z_T := z_in (z_mem 658 (by decide +kernel)) rfl
theorem in_Ju_init : Cond.instanceMethod y_Ju_init ∈ z_T := z_in (z_mem 659 (by decide +kernel)) rfl
theorem km_Ju_1 : Cond.methodLink "QuestionText$Jump" 1 ⟨"java/lang/Object", "<init>", "()V"⟩ ∈ z_T := z_in (z_mem 661 (by decide +kernel)) rfl
theorem kf_Ju_7 : Cond.fieldLink "QuestionText$Jump" 7 "QuestionText$Jump" "span" "LQuestionText$Span;" ∈ z_T := z_in (z_mem 662 (by decide +kernel)) rfl
theorem kf_Qu_52 : Cond.fieldLinkNest "QuestionText$Question" 52 "QuestionText$Jump" "span" "LQuestionText$Span;" "QuestionText" ∈ z_NW := z_inN (z_mem 663 (by decide +kernel)) rfl
theorem kf_Ju_13 : Cond.fieldLink "QuestionText$Jump" 13 "QuestionText$Jump" "target" "I" ∈ z_T := z_in (z_mem 664 (by decide +kernel)) rfl
theorem kf_Q_135 : Cond.fieldLinkNest "QuestionText" 135 "QuestionText$Jump" "target" "I" "QuestionText" ∈ z_NW := z_inN (z_mem 665 (by decide +kernel)) rfl
theorem kf_Ed_64 : Cond.fieldLinkNest "QuestionText$Edition" 64 "QuestionText$Jump" "target" "I" "QuestionText" ∈ z_NW := z_inN (z_mem 666 (by decide +kernel)) rfl
theorem kf_Ju_17 : Cond.fieldLink "QuestionText$Jump" 17 "QuestionText$Jump" "points" "I" ∈ z_T := z_in (z_mem 667 (by decide +kernel)) rfl
theorem kf_Q_152 : Cond.fieldLinkNest "QuestionText" 152 "QuestionText$Jump" "points" "I" "QuestionText" ∈ z_NW := z_inN (z_mem 668 (by decide +kernel)) rfl
theorem km_TR_82 : Cond.methodLink "QuestionText$TextReader" 82 ⟨"java/util/List", "add", "(Ljava/lang/Object;)Z"⟩ ∈ z_T := z_in (z_mem 677 (by decide +kernel)) rfl
theorem km_AL_131 : Cond.methodLink "java/util/ArrayList" 131 ⟨"java/util/ArrayList", "add", "(Ljava/lang/Object;[Ljava/lang/Object;I)V"⟩ ∈ z_T := z_in (z_mem 686 (by decide +kernel)) rfl
theorem km_AL_129 : Cond.methodLink "java/util/ArrayList" 129 ⟨"java/util/ArrayList", "grow", "()[Ljava/lang/Object;"⟩ ∈ z_T := z_in (z_mem 690 (by decide +kernel)) rfl
theorem km_AL_69 : Cond.methodLink "java/util/ArrayList" 69 ⟨"java/util/ArrayList", "grow", "(I)[Ljava/lang/Object;"⟩ ∈ z_T := z_in (z_mem 694 (by decide +kernel)) rfl
theorem km_AL_73 : Cond.methodLink "java/util/ArrayList" 73 ⟨"jdk/internal/util/ArraysSupport", "newLength", "(III)I"⟩ ∈ z_T := z_in (z_mem 698 (by decide +kernel)) rfl
theorem km_AL_66 : Cond.methodLink "java/util/ArrayList" 66 ⟨"java/util/Arrays", "copyOf", "([Ljava/lang/Object;I)[Ljava/lang/Object;"⟩ ∈ z_T := z_in (z_mem 699 (by decide +kernel)) rfl
theorem km_Ar_86 : Cond.methodLink "java/util/Arrays" 86 ⟨"java/lang/Object", "getClass", "()Ljava/lang/Class;"⟩ ∈ z_T := z_in (z_mem 702 (by decide +kernel)) rfl
theorem km_Ar_300 : Cond.methodLink "java/util/Arrays" 300 ⟨"java/util/Arrays", "copyOf", "([Ljava/lang/Object;ILjava/lang/Class;)[Ljava/lang/Object;"⟩ ∈ z_T := z_in (z_mem 722 (by decide +kernel)) rfl
theorem kc_Ar_110 : Cond.classLink "java/util/Arrays" 110 "[Ljava/lang/Object;" ∈ z_T := z_in (z_mem 725 (by decide +kernel)) rfl
theorem kc_Ar_2 : Cond.classLink "java/util/Arrays" 2 "java/lang/Object" ∈ z_T := z_in (z_mem 727 (by decide +kernel)) rfl
theorem km_AL_79 : Cond.methodLink "java/util/ArrayList" 79 ⟨"java/lang/Math", "max", "(II)I"⟩ ∈ z_T := z_in (z_mem 728 (by decide +kernel)) rfl
theorem kc_AL_7 : Cond.classLink "java/util/ArrayList" 7 "java/lang/Object" ∈ z_T := z_in (z_mem 729 (by decide +kernel)) rfl
theorem mk_Qu : Cond.instantiable "QuestionText$Question" 6 ∈ z_T := z_in (z_mem 730 (by decide +kernel)) rfl
theorem km_TR_93 : Cond.methodLink "QuestionText$TextReader" 93 y_Qu_init ∈ z_T := z_in (z_mem 731 (by decide +kernel)) rfl
theorem in_Qu_init : Cond.instanceMethod y_Qu_init ∈ z_T := z_in (z_mem 732 (by decide +kernel)) rfl
theorem km_Qu_3 : Cond.methodLink "QuestionText$Question" 3 ⟨"java/lang/Object", "<init>", "()V"⟩ ∈ z_T := z_in (z_mem 734 (by decide +kernel)) rfl
theorem kf_Qu_9 : Cond.fieldLink "QuestionText$Question" 9 "QuestionText$Question" "must" "Z" ∈ z_T := z_in (z_mem 735 (by decide +kernel)) rfl
theorem kf_Qu_15 : Cond.fieldLink "QuestionText$Question" 15 "QuestionText$Question" "span" "LQuestionText$Span;" ∈ z_T := z_in (z_mem 736 (by decide +kernel)) rfl
theorem kf_Qu_19 : Cond.fieldLink "QuestionText$Question" 19 "QuestionText$Question" "words" "[I" ∈ z_T := z_in (z_mem 737 (by decide +kernel)) rfl
theorem kf_Q_180 : Cond.fieldLinkNest "QuestionText" 180 "QuestionText$Question" "words" "[I" "QuestionText" ∈ z_NW := z_inN (z_mem 738 (by decide +kernel)) rfl
theorem kf_Qu_23 : Cond.fieldLink "QuestionText$Question" 23 "QuestionText$Question" "otherWords" "[I" ∈ z_T := z_in (z_mem 739 (by decide +kernel)) rfl
theorem kf_Q_183 : Cond.fieldLinkNest "QuestionText" 183 "QuestionText$Question" "otherWords" "[I" "QuestionText" ∈ z_NW := z_inN (z_mem 740 (by decide +kernel)) rfl
theorem kf_Qu_26 : Cond.fieldLink "QuestionText$Question" 26 "QuestionText$Question" "jumps" "Ljava/util/List;" ∈ z_T := z_in (z_mem 741 (by decide +kernel)) rfl
theorem kf_Ed_69 : Cond.fieldLinkNest "QuestionText$Edition" 69 "QuestionText$Question" "jumps" "Ljava/util/List;" "QuestionText" ∈ z_NW := z_inN (z_mem 742 (by decide +kernel)) rfl
theorem kf_Qu_30 : Cond.fieldLink "QuestionText$Question" 30 "QuestionText$Question" "lastJump" "LQuestionText$Jump;" ∈ z_T := z_in (z_mem 743 (by decide +kernel)) rfl
theorem kf_Ed_60 : Cond.fieldLinkNest "QuestionText$Edition" 60 "QuestionText$Question" "lastJump" "LQuestionText$Jump;" "QuestionText" ∈ z_NW := z_inN (z_mem 744 (by decide +kernel)) rfl
theorem km_TR_52 : Cond.methodLink "QuestionText$TextReader" 52 y_TR_readKind ∈ z_T := z_in (z_mem 758 (by decide +kernel)) rfl
theorem in_TR_readKind : Cond.instanceMethod y_TR_readKind ∈ z_T := z_in (z_mem 760 (by decide +kernel)) rfl
theorem km_TR_110 : Cond.methodLink "QuestionText$TextReader" 110 y_TR_readCondition ∈ z_T := z_in (z_mem 762 (by decide +kernel)) rfl
theorem in_TR_readCondition : Cond.instanceMethod y_TR_readCondition ∈ z_T := z_in (z_mem 764 (by decide +kernel)) rfl
theorem km_TR_117 : Cond.methodLink "QuestionText$TextReader" 117 y_TR_readTerm ∈ z_T := z_in (z_mem 766 (by decide +kernel)) rfl
theorem in_TR_readTerm : Cond.instanceMethod y_TR_readTerm ∈ z_T := z_in (z_mem 768 (by decide +kernel)) rfl
theorem kc_TR_126 : Cond.classLink "QuestionText$TextReader" 126 "QuestionText$Term" ∈ z_T := z_in (z_mem 770 (by decide +kernel)) rfl
theorem mk_Te : Cond.instantiable "QuestionText$Term" 3 ∈ z_T := z_in (z_mem 771 (by decide +kernel)) rfl
theorem km_TR_128 : Cond.methodLink "QuestionText$TextReader" 128 y_Te_init ∈ z_T := z_in (z_mem 772 (by decide +kernel)) rfl
theorem in_Te_init : Cond.instanceMethod y_Te_init ∈ z_T := z_in (z_mem 773 (by decide +kernel)) rfl
theorem km_Te_3 : Cond.methodLink "QuestionText$Term" 3 ⟨"java/lang/Object", "<init>", "()V"⟩ ∈ z_T := z_in (z_mem 775 (by decide +kernel)) rfl
theorem kf_Te_9 : Cond.fieldLink "QuestionText$Term" 9 "QuestionText$Term" "about" "I" ∈ z_T := z_in (z_mem 776 (by decide +kernel)) rfl
theorem kf_Te_15 : Cond.fieldLink "QuestionText$Term" 15 "QuestionText$Term" "relation" "I" ∈ z_T := z_in (z_mem 777 (by decide +kernel)) rfl
theorem kf_Te_18 : Cond.fieldLink "QuestionText$Term" 18 "QuestionText$Term" "value" "I" ∈ z_T := z_in (z_mem 778 (by decide +kernel)) rfl
theorem kc_TR_121 : Cond.classLink "QuestionText$TextReader" 121 "QuestionText$Condition" ∈ z_T := z_in (z_mem 786 (by decide +kernel)) rfl
theorem mk_Co : Cond.instantiable "QuestionText$Condition" 2 ∈ z_T := z_in (z_mem 787 (by decide +kernel)) rfl
theorem km_TR_123 : Cond.methodLink "QuestionText$TextReader" 123 y_Co_init ∈ z_T := z_in (z_mem 788 (by decide +kernel)) rfl
theorem in_Co_init : Cond.instanceMethod y_Co_init ∈ z_T := z_in (z_mem 789 (by decide +kernel)) rfl
theorem km_Co_1 : Cond.methodLink "QuestionText$Condition" 1 ⟨"java/lang/Object", "<init>", "()V"⟩ ∈ z_T := z_in (z_mem 791 (by decide +kernel)) rfl
theorem kf_Co_7 : Cond.fieldLink "QuestionText$Condition" 7 "QuestionText$Condition" "terms" "Ljava/util/List;" ∈ z_T := z_in (z_mem 792 (by decide +kernel)) rfl
theorem kf_Co_13 : Cond.fieldLink "QuestionText$Condition" 13 "QuestionText$Condition" "priority" "I" ∈ z_T := z_in (z_mem 793 (by decide +kernel)) rfl
theorem kf_Ki_36 : Cond.fieldLinkNest "QuestionText$Kind" 36 "QuestionText$Condition" "priority" "I" "QuestionText" ∈ z_NW := z_inN (z_mem 794 (by decide +kernel)) rfl
theorem mk_Ki : Cond.instantiable "QuestionText$Kind" 3 ∈ z_T := z_in (z_mem 800 (by decide +kernel)) rfl
theorem km_TR_114 : Cond.methodLink "QuestionText$TextReader" 114 y_Ki_init ∈ z_T := z_in (z_mem 801 (by decide +kernel)) rfl
theorem in_Ki_init : Cond.instanceMethod y_Ki_init ∈ z_T := z_in (z_mem 802 (by decide +kernel)) rfl
theorem km_Ki_1 : Cond.methodLink "QuestionText$Kind" 1 ⟨"java/lang/Object", "<init>", "()V"⟩ ∈ z_T := z_in (z_mem 804 (by decide +kernel)) rfl
theorem kf_Ki_7 : Cond.fieldLink "QuestionText$Kind" 7 "QuestionText$Kind" "first" "I" ∈ z_T := z_in (z_mem 805 (by decide +kernel)) rfl
theorem kf_Ed_45 : Cond.fieldLinkNest "QuestionText$Edition" 45 "QuestionText$Kind" "first" "I" "QuestionText" ∈ z_NW := z_inN (z_mem 806 (by decide +kernel)) rfl
theorem kf_Q_102 : Cond.fieldLinkNest "QuestionText" 102 "QuestionText$Kind" "first" "I" "QuestionText" ∈ z_NW := z_inN (z_mem 807 (by decide +kernel)) rfl
theorem kf_Ki_13 : Cond.fieldLink "QuestionText$Kind" 13 "QuestionText$Kind" "priority" "I" ∈ z_T := z_in (z_mem 808 (by decide +kernel)) rfl
theorem kf_Ki_16 : Cond.fieldLink "QuestionText$Kind" 16 "QuestionText$Kind" "conditions" "Ljava/util/List;" ∈ z_T := z_in (z_mem 809 (by decide +kernel)) rfl
theorem km_Q_79 : Cond.methodLink "QuestionText" 79 y_Ed_putRows ∈ z_T := z_in (z_mem 819 (by decide +kernel)) rfl
theorem in_Ed_putRows : Cond.instanceMethod y_Ed_putRows ∈ z_T := z_in (z_mem 820 (by decide +kernel)) rfl
theorem se_Ed_putRows : Cond.selects "QuestionText$Edition" y_Ed_putRows y_Ed_putRows ∈ z_T := z_in (z_mem 821 (by decide +kernel)) rfl
theorem km_Q_85 : Cond.methodLink "QuestionText" 85 y_Ed_study ∈ z_T := z_in (z_mem 823 (by decide +kernel)) rfl
theorem in_Ed_study : Cond.instanceMethod y_Ed_study ∈ z_T := z_in (z_mem 824 (by decide +kernel)) rfl
theorem se_Ed_study : Cond.selects "QuestionText$Edition" y_Ed_study y_Ed_study ∈ z_T := z_in (z_mem 825 (by decide +kernel)) rfl
theorem km_Ed_41 : Cond.methodLink "QuestionText$Edition" 41 y_Ed_waysByJumps ∈ z_T := z_in (z_mem 827 (by decide +kernel)) rfl
theorem in_Ed_waysByJumps : Cond.instanceMethod y_Ed_waysByJumps ∈ z_T := z_in (z_mem 829 (by decide +kernel)) rfl
theorem km_Ed_56 : Cond.methodLink "QuestionText$Edition" 56 y_Ed_targetsOf ∈ z_T := z_in (z_mem 831 (by decide +kernel)) rfl
theorem in_Ed_targetsOf : Cond.instanceMethod y_Ed_targetsOf ∈ z_T := z_in (z_mem 833 (by decide +kernel)) rfl
theorem km_Ed_48 : Cond.methodLink "QuestionText$Edition" 48 y_Ed_asNext ∈ z_T := z_in (z_mem 835 (by decide +kernel)) rfl
theorem in_Ed_asNext : Cond.instanceMethod y_Ed_asNext ∈ z_T := z_in (z_mem 836 (by decide +kernel)) rfl
theorem se_Ed_asNext : Cond.selects "QuestionText$Edition" y_Ed_asNext y_Ed_asNext ∈ z_T := z_in (z_mem 837 (by decide +kernel)) rfl
theorem km_Ed_37 : Cond.methodLink "QuestionText$Edition" 37 y_Ed_questionAt ∈ z_T := z_in (z_mem 839 (by decide +kernel)) rfl
theorem in_Ed_questionAt : Cond.instanceMethod y_Ed_questionAt ∈ z_T := z_in (z_mem 840 (by decide +kernel)) rfl
theorem se_Ed_questionAt : Cond.selects "QuestionText$Edition" y_Ed_questionAt y_Ed_questionAt ∈ z_T := z_in (z_mem 841 (by decide +kernel)) rfl
theorem km_Ed_73 : Cond.methodLink "QuestionText$Edition" 73 ⟨"java/util/List", "size", "()I"⟩ ∈ z_T := z_in (z_mem 844 (by decide +kernel)) rfl
theorem km_Ed_78 : Cond.methodLink "QuestionText$Edition" 78 ⟨"java/util/List", "get", "(I)Ljava/lang/Object;"⟩ ∈ z_T := z_in (z_mem 853 (by decide +kernel)) rfl
theorem km_AL_118 : Cond.methodLink "java/util/ArrayList" 118 ⟨"java/util/Objects", "checkIndex", "(II)I"⟩ ∈ z_T := z_in (z_mem 861 (by decide +kernel)) rfl
theorem km_AL_123 : Cond.methodLink "java/util/ArrayList" 123 ⟨"java/util/ArrayList", "elementData", "(I)Ljava/lang/Object;"⟩ ∈ z_T := z_in (z_mem 867 (by decide +kernel)) rfl
theorem kc_Ed_65 : Cond.classLink "QuestionText$Edition" 65 "QuestionText$Jump" ∈ z_T := z_in (z_mem 871 (by decide +kernel)) rfl
theorem km_Ed_52 : Cond.methodLinkNest "QuestionText$Edition" 52 y_Q_hasMember "QuestionText" ∈ z_NW := z_inN (z_mem 872 (by decide +kernel)) rfl
theorem st_Q_hasMember : Cond.static y_Q_hasMember ∈ z_T := z_in (z_mem 873 (by decide +kernel)) rfl
theorem km_La_76 : Cond.methodLink "QuestionTextLaw" 76 y_La_edition ∈ z_T := z_in (z_mem 876 (by decide +kernel)) rfl
theorem st_La_edition : Cond.static y_La_edition ∈ z_T := z_in (z_mem 877 (by decide +kernel)) rfl
theorem km_La_21 : Cond.methodLink "QuestionTextLaw" 21 y_Q_edition ∈ z_T := z_in (z_mem 879 (by decide +kernel)) rfl
theorem in_Q_edition : Cond.instanceMethod y_Q_edition ∈ z_T := z_in (z_mem 880 (by decide +kernel)) rfl
theorem se_Q_edition : Cond.selects "QuestionText" y_Q_edition y_Q_edition ∈ z_T := z_in (z_mem 881 (by decide +kernel)) rfl
theorem km_La_80 : Cond.methodLink "QuestionTextLaw" 80 y_La_first ∈ z_T := z_in (z_mem 884 (by decide +kernel)) rfl
theorem st_La_first : Cond.static y_La_first ∈ z_T := z_in (z_mem 885 (by decide +kernel)) rfl
theorem km_La_25 : Cond.methodLink "QuestionTextLaw" 25 y_Q_first ∈ z_T := z_in (z_mem 887 (by decide +kernel)) rfl
theorem in_Q_first : Cond.instanceMethod y_Q_first ∈ z_T := z_in (z_mem 888 (by decide +kernel)) rfl
theorem se_Q_first : Cond.selects "QuestionText" y_Q_first y_Q_first ∈ z_T := z_in (z_mem 889 (by decide +kernel)) rfl
theorem km_Q_93 : Cond.methodLink "QuestionText" 93 y_Ed_kindAt ∈ z_T := z_in (z_mem 891 (by decide +kernel)) rfl
theorem in_Ed_kindAt : Cond.instanceMethod y_Ed_kindAt ∈ z_T := z_in (z_mem 892 (by decide +kernel)) rfl
theorem se_Ed_kindAt : Cond.selects "QuestionText$Edition" y_Ed_kindAt y_Ed_kindAt ∈ z_T := z_in (z_mem 893 (by decide +kernel)) rfl
theorem km_Q_107 : Cond.methodLink "QuestionText" 107 y_Ed_asNext ∈ z_T := z_in (z_mem 896 (by decide +kernel)) rfl
theorem km_Q_111 : Cond.methodLink "QuestionText" 111 y_Ca_ask ∈ z_T := z_in (z_mem 897 (by decide +kernel)) rfl
theorem in_Ca_ask : Cond.instanceMethod y_Ca_ask ∈ z_T := z_in (z_mem 898 (by decide +kernel)) rfl
theorem se_Ca_ask : Cond.selects "QuestionText$Call" y_Ca_ask y_Ca_ask ∈ z_T := z_in (z_mem 899 (by decide +kernel)) rfl
theorem km_La_83 : Cond.methodLink "QuestionTextLaw" 83 y_La_answer ∈ z_T := z_in (z_mem 901 (by decide +kernel)) rfl
theorem st_La_answer : Cond.static y_La_answer ∈ z_T := z_in (z_mem 902 (by decide +kernel)) rfl
theorem km_La_28 : Cond.methodLink "QuestionTextLaw" 28 y_Q_answer ∈ z_T := z_in (z_mem 904 (by decide +kernel)) rfl
theorem in_Q_answer : Cond.instanceMethod y_Q_answer ∈ z_T := z_in (z_mem 905 (by decide +kernel)) rfl
theorem se_Q_answer : Cond.selects "QuestionText" y_Q_answer y_Q_answer ∈ z_T := z_in (z_mem 906 (by decide +kernel)) rfl
theorem km_Q_117 : Cond.methodLink "QuestionText" 117 y_Ed_questionAt ∈ z_T := z_in (z_mem 908 (by decide +kernel)) rfl
theorem km_Q_123 : Cond.methodLink "QuestionText" 123 y_Qu_allows ∈ z_T := z_in (z_mem 910 (by decide +kernel)) rfl
theorem in_Qu_allows : Cond.instanceMethod y_Qu_allows ∈ z_T := z_in (z_mem 911 (by decide +kernel)) rfl
theorem se_Qu_allows : Cond.selects "QuestionText$Question" y_Qu_allows y_Qu_allows ∈ z_T := z_in (z_mem 912 (by decide +kernel)) rfl
theorem km_Qu_34 : Cond.methodLink "QuestionText$Question" 34 y_Sp_has ∈ z_T := z_in (z_mem 914 (by decide +kernel)) rfl
theorem in_Sp_has : Cond.instanceMethod y_Sp_has ∈ z_T := z_in (z_mem 915 (by decide +kernel)) rfl
theorem se_Sp_has : Cond.selects "QuestionText$Span" y_Sp_has y_Sp_has ∈ z_T := z_in (z_mem 916 (by decide +kernel)) rfl
theorem km_Q_131 : Cond.methodLink "QuestionText" 131 y_Qu_jumpFor ∈ z_T := z_in (z_mem 919 (by decide +kernel)) rfl
theorem in_Qu_jumpFor : Cond.instanceMethod y_Qu_jumpFor ∈ z_T := z_in (z_mem 920 (by decide +kernel)) rfl
theorem se_Qu_jumpFor : Cond.selects "QuestionText$Question" y_Qu_jumpFor y_Qu_jumpFor ∈ z_T := z_in (z_mem 921 (by decide +kernel)) rfl
theorem km_Qu_40 : Cond.methodLink "QuestionText$Question" 40 ⟨"java/util/List", "size", "()I"⟩ ∈ z_T := z_in (z_mem 924 (by decide +kernel)) rfl
theorem km_Qu_46 : Cond.methodLink "QuestionText$Question" 46 ⟨"java/util/List", "get", "(I)Ljava/lang/Object;"⟩ ∈ z_T := z_in (z_mem 926 (by decide +kernel)) rfl
theorem kc_Qu_50 : Cond.classLink "QuestionText$Question" 50 "QuestionText$Jump" ∈ z_T := z_in (z_mem 927 (by decide +kernel)) rfl
theorem km_La_90 : Cond.methodLink "QuestionTextLaw" 90 y_La_priority ∈ z_T := z_in (z_mem 929 (by decide +kernel)) rfl
theorem st_La_priority : Cond.static y_La_priority ∈ z_T := z_in (z_mem 930 (by decide +kernel)) rfl
theorem km_La_31 : Cond.methodLink "QuestionTextLaw" 31 y_Q_priority ∈ z_T := z_in (z_mem 932 (by decide +kernel)) rfl
theorem in_Q_priority : Cond.instanceMethod y_Q_priority ∈ z_T := z_in (z_mem 933 (by decide +kernel)) rfl
theorem se_Q_priority : Cond.selects "QuestionText" y_Q_priority y_Q_priority ∈ z_T := z_in (z_mem 934 (by decide +kernel)) rfl
theorem km_Q_155 : Cond.methodLink "QuestionText" 155 y_Ki_priorityOf ∈ z_T := z_in (z_mem 937 (by decide +kernel)) rfl
theorem in_Ki_priorityOf : Cond.instanceMethod y_Ki_priorityOf ∈ z_T := z_in (z_mem 938 (by decide +kernel)) rfl
theorem se_Ki_priorityOf : Cond.selects "QuestionText$Kind" y_Ki_priorityOf y_Ki_priorityOf ∈ z_T := z_in (z_mem 939 (by decide +kernel)) rfl
theorem km_Ki_20 : Cond.methodLink "QuestionText$Kind" 20 ⟨"java/util/List", "size", "()I"⟩ ∈ z_T := z_in (z_mem 942 (by decide +kernel)) rfl
theorem km_Ki_26 : Cond.methodLink "QuestionText$Kind" 26 ⟨"java/util/List", "get", "(I)Ljava/lang/Object;"⟩ ∈ z_T := z_in (z_mem 944 (by decide +kernel)) rfl
theorem kc_Ki_30 : Cond.classLink "QuestionText$Kind" 30 "QuestionText$Condition" ∈ z_T := z_in (z_mem 945 (by decide +kernel)) rfl
theorem km_Ki_32 : Cond.methodLink "QuestionText$Kind" 32 y_Co_holds ∈ z_T := z_in (z_mem 946 (by decide +kernel)) rfl
theorem in_Co_holds : Cond.instanceMethod y_Co_holds ∈ z_T := z_in (z_mem 947 (by decide +kernel)) rfl
theorem se_Co_holds : Cond.selects "QuestionText$Condition" y_Co_holds y_Co_holds ∈ z_T := z_in (z_mem 948 (by decide +kernel)) rfl
theorem km_Co_17 : Cond.methodLink "QuestionText$Condition" 17 ⟨"java/util/List", "size", "()I"⟩ ∈ z_T := z_in (z_mem 951 (by decide +kernel)) rfl
theorem km_Co_23 : Cond.methodLink "QuestionText$Condition" 23 ⟨"java/util/List", "get", "(I)Ljava/lang/Object;"⟩ ∈ z_T := z_in (z_mem 953 (by decide +kernel)) rfl
theorem kc_Co_27 : Cond.classLink "QuestionText$Condition" 27 "QuestionText$Term" ∈ z_T := z_in (z_mem 954 (by decide +kernel)) rfl
theorem km_Co_29 : Cond.methodLink "QuestionText$Condition" 29 y_Te_holds ∈ z_T := z_in (z_mem 955 (by decide +kernel)) rfl
theorem in_Te_holds : Cond.instanceMethod y_Te_holds ∈ z_T := z_in (z_mem 956 (by decide +kernel)) rfl
theorem se_Te_holds : Cond.selects "QuestionText$Term" y_Te_holds y_Te_holds ∈ z_T := z_in (z_mem 957 (by decide +kernel)) rfl
theorem km_La_93 : Cond.methodLink "QuestionTextLaw" 93 y_La_points ∈ z_T := z_in (z_mem 959 (by decide +kernel)) rfl
theorem st_La_points : Cond.static y_La_points ∈ z_T := z_in (z_mem 960 (by decide +kernel)) rfl
theorem km_La_34 : Cond.methodLink "QuestionTextLaw" 34 y_Q_points ∈ z_T := z_in (z_mem 962 (by decide +kernel)) rfl
theorem in_Q_points : Cond.instanceMethod y_Q_points ∈ z_T := z_in (z_mem 963 (by decide +kernel)) rfl
theorem se_Q_points : Cond.selects "QuestionText" y_Q_points y_Q_points ∈ z_T := z_in (z_mem 964 (by decide +kernel)) rfl
theorem km_La_96 : Cond.methodLink "QuestionTextLaw" 96 y_La_asked ∈ z_T := z_in (z_mem 966 (by decide +kernel)) rfl
theorem st_La_asked : Cond.static y_La_asked ∈ z_T := z_in (z_mem 967 (by decide +kernel)) rfl
theorem km_La_37 : Cond.methodLink "QuestionTextLaw" 37 y_Q_asked ∈ z_T := z_in (z_mem 969 (by decide +kernel)) rfl
theorem in_Q_asked : Cond.instanceMethod y_Q_asked ∈ z_T := z_in (z_mem 970 (by decide +kernel)) rfl
theorem se_Q_asked : Cond.selects "QuestionText" y_Q_asked y_Q_asked ∈ z_T := z_in (z_mem 971 (by decide +kernel)) rfl
theorem km_La_99 : Cond.methodLink "QuestionTextLaw" 99 y_La_loop ∈ z_T := z_in (z_mem 974 (by decide +kernel)) rfl
theorem st_La_loop : Cond.static y_La_loop ∈ z_T := z_in (z_mem 975 (by decide +kernel)) rfl
theorem km_La_40 : Cond.methodLink "QuestionTextLaw" 40 y_Q_loop ∈ z_T := z_in (z_mem 977 (by decide +kernel)) rfl
theorem in_Q_loop : Cond.instanceMethod y_Q_loop ∈ z_T := z_in (z_mem 978 (by decide +kernel)) rfl
theorem se_Q_loop : Cond.selects "QuestionText" y_Q_loop y_Q_loop ∈ z_T := z_in (z_mem 979 (by decide +kernel)) rfl
theorem km_Q_168 : Cond.methodLink "QuestionText" 168 y_Q_memberOf ∈ z_T := z_in (z_mem 981 (by decide +kernel)) rfl
theorem st_Q_memberOf : Cond.static y_Q_memberOf ∈ z_T := z_in (z_mem 982 (by decide +kernel)) rfl
theorem km_Q_186 : Cond.methodLink "QuestionText" 186 y_Q_hasMember ∈ z_T := z_in (z_mem 984 (by decide +kernel)) rfl
theorem km_La_102 : Cond.methodLink "QuestionTextLaw" 102 y_La_never ∈ z_T := z_in (z_mem 985 (by decide +kernel)) rfl
theorem st_La_never : Cond.static y_La_never ∈ z_T := z_in (z_mem 986 (by decide +kernel)) rfl
theorem km_La_43 : Cond.methodLink "QuestionTextLaw" 43 y_Q_never ∈ z_T := z_in (z_mem 988 (by decide +kernel)) rfl
theorem in_Q_never : Cond.instanceMethod y_Q_never ∈ z_T := z_in (z_mem 989 (by decide +kernel)) rfl
theorem se_Q_never : Cond.selects "QuestionText" y_Q_never y_Q_never ∈ z_T := z_in (z_mem 990 (by decide +kernel)) rfl
theorem km_La_105 : Cond.methodLink "QuestionTextLaw" 105 y_La_endless ∈ z_T := z_in (z_mem 992 (by decide +kernel)) rfl
theorem st_La_endless : Cond.static y_La_endless ∈ z_T := z_in (z_mem 993 (by decide +kernel)) rfl
theorem km_La_46 : Cond.methodLink "QuestionTextLaw" 46 y_Q_endless ∈ z_T := z_in (z_mem 995 (by decide +kernel)) rfl
theorem in_Q_endless : Cond.instanceMethod y_Q_endless ∈ z_T := z_in (z_mem 996 (by decide +kernel)) rfl
theorem se_Q_endless : Cond.selects "QuestionText" y_Q_endless y_Q_endless ∈ z_T := z_in (z_mem 997 (by decide +kernel)) rfl
theorem km_La_108 : Cond.methodLink "QuestionTextLaw" 108 y_La_word ∈ z_T := z_in (z_mem 999 (by decide +kernel)) rfl
theorem st_La_word : Cond.static y_La_word ∈ z_T := z_in (z_mem 1000 (by decide +kernel)) rfl
theorem km_La_49 : Cond.methodLink "QuestionTextLaw" 49 y_Q_word ∈ z_T := z_in (z_mem 1002 (by decide +kernel)) rfl
theorem in_Q_word : Cond.instanceMethod y_Q_word ∈ z_T := z_in (z_mem 1003 (by decide +kernel)) rfl
theorem se_Q_word : Cond.selects "QuestionText" y_Q_word y_Q_word ∈ z_T := z_in (z_mem 1004 (by decide +kernel)) rfl
theorem kc_La_54 : Cond.classLink "QuestionTextLaw" 54 "QuestionTextModel" ∈ z_T := z_in (z_mem 1007 (by decide +kernel)) rfl
theorem mk_Mo : Cond.instantiable "QuestionTextModel" 31 ∈ z_T := z_in (z_mem 1008 (by decide +kernel)) rfl
theorem km_La_56 : Cond.methodLink "QuestionTextLaw" 56 y_Mo_init ∈ z_T := z_in (z_mem 1009 (by decide +kernel)) rfl
theorem in_Mo_init : Cond.instanceMethod y_Mo_init ∈ z_T := z_in (z_mem 1010 (by decide +kernel)) rfl
theorem km_Mo_1 : Cond.methodLink "QuestionTextModel" 1 ⟨"java/lang/Object", "<init>", "()V"⟩ ∈ z_T := z_in (z_mem 1012 (by decide +kernel)) rfl
theorem kf_Mo_69 : Cond.fieldLink "QuestionTextModel" 69 "QuestionTextModel" "thrown" "I" ∈ z_T := z_in (z_mem 1013 (by decide +kernel)) rfl
theorem kf_Mo_76 : Cond.fieldLink "QuestionTextModel" 76 "QuestionTextModel" "taped" "I" ∈ z_T := z_in (z_mem 1014 (by decide +kernel)) rfl
theorem kf_Mo_7 : Cond.fieldLink "QuestionTextModel" 7 "QuestionTextModel" "tape" "[I" ∈ z_T := z_in (z_mem 1015 (by decide +kernel)) rfl
theorem kf_Mo_13 : Cond.fieldLink "QuestionTextModel" 13 "QuestionTextModel" "place" "I" ∈ z_T := z_in (z_mem 1016 (by decide +kernel)) rfl
theorem kf_Mo_129 : Cond.fieldLink "QuestionTextModel" 129 "QuestionTextModel" "editions" "I" ∈ z_T := z_in (z_mem 1017 (by decide +kernel)) rfl
theorem kf_Mo_126 : Cond.fieldLink "QuestionTextModel" 126 "QuestionTextModel" "chosen" "I" ∈ z_T := z_in (z_mem 1018 (by decide +kernel)) rfl
theorem kf_Mo_17 : Cond.fieldLink "QuestionTextModel" 17 "QuestionTextModel" "is" "[Z" ∈ z_T := z_in (z_mem 1019 (by decide +kernel)) rfl
theorem kf_Mo_21 : Cond.fieldLink "QuestionTextModel" 21 "QuestionTextModel" "must" "[Z" ∈ z_T := z_in (z_mem 1020 (by decide +kernel)) rfl
theorem kf_Mo_24 : Cond.fieldLink "QuestionTextModel" 24 "QuestionTextModel" "low" "[I" ∈ z_T := z_in (z_mem 1021 (by decide +kernel)) rfl
theorem kf_Mo_27 : Cond.fieldLink "QuestionTextModel" 27 "QuestionTextModel" "high" "[I" ∈ z_T := z_in (z_mem 1022 (by decide +kernel)) rfl
theorem kf_Mo_30 : Cond.fieldLink "QuestionTextModel" 30 "QuestionTextModel" "length" "[I" ∈ z_T := z_in (z_mem 1023 (by decide +kernel)) rfl
theorem kf_Mo_33 : Cond.fieldLink "QuestionTextModel" 33 "QuestionTextModel" "letter" "[I" ∈ z_T := z_in (z_mem 1024 (by decide +kernel)) rfl
theorem kf_Mo_36 : Cond.fieldLink "QuestionTextModel" 36 "QuestionTextModel" "jumps" "[I" ∈ z_T := z_in (z_mem 1025 (by decide +kernel)) rfl
theorem kf_Mo_39 : Cond.fieldLink "QuestionTextModel" 39 "QuestionTextModel" "jump" "[I" ∈ z_T := z_in (z_mem 1026 (by decide +kernel)) rfl
theorem kf_Mo_42 : Cond.fieldLink "QuestionTextModel" 42 "QuestionTextModel" "begins" "[I" ∈ z_T := z_in (z_mem 1027 (by decide +kernel)) rfl
theorem kf_Mo_45 : Cond.fieldLink "QuestionTextModel" 45 "QuestionTextModel" "base" "[I" ∈ z_T := z_in (z_mem 1028 (by decide +kernel)) rfl
theorem kf_Mo_48 : Cond.fieldLink "QuestionTextModel" 48 "QuestionTextModel" "conditions" "[I" ∈ z_T := z_in (z_mem 1029 (by decide +kernel)) rfl
theorem kf_Mo_51 : Cond.fieldLink "QuestionTextModel" 51 "QuestionTextModel" "condition" "[I" ∈ z_T := z_in (z_mem 1030 (by decide +kernel)) rfl
theorem kf_Mo_79 : Cond.fieldLink "QuestionTextModel" 79 "QuestionTextModel" "at" "I" ∈ z_T := z_in (z_mem 1031 (by decide +kernel)) rfl
theorem kf_Mo_86 : Cond.fieldLink "QuestionTextModel" 86 "QuestionTextModel" "wrong" "I" ∈ z_T := z_in (z_mem 1032 (by decide +kernel)) rfl
theorem kf_Mo_100 : Cond.fieldLink "QuestionTextModel" 100 "QuestionTextModel" "digits" "I" ∈ z_T := z_in (z_mem 1033 (by decide +kernel)) rfl
theorem kf_Mo_106 : Cond.fieldLink "QuestionTextModel" 106 "QuestionTextModel" "into" "I" ∈ z_T := z_in (z_mem 1034 (by decide +kernel)) rfl
theorem kf_Mo_54 : Cond.fieldLink "QuestionTextModel" 54 "QuestionTextModel" "toldQuestion" "[Z" ∈ z_T := z_in (z_mem 1035 (by decide +kernel)) rfl
theorem kf_Mo_57 : Cond.fieldLink "QuestionTextModel" 57 "QuestionTextModel" "toldKind" "[Z" ∈ z_T := z_in (z_mem 1036 (by decide +kernel)) rfl
theorem kf_Mo_141 : Cond.fieldLink "QuestionTextModel" 141 "QuestionTextModel" "kind" "I" ∈ z_T := z_in (z_mem 1037 (by decide +kernel)) rfl
theorem kf_Mo_155 : Cond.fieldLink "QuestionTextModel" 155 "QuestionTextModel" "now" "I" ∈ z_T := z_in (z_mem 1038 (by decide +kernel)) rfl
theorem kf_Mo_161 : Cond.fieldLink "QuestionTextModel" 161 "QuestionTextModel" "points" "I" ∈ z_T := z_in (z_mem 1039 (by decide +kernel)) rfl
theorem kf_Mo_158 : Cond.fieldLink "QuestionTextModel" 158 "QuestionTextModel" "many" "I" ∈ z_T := z_in (z_mem 1040 (by decide +kernel)) rfl
theorem kf_Mo_60 : Cond.fieldLink "QuestionTextModel" 60 "QuestionTextModel" "asked" "[I" ∈ z_T := z_in (z_mem 1041 (by decide +kernel)) rfl
theorem kf_Mo_63 : Cond.fieldLink "QuestionTextModel" 63 "QuestionTextModel" "answer" "[I" ∈ z_T := z_in (z_mem 1042 (by decide +kernel)) rfl
theorem kf_Mo_66 : Cond.fieldLink "QuestionTextModel" 66 "QuestionTextModel" "mark" "[Z" ∈ z_T := z_in (z_mem 1043 (by decide +kernel)) rfl
theorem km_La_65 : Cond.methodLink "QuestionTextLaw" 65 y_Mo_thrown ∈ z_T := z_in (z_mem 1108 (by decide +kernel)) rfl
theorem in_Mo_thrown : Cond.instanceMethod y_Mo_thrown ∈ z_T := z_in (z_mem 1109 (by decide +kernel)) rfl
theorem se_Mo_thrown : Cond.selects "QuestionTextModel" y_Mo_thrown y_Mo_thrown ∈ z_T := z_in (z_mem 1110 (by decide +kernel)) rfl
theorem km_La_64 : Cond.methodLink "QuestionTextLaw" 64 y_Mo_sign ∈ z_T := z_in (z_mem 1112 (by decide +kernel)) rfl
theorem in_Mo_sign : Cond.instanceMethod y_Mo_sign ∈ z_T := z_in (z_mem 1113 (by decide +kernel)) rfl
theorem se_Mo_sign : Cond.selects "QuestionTextModel" y_Mo_sign y_Mo_sign ∈ z_T := z_in (z_mem 1114 (by decide +kernel)) rfl
theorem km_Mo_72 : Cond.methodLink "QuestionTextModel" 72 y_Mo_in ∈ z_T := z_in (z_mem 1116 (by decide +kernel)) rfl
theorem st_Mo_in : Cond.static y_Mo_in ∈ z_T := z_in (z_mem 1117 (by decide +kernel)) rfl
theorem km_La_71 : Cond.methodLink "QuestionTextLaw" 71 y_Mo_read ∈ z_T := z_in (z_mem 1119 (by decide +kernel)) rfl
theorem in_Mo_read : Cond.instanceMethod y_Mo_read ∈ z_T := z_in (z_mem 1120 (by decide +kernel)) rfl
theorem se_Mo_read : Cond.selects "QuestionTextModel" y_Mo_read y_Mo_read ∈ z_T := z_in (z_mem 1121 (by decide +kernel)) rfl
theorem km_Mo_132 : Cond.methodLink "QuestionTextModel" 132 y_Mo_copy ∈ z_T := z_in (z_mem 1123 (by decide +kernel)) rfl
theorem in_Mo_copy : Cond.instanceMethod y_Mo_copy ∈ z_T := z_in (z_mem 1125 (by decide +kernel)) rfl
theorem km_Mo_89 : Cond.methodLink "QuestionTextModel" 89 y_Mo_see ∈ z_T := z_in (z_mem 1127 (by decide +kernel)) rfl
theorem in_Mo_see : Cond.instanceMethod y_Mo_see ∈ z_T := z_in (z_mem 1129 (by decide +kernel)) rfl
theorem km_Mo_82 : Cond.methodLink "QuestionTextModel" 82 y_Mo_here ∈ z_T := z_in (z_mem 1131 (by decide +kernel)) rfl
theorem in_Mo_here : Cond.instanceMethod y_Mo_here ∈ z_T := z_in (z_mem 1133 (by decide +kernel)) rfl
theorem km_Mo_92 : Cond.methodLink "QuestionTextModel" 92 y_Mo_fail ∈ z_T := z_in (z_mem 1135 (by decide +kernel)) rfl
theorem in_Mo_fail : Cond.instanceMethod y_Mo_fail ∈ z_T := z_in (z_mem 1137 (by decide +kernel)) rfl
theorem km_Mo_135 : Cond.methodLink "QuestionTextModel" 135 y_Mo_question ∈ z_T := z_in (z_mem 1139 (by decide +kernel)) rfl
theorem in_Mo_question : Cond.instanceMethod y_Mo_question ∈ z_T := z_in (z_mem 1141 (by decide +kernel)) rfl
theorem km_Mo_109 : Cond.methodLink "QuestionTextModel" 109 y_Mo_number ∈ z_T := z_in (z_mem 1143 (by decide +kernel)) rfl
theorem in_Mo_number : Cond.instanceMethod y_Mo_number ∈ z_T := z_in (z_mem 1145 (by decide +kernel)) rfl
theorem km_Mo_96 : Cond.methodLink "QuestionTextModel" 96 y_Mo_isDigit ∈ z_T := z_in (z_mem 1147 (by decide +kernel)) rfl
theorem in_Mo_isDigit : Cond.instanceMethod y_Mo_isDigit ∈ z_T := z_in (z_mem 1149 (by decide +kernel)) rfl
theorem km_Mo_103 : Cond.methodLink "QuestionTextModel" 103 y_Mo_take ∈ z_T := z_in (z_mem 1151 (by decide +kernel)) rfl
theorem in_Mo_take : Cond.instanceMethod y_Mo_take ∈ z_T := z_in (z_mem 1153 (by decide +kernel)) rfl
theorem km_Mo_113 : Cond.methodLink "QuestionTextModel" 113 y_Mo_words ∈ z_T := z_in (z_mem 1155 (by decide +kernel)) rfl
theorem in_Mo_words : Cond.instanceMethod y_Mo_words ∈ z_T := z_in (z_mem 1157 (by decide +kernel)) rfl
theorem km_Mo_117 : Cond.methodLink "QuestionTextModel" 117 y_Mo_jump ∈ z_T := z_in (z_mem 1159 (by decide +kernel)) rfl
theorem in_Mo_jump : Cond.instanceMethod y_Mo_jump ∈ z_T := z_in (z_mem 1161 (by decide +kernel)) rfl
theorem km_Mo_138 : Cond.methodLink "QuestionTextModel" 138 y_Mo_kindRow ∈ z_T := z_in (z_mem 1163 (by decide +kernel)) rfl
theorem in_Mo_kindRow : Cond.instanceMethod y_Mo_kindRow ∈ z_T := z_in (z_mem 1165 (by decide +kernel)) rfl
theorem km_Mo_120 : Cond.methodLink "QuestionTextModel" 120 y_Mo_conditionRow ∈ z_T := z_in (z_mem 1167 (by decide +kernel)) rfl
theorem in_Mo_conditionRow : Cond.instanceMethod y_Mo_conditionRow ∈ z_T := z_in (z_mem 1169 (by decide +kernel)) rfl
theorem km_Mo_123 : Cond.methodLink "QuestionTextModel" 123 y_Mo_term ∈ z_T := z_in (z_mem 1171 (by decide +kernel)) rfl
theorem in_Mo_term : Cond.instanceMethod y_Mo_term ∈ z_T := z_in (z_mem 1173 (by decide +kernel)) rfl
theorem km_Mo_144 : Cond.methodLink "QuestionTextModel" 144 y_Mo_questions ∈ z_T := z_in (z_mem 1175 (by decide +kernel)) rfl
theorem in_Mo_questions : Cond.instanceMethod y_Mo_questions ∈ z_T := z_in (z_mem 1177 (by decide +kernel)) rfl
theorem km_La_75 : Cond.methodLink "QuestionTextLaw" 75 y_Mo_place ∈ z_T := z_in (z_mem 1179 (by decide +kernel)) rfl
theorem in_Mo_place : Cond.instanceMethod y_Mo_place ∈ z_T := z_in (z_mem 1180 (by decide +kernel)) rfl
theorem se_Mo_place : Cond.selects "QuestionTextModel" y_Mo_place y_Mo_place ∈ z_T := z_in (z_mem 1181 (by decide +kernel)) rfl
theorem km_La_79 : Cond.methodLink "QuestionTextLaw" 79 y_Mo_edition ∈ z_T := z_in (z_mem 1183 (by decide +kernel)) rfl
theorem in_Mo_edition : Cond.instanceMethod y_Mo_edition ∈ z_T := z_in (z_mem 1184 (by decide +kernel)) rfl
theorem se_Mo_edition : Cond.selects "QuestionTextModel" y_Mo_edition y_Mo_edition ∈ z_T := z_in (z_mem 1185 (by decide +kernel)) rfl
theorem km_Mo_147 : Cond.methodLink "QuestionTextModel" 147 y_Mo_says ∈ z_T := z_in (z_mem 1187 (by decide +kernel)) rfl
theorem in_Mo_says : Cond.instanceMethod y_Mo_says ∈ z_T := z_in (z_mem 1189 (by decide +kernel)) rfl
theorem km_La_82 : Cond.methodLink "QuestionTextLaw" 82 y_Mo_first ∈ z_T := z_in (z_mem 1191 (by decide +kernel)) rfl
theorem in_Mo_first : Cond.instanceMethod y_Mo_first ∈ z_T := z_in (z_mem 1192 (by decide +kernel)) rfl
theorem se_Mo_first : Cond.selects "QuestionTextModel" y_Mo_first y_Mo_first ∈ z_T := z_in (z_mem 1193 (by decide +kernel)) rfl
theorem km_Mo_164 : Cond.methodLink "QuestionTextModel" 164 y_Mo_asks ∈ z_T := z_in (z_mem 1195 (by decide +kernel)) rfl
theorem in_Mo_asks : Cond.instanceMethod y_Mo_asks ∈ z_T := z_in (z_mem 1197 (by decide +kernel)) rfl
theorem km_Mo_151 : Cond.methodLink "QuestionTextModel" 151 y_Mo_isThere ∈ z_T := z_in (z_mem 1199 (by decide +kernel)) rfl
theorem in_Mo_isThere : Cond.instanceMethod y_Mo_isThere ∈ z_T := z_in (z_mem 1201 (by decide +kernel)) rfl
theorem km_La_85 : Cond.methodLink "QuestionTextLaw" 85 y_Mo_answer ∈ z_T := z_in (z_mem 1203 (by decide +kernel)) rfl
theorem in_Mo_answer : Cond.instanceMethod y_Mo_answer ∈ z_T := z_in (z_mem 1204 (by decide +kernel)) rfl
theorem se_Mo_answer : Cond.selects "QuestionTextModel" y_Mo_answer y_Mo_answer ∈ z_T := z_in (z_mem 1205 (by decide +kernel)) rfl
theorem km_La_89 : Cond.methodLink "QuestionTextLaw" 89 y_Mo_kind ∈ z_T := z_in (z_mem 1207 (by decide +kernel)) rfl
theorem in_Mo_kind : Cond.instanceMethod y_Mo_kind ∈ z_T := z_in (z_mem 1208 (by decide +kernel)) rfl
theorem se_Mo_kind : Cond.selects "QuestionTextModel" y_Mo_kind y_Mo_kind ∈ z_T := z_in (z_mem 1209 (by decide +kernel)) rfl
theorem km_La_92 : Cond.methodLink "QuestionTextLaw" 92 y_Mo_priority ∈ z_T := z_in (z_mem 1211 (by decide +kernel)) rfl
theorem in_Mo_priority : Cond.instanceMethod y_Mo_priority ∈ z_T := z_in (z_mem 1212 (by decide +kernel)) rfl
theorem se_Mo_priority : Cond.selects "QuestionTextModel" y_Mo_priority y_Mo_priority ∈ z_T := z_in (z_mem 1213 (by decide +kernel)) rfl
theorem km_Mo_167 : Cond.methodLink "QuestionTextModel" 167 y_Mo_holds ∈ z_T := z_in (z_mem 1215 (by decide +kernel)) rfl
theorem in_Mo_holds : Cond.instanceMethod y_Mo_holds ∈ z_T := z_in (z_mem 1217 (by decide +kernel)) rfl
theorem km_La_95 : Cond.methodLink "QuestionTextLaw" 95 y_Mo_points ∈ z_T := z_in (z_mem 1219 (by decide +kernel)) rfl
theorem in_Mo_points : Cond.instanceMethod y_Mo_points ∈ z_T := z_in (z_mem 1220 (by decide +kernel)) rfl
theorem se_Mo_points : Cond.selects "QuestionTextModel" y_Mo_points y_Mo_points ∈ z_T := z_in (z_mem 1221 (by decide +kernel)) rfl
theorem km_La_98 : Cond.methodLink "QuestionTextLaw" 98 y_Mo_asked ∈ z_T := z_in (z_mem 1223 (by decide +kernel)) rfl
theorem in_Mo_asked : Cond.instanceMethod y_Mo_asked ∈ z_T := z_in (z_mem 1224 (by decide +kernel)) rfl
theorem se_Mo_asked : Cond.selects "QuestionTextModel" y_Mo_asked y_Mo_asked ∈ z_T := z_in (z_mem 1225 (by decide +kernel)) rfl
theorem km_La_101 : Cond.methodLink "QuestionTextLaw" 101 y_Mo_loop ∈ z_T := z_in (z_mem 1227 (by decide +kernel)) rfl
theorem in_Mo_loop : Cond.instanceMethod y_Mo_loop ∈ z_T := z_in (z_mem 1228 (by decide +kernel)) rfl
theorem se_Mo_loop : Cond.selects "QuestionTextModel" y_Mo_loop y_Mo_loop ∈ z_T := z_in (z_mem 1229 (by decide +kernel)) rfl
theorem km_Mo_176 : Cond.methodLink "QuestionTextModel" 176 y_Mo_loops ∈ z_T := z_in (z_mem 1231 (by decide +kernel)) rfl
theorem in_Mo_loops : Cond.instanceMethod y_Mo_loops ∈ z_T := z_in (z_mem 1233 (by decide +kernel)) rfl
theorem km_Mo_170 : Cond.methodLink "QuestionTextModel" 170 y_Mo_unmark ∈ z_T := z_in (z_mem 1235 (by decide +kernel)) rfl
theorem in_Mo_unmark : Cond.instanceMethod y_Mo_unmark ∈ z_T := z_in (z_mem 1237 (by decide +kernel)) rfl
theorem km_Mo_173 : Cond.methodLink "QuestionTextModel" 173 y_Mo_spreads ∈ z_T := z_in (z_mem 1239 (by decide +kernel)) rfl
theorem in_Mo_spreads : Cond.instanceMethod y_Mo_spreads ∈ z_T := z_in (z_mem 1241 (by decide +kernel)) rfl
theorem km_La_104 : Cond.methodLink "QuestionTextLaw" 104 y_Mo_never ∈ z_T := z_in (z_mem 1243 (by decide +kernel)) rfl
theorem in_Mo_never : Cond.instanceMethod y_Mo_never ∈ z_T := z_in (z_mem 1244 (by decide +kernel)) rfl
theorem se_Mo_never : Cond.selects "QuestionTextModel" y_Mo_never y_Mo_never ∈ z_T := z_in (z_mem 1245 (by decide +kernel)) rfl
theorem km_La_107 : Cond.methodLink "QuestionTextLaw" 107 y_Mo_endless ∈ z_T := z_in (z_mem 1247 (by decide +kernel)) rfl
theorem in_Mo_endless : Cond.instanceMethod y_Mo_endless ∈ z_T := z_in (z_mem 1248 (by decide +kernel)) rfl
theorem se_Mo_endless : Cond.selects "QuestionTextModel" y_Mo_endless y_Mo_endless ∈ z_T := z_in (z_mem 1249 (by decide +kernel)) rfl
theorem km_La_111 : Cond.methodLink "QuestionTextLaw" 111 y_Mo_word ∈ z_T := z_in (z_mem 1251 (by decide +kernel)) rfl
theorem in_Mo_word : Cond.instanceMethod y_Mo_word ∈ z_T := z_in (z_mem 1252 (by decide +kernel)) rfl
theorem se_Mo_word : Cond.selects "QuestionTextModel" y_Mo_word y_Mo_word ∈ z_T := z_in (z_mem 1253 (by decide +kernel)) rfl
theorem se_TR_forgetRows : Cond.selects "QuestionText$TextReader" y_TR_forgetRows y_TR_forgetRows ∈ z_T := z_in (z_mem 1 (by decide +kernel)) rfl
theorem se_TR_nextSign : Cond.selects "QuestionText$TextReader" y_TR_nextSign y_TR_nextSign ∈ z_T := z_in (z_mem 2 (by decide +kernel)) rfl
theorem se_TR_took : Cond.selects "QuestionText$TextReader" y_TR_took y_TR_took ∈ z_T := z_in (z_mem 3 (by decide +kernel)) rfl
theorem se_TR_readQuestion : Cond.selects "QuestionText$TextReader" y_TR_readQuestion y_TR_readQuestion ∈ z_T := z_in (z_mem 4 (by decide +kernel)) rfl
theorem se_TR_readNumber : Cond.selects "QuestionText$TextReader" y_TR_readNumber y_TR_readNumber ∈ z_T := z_in (z_mem 5 (by decide +kernel)) rfl
theorem se_TR_fail : Cond.selects "QuestionText$TextReader" y_TR_fail y_TR_fail ∈ z_T := z_in (z_mem 6 (by decide +kernel)) rfl
theorem se_TR_take : Cond.selects "QuestionText$TextReader" y_TR_take y_TR_take ∈ z_T := z_in (z_mem 7 (by decide +kernel)) rfl
theorem se_TR_readSpan : Cond.selects "QuestionText$TextReader" y_TR_readSpan y_TR_readSpan ∈ z_T := z_in (z_mem 8 (by decide +kernel)) rfl
theorem se_TR_readWords : Cond.selects "QuestionText$TextReader" y_TR_readWords y_TR_readWords ∈ z_T := z_in (z_mem 9 (by decide +kernel)) rfl
theorem se_TR_readJump : Cond.selects "QuestionText$TextReader" y_TR_readJump y_TR_readJump ∈ z_T := z_in (z_mem 10 (by decide +kernel)) rfl
theorem se_TR_readKind : Cond.selects "QuestionText$TextReader" y_TR_readKind y_TR_readKind ∈ z_T := z_in (z_mem 14 (by decide +kernel)) rfl
theorem se_TR_readCondition : Cond.selects "QuestionText$TextReader" y_TR_readCondition y_TR_readCondition ∈ z_T := z_in (z_mem 15 (by decide +kernel)) rfl
theorem se_TR_readTerm : Cond.selects "QuestionText$TextReader" y_TR_readTerm y_TR_readTerm ∈ z_T := z_in (z_mem 16 (by decide +kernel)) rfl
theorem se_Ed_waysByJumps : Cond.selects "QuestionText$Edition" y_Ed_waysByJumps y_Ed_waysByJumps ∈ z_T := z_in (z_mem 17 (by decide +kernel)) rfl
theorem se_Ed_targetsOf : Cond.selects "QuestionText$Edition" y_Ed_targetsOf y_Ed_targetsOf ∈ z_T := z_in (z_mem 18 (by decide +kernel)) rfl
theorem se_Mo_copy : Cond.selects "QuestionTextModel" y_Mo_copy y_Mo_copy ∈ z_T := z_in (z_mem 19 (by decide +kernel)) rfl
theorem se_Mo_see : Cond.selects "QuestionTextModel" y_Mo_see y_Mo_see ∈ z_T := z_in (z_mem 20 (by decide +kernel)) rfl
theorem se_Mo_here : Cond.selects "QuestionTextModel" y_Mo_here y_Mo_here ∈ z_T := z_in (z_mem 21 (by decide +kernel)) rfl
theorem se_Mo_fail : Cond.selects "QuestionTextModel" y_Mo_fail y_Mo_fail ∈ z_T := z_in (z_mem 22 (by decide +kernel)) rfl
theorem se_Mo_question : Cond.selects "QuestionTextModel" y_Mo_question y_Mo_question ∈ z_T := z_in (z_mem 23 (by decide +kernel)) rfl
theorem se_Mo_number : Cond.selects "QuestionTextModel" y_Mo_number y_Mo_number ∈ z_T := z_in (z_mem 24 (by decide +kernel)) rfl
theorem se_Mo_isDigit : Cond.selects "QuestionTextModel" y_Mo_isDigit y_Mo_isDigit ∈ z_T := z_in (z_mem 25 (by decide +kernel)) rfl
theorem se_Mo_take : Cond.selects "QuestionTextModel" y_Mo_take y_Mo_take ∈ z_T := z_in (z_mem 26 (by decide +kernel)) rfl
theorem se_Mo_words : Cond.selects "QuestionTextModel" y_Mo_words y_Mo_words ∈ z_T := z_in (z_mem 27 (by decide +kernel)) rfl
theorem se_Mo_jump : Cond.selects "QuestionTextModel" y_Mo_jump y_Mo_jump ∈ z_T := z_in (z_mem 28 (by decide +kernel)) rfl
theorem se_Mo_kindRow : Cond.selects "QuestionTextModel" y_Mo_kindRow y_Mo_kindRow ∈ z_T := z_in (z_mem 29 (by decide +kernel)) rfl
theorem se_Mo_conditionRow : Cond.selects "QuestionTextModel" y_Mo_conditionRow y_Mo_conditionRow ∈ z_T := z_in (z_mem 30 (by decide +kernel)) rfl
theorem se_Mo_term : Cond.selects "QuestionTextModel" y_Mo_term y_Mo_term ∈ z_T := z_in (z_mem 31 (by decide +kernel)) rfl
theorem se_Mo_questions : Cond.selects "QuestionTextModel" y_Mo_questions y_Mo_questions ∈ z_T := z_in (z_mem 32 (by decide +kernel)) rfl
theorem se_Mo_says : Cond.selects "QuestionTextModel" y_Mo_says y_Mo_says ∈ z_T := z_in (z_mem 33 (by decide +kernel)) rfl
theorem se_Mo_asks : Cond.selects "QuestionTextModel" y_Mo_asks y_Mo_asks ∈ z_T := z_in (z_mem 34 (by decide +kernel)) rfl
theorem se_Mo_isThere : Cond.selects "QuestionTextModel" y_Mo_isThere y_Mo_isThere ∈ z_T := z_in (z_mem 35 (by decide +kernel)) rfl
theorem se_Mo_holds : Cond.selects "QuestionTextModel" y_Mo_holds y_Mo_holds ∈ z_T := z_in (z_mem 36 (by decide +kernel)) rfl
theorem se_Mo_loops : Cond.selects "QuestionTextModel" y_Mo_loops y_Mo_loops ∈ z_T := z_in (z_mem 37 (by decide +kernel)) rfl
theorem se_Mo_unmark : Cond.selects "QuestionTextModel" y_Mo_unmark y_Mo_unmark ∈ z_T := z_in (z_mem 38 (by decide +kernel)) rfl
theorem se_Mo_spreads : Cond.selects "QuestionTextModel" y_Mo_spreads y_Mo_spreads ∈ z_T := z_in (z_mem 39 (by decide +kernel)) rfl
end
section
-- decode rows (printed by wip/whole/names.py)
theorem d_Mo_init_0 : decode b_Mo_init 0 = .ok (.aload_n 0, 1) := by decide +kernel
theorem d_Mo_init_1 : decode b_Mo_init 1 = .ok (.invokespecial 1, 3) := by decide +kernel
theorem d_Mo_init_4 : decode b_Mo_init 4 = .ok (.aload_n 0, 1) := by decide +kernel
theorem d_Mo_init_5 : decode b_Mo_init 5 = .ok (.sipush 400, 3) := by decide +kernel
theorem d_Mo_init_8 : decode b_Mo_init 8 = .ok (.newarray .int, 2) := by decide +kernel
theorem d_Mo_init_10 : decode b_Mo_init 10 = .ok (.putfield 7, 3) := by decide +kernel
theorem d_Mo_init_13 : decode b_Mo_init 13 = .ok (.aload_n 0, 1) := by decide +kernel
theorem d_Mo_init_14 : decode b_Mo_init 14 = .ok (.iconst (-1), 1) := by decide +kernel
theorem d_Mo_init_15 : decode b_Mo_init 15 = .ok (.putfield 13, 3) := by decide +kernel
theorem d_Mo_init_18 : decode b_Mo_init 18 = .ok (.aload_n 0, 1) := by decide +kernel
theorem d_Mo_init_19 : decode b_Mo_init 19 = .ok (.sipush 610, 3) := by decide +kernel
theorem d_Mo_init_22 : decode b_Mo_init 22 = .ok (.newarray .boolean, 2) := by decide +kernel
theorem d_Mo_init_24 : decode b_Mo_init 24 = .ok (.putfield 17, 3) := by decide +kernel
theorem d_Mo_init_27 : decode b_Mo_init 27 = .ok (.aload_n 0, 1) := by decide +kernel
theorem d_Mo_init_28 : decode b_Mo_init 28 = .ok (.sipush 610, 3) := by decide +kernel
theorem d_Mo_init_31 : decode b_Mo_init 31 = .ok (.newarray .boolean, 2) := by decide +kernel
theorem d_Mo_init_33 : decode b_Mo_init 33 = .ok (.putfield 21, 3) := by decide +kernel
theorem d_Mo_init_36 : decode b_Mo_init 36 = .ok (.aload_n 0, 1) := by decide +kernel
theorem d_Mo_init_37 : decode b_Mo_init 37 = .ok (.sipush 610, 3) := by decide +kernel
theorem d_Mo_init_40 : decode b_Mo_init 40 = .ok (.newarray .int, 2) := by decide +kernel
theorem d_Mo_init_42 : decode b_Mo_init 42 = .ok (.putfield 24, 3) := by decide +kernel
theorem d_Mo_init_45 : decode b_Mo_init 45 = .ok (.aload_n 0, 1) := by decide +kernel
theorem d_Mo_init_46 : decode b_Mo_init 46 = .ok (.sipush 610, 3) := by decide +kernel
theorem d_Mo_init_49 : decode b_Mo_init 49 = .ok (.newarray .int, 2) := by decide +kernel
theorem d_Mo_init_51 : decode b_Mo_init 51 = .ok (.putfield 27, 3) := by decide +kernel
theorem d_Mo_init_54 : decode b_Mo_init 54 = .ok (.aload_n 0, 1) := by decide +kernel
theorem d_Mo_init_55 : decode b_Mo_init 55 = .ok (.sipush 1220, 3) := by decide +kernel
theorem d_Mo_init_58 : decode b_Mo_init 58 = .ok (.newarray .int, 2) := by decide +kernel
theorem d_Mo_init_60 : decode b_Mo_init 60 = .ok (.putfield 30, 3) := by decide +kernel
theorem d_Mo_init_63 : decode b_Mo_init 63 = .ok (.aload_n 0, 1) := by decide +kernel
theorem d_Mo_init_64 : decode b_Mo_init 64 = .ok (.sipush 14640, 3) := by decide +kernel
theorem d_Mo_init_67 : decode b_Mo_init 67 = .ok (.newarray .int, 2) := by decide +kernel
theorem d_Mo_init_69 : decode b_Mo_init 69 = .ok (.putfield 33, 3) := by decide +kernel
theorem d_Mo_init_72 : decode b_Mo_init 72 = .ok (.aload_n 0, 1) := by decide +kernel
theorem d_Mo_init_73 : decode b_Mo_init 73 = .ok (.sipush 610, 3) := by decide +kernel
theorem d_Mo_init_76 : decode b_Mo_init 76 = .ok (.newarray .int, 2) := by decide +kernel
theorem d_Mo_init_78 : decode b_Mo_init 78 = .ok (.putfield 36, 3) := by decide +kernel
theorem d_Mo_init_81 : decode b_Mo_init 81 = .ok (.aload_n 0, 1) := by decide +kernel
theorem d_Mo_init_82 : decode b_Mo_init 82 = .ok (.sipush 14640, 3) := by decide +kernel
theorem d_Mo_init_85 : decode b_Mo_init 85 = .ok (.newarray .int, 2) := by decide +kernel
theorem d_Mo_init_87 : decode b_Mo_init 87 = .ok (.putfield 39, 3) := by decide +kernel
theorem d_Mo_init_90 : decode b_Mo_init 90 = .ok (.aload_n 0, 1) := by decide +kernel
theorem d_Mo_init_91 : decode b_Mo_init 91 = .ok (.bipush 100, 2) := by decide +kernel
theorem d_Mo_init_93 : decode b_Mo_init 93 = .ok (.newarray .int, 2) := by decide +kernel
theorem d_Mo_init_95 : decode b_Mo_init 95 = .ok (.putfield 42, 3) := by decide +kernel
theorem d_Mo_init_98 : decode b_Mo_init 98 = .ok (.aload_n 0, 1) := by decide +kernel
theorem d_Mo_init_99 : decode b_Mo_init 99 = .ok (.bipush 100, 2) := by decide +kernel
theorem d_Mo_init_101 : decode b_Mo_init 101 = .ok (.newarray .int, 2) := by decide +kernel
theorem d_Mo_init_103 : decode b_Mo_init 103 = .ok (.putfield 45, 3) := by decide +kernel
theorem d_Mo_init_106 : decode b_Mo_init 106 = .ok (.aload_n 0, 1) := by decide +kernel
theorem d_Mo_init_107 : decode b_Mo_init 107 = .ok (.bipush 100, 2) := by decide +kernel
theorem d_Mo_init_109 : decode b_Mo_init 109 = .ok (.newarray .int, 2) := by decide +kernel
theorem d_Mo_init_111 : decode b_Mo_init 111 = .ok (.putfield 48, 3) := by decide +kernel
theorem d_Mo_init_114 : decode b_Mo_init 114 = .ok (.aload_n 0, 1) := by decide +kernel
theorem d_Mo_init_115 : decode b_Mo_init 115 = .ok (.sipush 8400, 3) := by decide +kernel
theorem d_Mo_init_118 : decode b_Mo_init 118 = .ok (.newarray .int, 2) := by decide +kernel
theorem d_Mo_init_120 : decode b_Mo_init 120 = .ok (.putfield 51, 3) := by decide +kernel
theorem d_Mo_init_123 : decode b_Mo_init 123 = .ok (.aload_n 0, 1) := by decide +kernel
theorem d_Mo_init_124 : decode b_Mo_init 124 = .ok (.bipush 61, 2) := by decide +kernel
theorem d_Mo_init_126 : decode b_Mo_init 126 = .ok (.newarray .boolean, 2) := by decide +kernel
theorem d_Mo_init_128 : decode b_Mo_init 128 = .ok (.putfield 54, 3) := by decide +kernel
theorem d_Mo_init_131 : decode b_Mo_init 131 = .ok (.aload_n 0, 1) := by decide +kernel
theorem d_Mo_init_132 : decode b_Mo_init 132 = .ok (.bipush 10, 2) := by decide +kernel
theorem d_Mo_init_134 : decode b_Mo_init 134 = .ok (.newarray .boolean, 2) := by decide +kernel
theorem d_Mo_init_136 : decode b_Mo_init 136 = .ok (.putfield 57, 3) := by decide +kernel
theorem d_Mo_init_139 : decode b_Mo_init 139 = .ok (.aload_n 0, 1) := by decide +kernel
theorem d_Mo_init_140 : decode b_Mo_init 140 = .ok (.bipush 40, 2) := by decide +kernel
theorem d_Mo_init_142 : decode b_Mo_init 142 = .ok (.newarray .int, 2) := by decide +kernel
theorem d_Mo_init_144 : decode b_Mo_init 144 = .ok (.putfield 60, 3) := by decide +kernel
theorem d_Mo_init_147 : decode b_Mo_init 147 = .ok (.aload_n 0, 1) := by decide +kernel
theorem d_Mo_init_148 : decode b_Mo_init 148 = .ok (.bipush 61, 2) := by decide +kernel
theorem d_Mo_init_150 : decode b_Mo_init 150 = .ok (.newarray .int, 2) := by decide +kernel
theorem d_Mo_init_152 : decode b_Mo_init 152 = .ok (.putfield 63, 3) := by decide +kernel
theorem d_Mo_init_155 : decode b_Mo_init 155 = .ok (.aload_n 0, 1) := by decide +kernel
theorem d_Mo_init_156 : decode b_Mo_init 156 = .ok (.bipush 61, 2) := by decide +kernel
theorem d_Mo_init_158 : decode b_Mo_init 158 = .ok (.newarray .boolean, 2) := by decide +kernel
theorem d_Mo_init_160 : decode b_Mo_init 160 = .ok (.putfield 66, 3) := by decide +kernel
theorem d_Mo_init_163 : decode b_Mo_init 163 = .ok (.return_, 1) := by decide +kernel
theorem d_Mo_thrown_0 : decode b_Mo_thrown 0 = .ok (.aload_n 0, 1) := by decide +kernel
theorem d_Mo_thrown_1 : decode b_Mo_thrown 1 = .ok (.getfield 69, 3) := by decide +kernel
theorem d_Mo_thrown_4 : decode b_Mo_thrown 4 = .ok (.ireturn, 1) := by decide +kernel
theorem d_Mo_in_0 : decode b_Mo_in 0 = .ok (.iload_n 0, 1) := by decide +kernel
theorem d_Mo_in_1 : decode b_Mo_in 1 = .ok (.iload_n 1, 1) := by decide +kernel
theorem d_Mo_in_2 : decode b_Mo_in 2 = .ok (.if_icmp .lt 12, 3) := by decide +kernel
theorem d_Mo_in_5 : decode b_Mo_in 5 = .ok (.iload_n 0, 1) := by decide +kernel
theorem d_Mo_in_6 : decode b_Mo_in 6 = .ok (.iload_n 2, 1) := by decide +kernel
theorem d_Mo_in_7 : decode b_Mo_in 7 = .ok (.if_icmp .gt 7, 3) := by decide +kernel
theorem d_Mo_in_10 : decode b_Mo_in 10 = .ok (.iconst 1, 1) := by decide +kernel
theorem d_Mo_in_11 : decode b_Mo_in 11 = .ok (.goto 4, 3) := by decide +kernel
theorem d_Mo_in_14 : decode b_Mo_in 14 = .ok (.iconst 0, 1) := by decide +kernel
theorem d_Mo_in_15 : decode b_Mo_in 15 = .ok (.ireturn, 1) := by decide +kernel
theorem d_Mo_says_0 : decode b_Mo_says 0 = .ok (.aload_n 0, 1) := by decide +kernel
theorem d_Mo_says_1 : decode b_Mo_says 1 = .ok (.iload_n 1, 1) := by decide +kernel
theorem d_Mo_says_2 : decode b_Mo_says 2 = .ok (.ifCond .eq 7, 3) := by decide +kernel
theorem d_Mo_says_5 : decode b_Mo_says 5 = .ok (.iconst 0, 1) := by decide +kernel
theorem d_Mo_says_6 : decode b_Mo_says 6 = .ok (.goto 4, 3) := by decide +kernel
theorem d_Mo_says_9 : decode b_Mo_says 9 = .ok (.iconst 1, 1) := by decide +kernel
theorem d_Mo_says_10 : decode b_Mo_says 10 = .ok (.putfield 69, 3) := by decide +kernel
theorem d_Mo_says_13 : decode b_Mo_says 13 = .ok (.iload_n 1, 1) := by decide +kernel
theorem d_Mo_says_14 : decode b_Mo_says 14 = .ok (.ireturn, 1) := by decide +kernel
theorem d_Mo_sign_0 : decode b_Mo_sign 0 = .ok (.aload_n 0, 1) := by decide +kernel
theorem d_Mo_sign_1 : decode b_Mo_sign 1 = .ok (.iload_n 3, 1) := by decide +kernel
theorem d_Mo_sign_2 : decode b_Mo_sign 2 = .ok (.iconst 1, 1) := by decide +kernel
theorem d_Mo_sign_3 : decode b_Mo_sign 3 = .ok (.bipush 8, 2) := by decide +kernel
theorem d_Mo_sign_5 : decode b_Mo_sign 5 = .ok (.invokestatic 72, 3) := by decide +kernel
theorem d_Mo_sign_8 : decode b_Mo_sign 8 = .ok (.ifCond .ne 7, 3) := by decide +kernel
theorem d_Mo_sign_11 : decode b_Mo_sign 11 = .ok (.iconst 1, 1) := by decide +kernel
theorem d_Mo_sign_12 : decode b_Mo_sign 12 = .ok (.goto 20, 3) := by decide +kernel
theorem d_Mo_sign_15 : decode b_Mo_sign 15 = .ok (.aload_n 0, 1) := by decide +kernel
theorem d_Mo_sign_16 : decode b_Mo_sign 16 = .ok (.getfield 76, 3) := by decide +kernel
theorem d_Mo_sign_19 : decode b_Mo_sign 19 = .ok (.iload_n 3, 1) := by decide +kernel
theorem d_Mo_sign_20 : decode b_Mo_sign 20 = .ok (.iadd, 1) := by decide +kernel
theorem d_Mo_sign_21 : decode b_Mo_sign 21 = .ok (.sipush 400, 3) := by decide +kernel
theorem d_Mo_sign_24 : decode b_Mo_sign 24 = .ok (.if_icmp .le 7, 3) := by decide +kernel
theorem d_Mo_sign_27 : decode b_Mo_sign 27 = .ok (.iconst 2, 1) := by decide +kernel
theorem d_Mo_sign_28 : decode b_Mo_sign 28 = .ok (.goto 4, 3) := by decide +kernel
theorem d_Mo_sign_31 : decode b_Mo_sign 31 = .ok (.iconst 0, 1) := by decide +kernel
theorem d_Mo_sign_32 : decode b_Mo_sign 32 = .ok (.putfield 69, 3) := by decide +kernel
theorem d_Mo_sign_35 : decode b_Mo_sign 35 = .ok (.aload_n 0, 1) := by decide +kernel
theorem d_Mo_sign_36 : decode b_Mo_sign 36 = .ok (.getfield 69, 3) := by decide +kernel
theorem d_Mo_sign_39 : decode b_Mo_sign 39 = .ok (.ifCond .le 5, 3) := by decide +kernel
theorem d_Mo_sign_42 : decode b_Mo_sign 42 = .ok (.iconst 0, 1) := by decide +kernel
theorem d_Mo_sign_43 : decode b_Mo_sign 43 = .ok (.ireturn, 1) := by decide +kernel
theorem d_Mo_sign_44 : decode b_Mo_sign 44 = .ok (.iload_n 3, 1) := by decide +kernel
theorem d_Mo_sign_45 : decode b_Mo_sign 45 = .ok (.iconst 1, 1) := by decide +kernel
theorem d_Mo_sign_46 : decode b_Mo_sign 46 = .ok (.isub, 1) := by decide +kernel
theorem d_Mo_sign_47 : decode b_Mo_sign 47 = .ok (.istore 4, 2) := by decide +kernel
theorem d_Mo_sign_49 : decode b_Mo_sign 49 = .ok (.iload 4, 2) := by decide +kernel
theorem d_Mo_sign_51 : decode b_Mo_sign 51 = .ok (.ifCond .lt 40, 3) := by decide +kernel
theorem d_Mo_sign_54 : decode b_Mo_sign 54 = .ok (.aload_n 0, 1) := by decide +kernel
theorem d_Mo_sign_55 : decode b_Mo_sign 55 = .ok (.getfield 7, 3) := by decide +kernel
theorem d_Mo_sign_58 : decode b_Mo_sign 58 = .ok (.aload_n 0, 1) := by decide +kernel
theorem d_Mo_sign_59 : decode b_Mo_sign 59 = .ok (.getfield 76, 3) := by decide +kernel
theorem d_Mo_sign_62 : decode b_Mo_sign 62 = .ok (.lload_n 1, 1) := by decide +kernel
theorem d_Mo_sign_63 : decode b_Mo_sign 63 = .ok (.bipush 8, 2) := by decide +kernel
theorem d_Mo_sign_65 : decode b_Mo_sign 65 = .ok (.iload 4, 2) := by decide +kernel
theorem d_Mo_sign_67 : decode b_Mo_sign 67 = .ok (.imul, 1) := by decide +kernel
theorem d_Mo_sign_68 : decode b_Mo_sign 68 = .ok (.lshr, 1) := by decide +kernel
theorem d_Mo_sign_69 : decode b_Mo_sign 69 = .ok (.l2i, 1) := by decide +kernel
theorem d_Mo_sign_70 : decode b_Mo_sign 70 = .ok (.sipush 255, 3) := by decide +kernel
theorem d_Mo_sign_73 : decode b_Mo_sign 73 = .ok (.iand, 1) := by decide +kernel
theorem d_Mo_sign_74 : decode b_Mo_sign 74 = .ok (.iastore, 1) := by decide +kernel
theorem d_Mo_sign_75 : decode b_Mo_sign 75 = .ok (.aload_n 0, 1) := by decide +kernel
theorem d_Mo_sign_76 : decode b_Mo_sign 76 = .ok (.dup, 1) := by decide +kernel
theorem d_Mo_sign_77 : decode b_Mo_sign 77 = .ok (.getfield 76, 3) := by decide +kernel
theorem d_Mo_sign_80 : decode b_Mo_sign 80 = .ok (.iconst 1, 1) := by decide +kernel
theorem d_Mo_sign_81 : decode b_Mo_sign 81 = .ok (.iadd, 1) := by decide +kernel
theorem d_Mo_sign_82 : decode b_Mo_sign 82 = .ok (.putfield 76, 3) := by decide +kernel
theorem d_Mo_sign_85 : decode b_Mo_sign 85 = .ok (.iinc 4 (-1), 3) := by decide +kernel
theorem d_Mo_sign_88 : decode b_Mo_sign 88 = .ok (.goto (-39), 3) := by decide +kernel
theorem d_Mo_sign_91 : decode b_Mo_sign 91 = .ok (.aload_n 0, 1) := by decide +kernel
theorem d_Mo_sign_92 : decode b_Mo_sign 92 = .ok (.getfield 76, 3) := by decide +kernel
theorem d_Mo_sign_95 : decode b_Mo_sign 95 = .ok (.ireturn, 1) := by decide +kernel
theorem d_Mo_here_0 : decode b_Mo_here 0 = .ok (.aload_n 0, 1) := by decide +kernel
theorem d_Mo_here_1 : decode b_Mo_here 1 = .ok (.getfield 79, 3) := by decide +kernel
theorem d_Mo_here_4 : decode b_Mo_here 4 = .ok (.aload_n 0, 1) := by decide +kernel
theorem d_Mo_here_5 : decode b_Mo_here 5 = .ok (.getfield 76, 3) := by decide +kernel
theorem d_Mo_here_8 : decode b_Mo_here 8 = .ok (.if_icmp .ge 15, 3) := by decide +kernel
theorem d_Mo_here_11 : decode b_Mo_here 11 = .ok (.aload_n 0, 1) := by decide +kernel
theorem d_Mo_here_12 : decode b_Mo_here 12 = .ok (.getfield 7, 3) := by decide +kernel
theorem d_Mo_here_15 : decode b_Mo_here 15 = .ok (.aload_n 0, 1) := by decide +kernel
theorem d_Mo_here_16 : decode b_Mo_here 16 = .ok (.getfield 79, 3) := by decide +kernel
theorem d_Mo_here_19 : decode b_Mo_here 19 = .ok (.iaload, 1) := by decide +kernel
theorem d_Mo_here_20 : decode b_Mo_here 20 = .ok (.goto 4, 3) := by decide +kernel
theorem d_Mo_here_23 : decode b_Mo_here 23 = .ok (.iconst (-1), 1) := by decide +kernel
theorem d_Mo_here_24 : decode b_Mo_here 24 = .ok (.ireturn, 1) := by decide +kernel
theorem d_Mo_see_0 : decode b_Mo_see 0 = .ok (.aload_n 0, 1) := by decide +kernel
theorem d_Mo_see_1 : decode b_Mo_see 1 = .ok (.invokevirtual 82, 3) := by decide +kernel
theorem d_Mo_see_4 : decode b_Mo_see 4 = .ok (.bipush 32, 2) := by decide +kernel
theorem d_Mo_see_6 : decode b_Mo_see 6 = .ok (.if_icmp .ne 16, 3) := by decide +kernel
theorem d_Mo_see_9 : decode b_Mo_see 9 = .ok (.aload_n 0, 1) := by decide +kernel
theorem d_Mo_see_10 : decode b_Mo_see 10 = .ok (.dup, 1) := by decide +kernel
theorem d_Mo_see_11 : decode b_Mo_see 11 = .ok (.getfield 79, 3) := by decide +kernel
theorem d_Mo_see_14 : decode b_Mo_see 14 = .ok (.iconst 1, 1) := by decide +kernel
theorem d_Mo_see_15 : decode b_Mo_see 15 = .ok (.iadd, 1) := by decide +kernel
theorem d_Mo_see_16 : decode b_Mo_see 16 = .ok (.putfield 79, 3) := by decide +kernel
theorem d_Mo_see_19 : decode b_Mo_see 19 = .ok (.goto (-19), 3) := by decide +kernel
theorem d_Mo_see_22 : decode b_Mo_see 22 = .ok (.aload_n 0, 1) := by decide +kernel
theorem d_Mo_see_23 : decode b_Mo_see 23 = .ok (.invokevirtual 82, 3) := by decide +kernel
theorem d_Mo_see_26 : decode b_Mo_see 26 = .ok (.ireturn, 1) := by decide +kernel
theorem d_Mo_fail_0 : decode b_Mo_fail 0 = .ok (.aload_n 0, 1) := by decide +kernel
theorem d_Mo_fail_1 : decode b_Mo_fail 1 = .ok (.getfield 86, 3) := by decide +kernel
theorem d_Mo_fail_4 : decode b_Mo_fail 4 = .ok (.ifCond .ge 8, 3) := by decide +kernel
theorem d_Mo_fail_7 : decode b_Mo_fail 7 = .ok (.aload_n 0, 1) := by decide +kernel
theorem d_Mo_fail_8 : decode b_Mo_fail 8 = .ok (.iload_n 1, 1) := by decide +kernel
theorem d_Mo_fail_9 : decode b_Mo_fail 9 = .ok (.putfield 86, 3) := by decide +kernel
theorem d_Mo_fail_12 : decode b_Mo_fail 12 = .ok (.return_, 1) := by decide +kernel
theorem d_Mo_take_0 : decode b_Mo_take 0 = .ok (.aload_n 0, 1) := by decide +kernel
theorem d_Mo_take_1 : decode b_Mo_take 1 = .ok (.getfield 86, 3) := by decide +kernel
theorem d_Mo_take_4 : decode b_Mo_take 4 = .ok (.ifCond .lt 4, 3) := by decide +kernel
theorem d_Mo_take_7 : decode b_Mo_take 7 = .ok (.return_, 1) := by decide +kernel
theorem d_Mo_take_8 : decode b_Mo_take 8 = .ok (.aload_n 0, 1) := by decide +kernel
theorem d_Mo_take_9 : decode b_Mo_take 9 = .ok (.invokevirtual 89, 3) := by decide +kernel
theorem d_Mo_take_12 : decode b_Mo_take 12 = .ok (.iload_n 1, 1) := by decide +kernel
theorem d_Mo_take_13 : decode b_Mo_take 13 = .ok (.if_icmp .eq 14, 3) := by decide +kernel
theorem d_Mo_take_16 : decode b_Mo_take 16 = .ok (.aload_n 0, 1) := by decide +kernel
theorem d_Mo_take_17 : decode b_Mo_take 17 = .ok (.aload_n 0, 1) := by decide +kernel
theorem d_Mo_take_18 : decode b_Mo_take 18 = .ok (.getfield 79, 3) := by decide +kernel
theorem d_Mo_take_21 : decode b_Mo_take 21 = .ok (.invokevirtual 92, 3) := by decide +kernel
theorem d_Mo_take_24 : decode b_Mo_take 24 = .ok (.goto 13, 3) := by decide +kernel
theorem d_Mo_take_27 : decode b_Mo_take 27 = .ok (.aload_n 0, 1) := by decide +kernel
theorem d_Mo_take_28 : decode b_Mo_take 28 = .ok (.dup, 1) := by decide +kernel
theorem d_Mo_take_29 : decode b_Mo_take 29 = .ok (.getfield 79, 3) := by decide +kernel
theorem d_Mo_take_32 : decode b_Mo_take 32 = .ok (.iconst 1, 1) := by decide +kernel
theorem d_Mo_take_33 : decode b_Mo_take 33 = .ok (.iadd, 1) := by decide +kernel
theorem d_Mo_take_34 : decode b_Mo_take 34 = .ok (.putfield 79, 3) := by decide +kernel
theorem d_Mo_take_37 : decode b_Mo_take 37 = .ok (.return_, 1) := by decide +kernel
theorem d_Mo_isDigit_0 : decode b_Mo_isDigit 0 = .ok (.aload_n 0, 1) := by decide +kernel
theorem d_Mo_isDigit_1 : decode b_Mo_isDigit 1 = .ok (.invokevirtual 82, 3) := by decide +kernel
theorem d_Mo_isDigit_4 : decode b_Mo_isDigit 4 = .ok (.bipush 48, 2) := by decide +kernel
theorem d_Mo_isDigit_6 : decode b_Mo_isDigit 6 = .ok (.bipush 57, 2) := by decide +kernel
theorem d_Mo_isDigit_8 : decode b_Mo_isDigit 8 = .ok (.invokestatic 72, 3) := by decide +kernel
theorem d_Mo_isDigit_11 : decode b_Mo_isDigit 11 = .ok (.ireturn, 1) := by decide +kernel
theorem d_Mo_number_0 : decode b_Mo_number 0 = .ok (.aload_n 0, 1) := by decide +kernel
theorem d_Mo_number_1 : decode b_Mo_number 1 = .ok (.getfield 86, 3) := by decide +kernel
theorem d_Mo_number_4 : decode b_Mo_number 4 = .ok (.ifCond .lt 5, 3) := by decide +kernel
theorem d_Mo_number_7 : decode b_Mo_number 7 = .ok (.iload_n 1, 1) := by decide +kernel
theorem d_Mo_number_8 : decode b_Mo_number 8 = .ok (.ireturn, 1) := by decide +kernel
theorem d_Mo_number_9 : decode b_Mo_number 9 = .ok (.aload_n 0, 1) := by decide +kernel
theorem d_Mo_number_10 : decode b_Mo_number 10 = .ok (.invokevirtual 89, 3) := by decide +kernel
theorem d_Mo_number_13 : decode b_Mo_number 13 = .ok (.pop, 1) := by decide +kernel
theorem d_Mo_number_14 : decode b_Mo_number 14 = .ok (.aload_n 0, 1) := by decide +kernel
theorem d_Mo_number_15 : decode b_Mo_number 15 = .ok (.invokevirtual 96, 3) := by decide +kernel
theorem d_Mo_number_18 : decode b_Mo_number 18 = .ok (.ifCond .ne 11, 3) := by decide +kernel
theorem d_Mo_number_21 : decode b_Mo_number 21 = .ok (.aload_n 0, 1) := by decide +kernel
theorem d_Mo_number_22 : decode b_Mo_number 22 = .ok (.aload_n 0, 1) := by decide +kernel
theorem d_Mo_number_23 : decode b_Mo_number 23 = .ok (.getfield 79, 3) := by decide +kernel
theorem d_Mo_number_26 : decode b_Mo_number 26 = .ok (.invokevirtual 92, 3) := by decide +kernel
theorem d_Mo_number_29 : decode b_Mo_number 29 = .ok (.iconst 0, 1) := by decide +kernel
theorem d_Mo_number_30 : decode b_Mo_number 30 = .ok (.istore_n 3, 1) := by decide +kernel
theorem d_Mo_number_31 : decode b_Mo_number 31 = .ok (.aload_n 0, 1) := by decide +kernel
theorem d_Mo_number_32 : decode b_Mo_number 32 = .ok (.iconst 0, 1) := by decide +kernel
theorem d_Mo_number_33 : decode b_Mo_number 33 = .ok (.putfield 100, 3) := by decide +kernel
theorem d_Mo_number_36 : decode b_Mo_number 36 = .ok (.aload_n 0, 1) := by decide +kernel
theorem d_Mo_number_37 : decode b_Mo_number 37 = .ok (.invokevirtual 96, 3) := by decide +kernel
theorem d_Mo_number_40 : decode b_Mo_number 40 = .ok (.ifCond .eq 58, 3) := by decide +kernel
theorem d_Mo_number_43 : decode b_Mo_number 43 = .ok (.aload_n 0, 1) := by decide +kernel
theorem d_Mo_number_44 : decode b_Mo_number 44 = .ok (.getfield 100, 3) := by decide +kernel
theorem d_Mo_number_47 : decode b_Mo_number 47 = .ok (.iconst 4, 1) := by decide +kernel
theorem d_Mo_number_48 : decode b_Mo_number 48 = .ok (.if_icmp .ge 50, 3) := by decide +kernel
theorem d_Mo_number_51 : decode b_Mo_number 51 = .ok (.aload_n 0, 1) := by decide +kernel
theorem d_Mo_number_52 : decode b_Mo_number 52 = .ok (.getfield 100, 3) := by decide +kernel
theorem d_Mo_number_55 : decode b_Mo_number 55 = .ok (.ifCond .eq 7, 3) := by decide +kernel
theorem d_Mo_number_58 : decode b_Mo_number 58 = .ok (.iload_n 3, 1) := by decide +kernel
theorem d_Mo_number_59 : decode b_Mo_number 59 = .ok (.ifCond .le 39, 3) := by decide +kernel
theorem d_Mo_number_62 : decode b_Mo_number 62 = .ok (.bipush 10, 2) := by decide +kernel
theorem d_Mo_number_64 : decode b_Mo_number 64 = .ok (.iload_n 3, 1) := by decide +kernel
theorem d_Mo_number_65 : decode b_Mo_number 65 = .ok (.imul, 1) := by decide +kernel
theorem d_Mo_number_66 : decode b_Mo_number 66 = .ok (.aload_n 0, 1) := by decide +kernel
theorem d_Mo_number_67 : decode b_Mo_number 67 = .ok (.invokevirtual 82, 3) := by decide +kernel
theorem d_Mo_number_70 : decode b_Mo_number 70 = .ok (.iadd, 1) := by decide +kernel
theorem d_Mo_number_71 : decode b_Mo_number 71 = .ok (.bipush 48, 2) := by decide +kernel
theorem d_Mo_number_73 : decode b_Mo_number 73 = .ok (.isub, 1) := by decide +kernel
theorem d_Mo_number_74 : decode b_Mo_number 74 = .ok (.istore_n 3, 1) := by decide +kernel
theorem d_Mo_number_75 : decode b_Mo_number 75 = .ok (.aload_n 0, 1) := by decide +kernel
theorem d_Mo_number_76 : decode b_Mo_number 76 = .ok (.dup, 1) := by decide +kernel
theorem d_Mo_number_77 : decode b_Mo_number 77 = .ok (.getfield 100, 3) := by decide +kernel
theorem d_Mo_number_80 : decode b_Mo_number 80 = .ok (.iconst 1, 1) := by decide +kernel
theorem d_Mo_number_81 : decode b_Mo_number 81 = .ok (.iadd, 1) := by decide +kernel
theorem d_Mo_number_82 : decode b_Mo_number 82 = .ok (.putfield 100, 3) := by decide +kernel
theorem d_Mo_number_85 : decode b_Mo_number 85 = .ok (.aload_n 0, 1) := by decide +kernel
theorem d_Mo_number_86 : decode b_Mo_number 86 = .ok (.dup, 1) := by decide +kernel
theorem d_Mo_number_87 : decode b_Mo_number 87 = .ok (.getfield 79, 3) := by decide +kernel
theorem d_Mo_number_90 : decode b_Mo_number 90 = .ok (.iconst 1, 1) := by decide +kernel
theorem d_Mo_number_91 : decode b_Mo_number 91 = .ok (.iadd, 1) := by decide +kernel
theorem d_Mo_number_92 : decode b_Mo_number 92 = .ok (.putfield 79, 3) := by decide +kernel
theorem d_Mo_number_95 : decode b_Mo_number 95 = .ok (.goto (-59), 3) := by decide +kernel
theorem d_Mo_number_98 : decode b_Mo_number 98 = .ok (.aload_n 0, 1) := by decide +kernel
theorem d_Mo_number_99 : decode b_Mo_number 99 = .ok (.getfield 100, 3) := by decide +kernel
theorem d_Mo_number_102 : decode b_Mo_number 102 = .ok (.iconst 4, 1) := by decide +kernel
theorem d_Mo_number_103 : decode b_Mo_number 103 = .ok (.if_icmp .ne 18, 3) := by decide +kernel
theorem d_Mo_number_106 : decode b_Mo_number 106 = .ok (.aload_n 0, 1) := by decide +kernel
theorem d_Mo_number_107 : decode b_Mo_number 107 = .ok (.invokevirtual 96, 3) := by decide +kernel
theorem d_Mo_number_110 : decode b_Mo_number 110 = .ok (.ifCond .eq 11, 3) := by decide +kernel
theorem d_Mo_number_113 : decode b_Mo_number 113 = .ok (.aload_n 0, 1) := by decide +kernel
theorem d_Mo_number_114 : decode b_Mo_number 114 = .ok (.aload_n 0, 1) := by decide +kernel
theorem d_Mo_number_115 : decode b_Mo_number 115 = .ok (.getfield 79, 3) := by decide +kernel
theorem d_Mo_number_118 : decode b_Mo_number 118 = .ok (.invokevirtual 92, 3) := by decide +kernel
theorem d_Mo_number_121 : decode b_Mo_number 121 = .ok (.iload_n 3, 1) := by decide +kernel
theorem d_Mo_number_122 : decode b_Mo_number 122 = .ok (.iload_n 1, 1) := by decide +kernel
theorem d_Mo_number_123 : decode b_Mo_number 123 = .ok (.iload_n 2, 1) := by decide +kernel
theorem d_Mo_number_124 : decode b_Mo_number 124 = .ok (.invokestatic 72, 3) := by decide +kernel
theorem d_Mo_number_127 : decode b_Mo_number 127 = .ok (.ifCond .ne 13, 3) := by decide +kernel
theorem d_Mo_number_130 : decode b_Mo_number 130 = .ok (.aload_n 0, 1) := by decide +kernel
theorem d_Mo_number_131 : decode b_Mo_number 131 = .ok (.aload_n 0, 1) := by decide +kernel
theorem d_Mo_number_132 : decode b_Mo_number 132 = .ok (.getfield 79, 3) := by decide +kernel
theorem d_Mo_number_135 : decode b_Mo_number 135 = .ok (.iconst 1, 1) := by decide +kernel
theorem d_Mo_number_136 : decode b_Mo_number 136 = .ok (.isub, 1) := by decide +kernel
theorem d_Mo_number_137 : decode b_Mo_number 137 = .ok (.invokevirtual 92, 3) := by decide +kernel
theorem d_Mo_number_140 : decode b_Mo_number 140 = .ok (.aload_n 0, 1) := by decide +kernel
theorem d_Mo_number_141 : decode b_Mo_number 141 = .ok (.getfield 86, 3) := by decide +kernel
theorem d_Mo_number_144 : decode b_Mo_number 144 = .ok (.ifCond .ge 7, 3) := by decide +kernel
theorem d_Mo_number_147 : decode b_Mo_number 147 = .ok (.iload_n 3, 1) := by decide +kernel
theorem d_Mo_number_148 : decode b_Mo_number 148 = .ok (.goto 4, 3) := by decide +kernel
theorem d_Mo_number_151 : decode b_Mo_number 151 = .ok (.iload_n 1, 1) := by decide +kernel
theorem d_Mo_number_152 : decode b_Mo_number 152 = .ok (.ireturn, 1) := by decide +kernel
theorem d_Mo_words_0 : decode b_Mo_words 0 = .ok (.aload_n 0, 1) := by decide +kernel
theorem d_Mo_words_1 : decode b_Mo_words 1 = .ok (.bipush 34, 2) := by decide +kernel
theorem d_Mo_words_3 : decode b_Mo_words 3 = .ok (.invokevirtual 103, 3) := by decide +kernel
theorem d_Mo_words_6 : decode b_Mo_words 6 = .ok (.aload_n 0, 1) := by decide +kernel
theorem d_Mo_words_7 : decode b_Mo_words 7 = .ok (.getfield 106, 3) := by decide +kernel
theorem d_Mo_words_10 : decode b_Mo_words 10 = .ok (.bipush 61, 2) := by decide +kernel
theorem d_Mo_words_12 : decode b_Mo_words 12 = .ok (.imul, 1) := by decide +kernel
theorem d_Mo_words_13 : decode b_Mo_words 13 = .ok (.iload_n 1, 1) := by decide +kernel
theorem d_Mo_words_14 : decode b_Mo_words 14 = .ok (.iadd, 1) := by decide +kernel
theorem d_Mo_words_15 : decode b_Mo_words 15 = .ok (.iconst 2, 1) := by decide +kernel
theorem d_Mo_words_16 : decode b_Mo_words 16 = .ok (.imul, 1) := by decide +kernel
theorem d_Mo_words_17 : decode b_Mo_words 17 = .ok (.iload_n 2, 1) := by decide +kernel
theorem d_Mo_words_18 : decode b_Mo_words 18 = .ok (.iadd, 1) := by decide +kernel
theorem d_Mo_words_19 : decode b_Mo_words 19 = .ok (.istore_n 3, 1) := by decide +kernel
theorem d_Mo_words_20 : decode b_Mo_words 20 = .ok (.iconst 0, 1) := by decide +kernel
theorem d_Mo_words_21 : decode b_Mo_words 21 = .ok (.istore 4, 2) := by decide +kernel
theorem d_Mo_words_23 : decode b_Mo_words 23 = .ok (.aload_n 0, 1) := by decide +kernel
theorem d_Mo_words_24 : decode b_Mo_words 24 = .ok (.getfield 86, 3) := by decide +kernel
theorem d_Mo_words_27 : decode b_Mo_words 27 = .ok (.ifCond .ge 74, 3) := by decide +kernel
theorem d_Mo_words_30 : decode b_Mo_words 30 = .ok (.aload_n 0, 1) := by decide +kernel
theorem d_Mo_words_31 : decode b_Mo_words 31 = .ok (.invokevirtual 82, 3) := by decide +kernel
theorem d_Mo_words_34 : decode b_Mo_words 34 = .ok (.bipush 34, 2) := by decide +kernel
theorem d_Mo_words_36 : decode b_Mo_words 36 = .ok (.if_icmp .eq 65, 3) := by decide +kernel
theorem d_Mo_words_39 : decode b_Mo_words 39 = .ok (.aload_n 0, 1) := by decide +kernel
theorem d_Mo_words_40 : decode b_Mo_words 40 = .ok (.invokevirtual 82, 3) := by decide +kernel
theorem d_Mo_words_43 : decode b_Mo_words 43 = .ok (.bipush 32, 2) := by decide +kernel
theorem d_Mo_words_45 : decode b_Mo_words 45 = .ok (.bipush 126, 2) := by decide +kernel
theorem d_Mo_words_47 : decode b_Mo_words 47 = .ok (.invokestatic 72, 3) := by decide +kernel
theorem d_Mo_words_50 : decode b_Mo_words 50 = .ok (.ifCond .eq 10, 3) := by decide +kernel
theorem d_Mo_words_53 : decode b_Mo_words 53 = .ok (.iload 4, 2) := by decide +kernel
theorem d_Mo_words_55 : decode b_Mo_words 55 = .ok (.bipush 12, 2) := by decide +kernel
theorem d_Mo_words_57 : decode b_Mo_words 57 = .ok (.if_icmp .ne 12, 3) := by decide +kernel
theorem d_Mo_words_60 : decode b_Mo_words 60 = .ok (.aload_n 0, 1) := by decide +kernel
theorem d_Mo_words_61 : decode b_Mo_words 61 = .ok (.aload_n 0, 1) := by decide +kernel
theorem d_Mo_words_62 : decode b_Mo_words 62 = .ok (.getfield 79, 3) := by decide +kernel
theorem d_Mo_words_65 : decode b_Mo_words 65 = .ok (.invokevirtual 92, 3) := by decide +kernel
theorem d_Mo_words_68 : decode b_Mo_words 68 = .ok (.return_, 1) := by decide +kernel
theorem d_Mo_words_69 : decode b_Mo_words 69 = .ok (.aload_n 0, 1) := by decide +kernel
theorem d_Mo_words_70 : decode b_Mo_words 70 = .ok (.getfield 33, 3) := by decide +kernel
theorem d_Mo_words_73 : decode b_Mo_words 73 = .ok (.iload_n 3, 1) := by decide +kernel
theorem d_Mo_words_74 : decode b_Mo_words 74 = .ok (.bipush 12, 2) := by decide +kernel
theorem d_Mo_words_76 : decode b_Mo_words 76 = .ok (.imul, 1) := by decide +kernel
theorem d_Mo_words_77 : decode b_Mo_words 77 = .ok (.iload 4, 2) := by decide +kernel
theorem d_Mo_words_79 : decode b_Mo_words 79 = .ok (.iadd, 1) := by decide +kernel
theorem d_Mo_words_80 : decode b_Mo_words 80 = .ok (.aload_n 0, 1) := by decide +kernel
theorem d_Mo_words_81 : decode b_Mo_words 81 = .ok (.invokevirtual 82, 3) := by decide +kernel
theorem d_Mo_words_84 : decode b_Mo_words 84 = .ok (.iastore, 1) := by decide +kernel
theorem d_Mo_words_85 : decode b_Mo_words 85 = .ok (.iinc 4 1, 3) := by decide +kernel
theorem d_Mo_words_88 : decode b_Mo_words 88 = .ok (.aload_n 0, 1) := by decide +kernel
theorem d_Mo_words_89 : decode b_Mo_words 89 = .ok (.dup, 1) := by decide +kernel
theorem d_Mo_words_90 : decode b_Mo_words 90 = .ok (.getfield 79, 3) := by decide +kernel
theorem d_Mo_words_93 : decode b_Mo_words 93 = .ok (.iconst 1, 1) := by decide +kernel
theorem d_Mo_words_94 : decode b_Mo_words 94 = .ok (.iadd, 1) := by decide +kernel
theorem d_Mo_words_95 : decode b_Mo_words 95 = .ok (.putfield 79, 3) := by decide +kernel
theorem d_Mo_words_98 : decode b_Mo_words 98 = .ok (.goto (-75), 3) := by decide +kernel
theorem d_Mo_words_101 : decode b_Mo_words 101 = .ok (.iload 4, 2) := by decide +kernel
theorem d_Mo_words_103 : decode b_Mo_words 103 = .ok (.ifCond .ne 11, 3) := by decide +kernel
theorem d_Mo_words_106 : decode b_Mo_words 106 = .ok (.aload_n 0, 1) := by decide +kernel
theorem d_Mo_words_107 : decode b_Mo_words 107 = .ok (.aload_n 0, 1) := by decide +kernel
theorem d_Mo_words_108 : decode b_Mo_words 108 = .ok (.getfield 79, 3) := by decide +kernel
theorem d_Mo_words_111 : decode b_Mo_words 111 = .ok (.invokevirtual 92, 3) := by decide +kernel
theorem d_Mo_words_114 : decode b_Mo_words 114 = .ok (.aload_n 0, 1) := by decide +kernel
theorem d_Mo_words_115 : decode b_Mo_words 115 = .ok (.getfield 86, 3) := by decide +kernel
theorem d_Mo_words_118 : decode b_Mo_words 118 = .ok (.ifCond .ge 13, 3) := by decide +kernel
theorem d_Mo_words_121 : decode b_Mo_words 121 = .ok (.aload_n 0, 1) := by decide +kernel
theorem d_Mo_words_122 : decode b_Mo_words 122 = .ok (.dup, 1) := by decide +kernel
theorem d_Mo_words_123 : decode b_Mo_words 123 = .ok (.getfield 79, 3) := by decide +kernel
theorem d_Mo_words_126 : decode b_Mo_words 126 = .ok (.iconst 1, 1) := by decide +kernel
theorem d_Mo_words_127 : decode b_Mo_words 127 = .ok (.iadd, 1) := by decide +kernel
theorem d_Mo_words_128 : decode b_Mo_words 128 = .ok (.putfield 79, 3) := by decide +kernel
theorem d_Mo_words_131 : decode b_Mo_words 131 = .ok (.aload_n 0, 1) := by decide +kernel
theorem d_Mo_words_132 : decode b_Mo_words 132 = .ok (.getfield 30, 3) := by decide +kernel
theorem d_Mo_words_135 : decode b_Mo_words 135 = .ok (.iload_n 3, 1) := by decide +kernel
theorem d_Mo_words_136 : decode b_Mo_words 136 = .ok (.iload 4, 2) := by decide +kernel
theorem d_Mo_words_138 : decode b_Mo_words 138 = .ok (.iastore, 1) := by decide +kernel
theorem d_Mo_words_139 : decode b_Mo_words 139 = .ok (.return_, 1) := by decide +kernel
theorem d_Mo_question_0 : decode b_Mo_question 0 = .ok (.aload_n 0, 1) := by decide +kernel
theorem d_Mo_question_1 : decode b_Mo_question 1 = .ok (.iconst 1, 1) := by decide +kernel
theorem d_Mo_question_2 : decode b_Mo_question 2 = .ok (.bipush 60, 2) := by decide +kernel
theorem d_Mo_question_4 : decode b_Mo_question 4 = .ok (.invokevirtual 109, 3) := by decide +kernel
theorem d_Mo_question_7 : decode b_Mo_question 7 = .ok (.istore_n 1, 1) := by decide +kernel
theorem d_Mo_question_8 : decode b_Mo_question 8 = .ok (.aload_n 0, 1) := by decide +kernel
theorem d_Mo_question_9 : decode b_Mo_question 9 = .ok (.getfield 86, 3) := by decide +kernel
theorem d_Mo_question_12 : decode b_Mo_question 12 = .ok (.ifCond .ge 22, 3) := by decide +kernel
theorem d_Mo_question_15 : decode b_Mo_question 15 = .ok (.aload_n 0, 1) := by decide +kernel
theorem d_Mo_question_16 : decode b_Mo_question 16 = .ok (.getfield 54, 3) := by decide +kernel
theorem d_Mo_question_19 : decode b_Mo_question 19 = .ok (.iload_n 1, 1) := by decide +kernel
theorem d_Mo_question_20 : decode b_Mo_question 20 = .ok (.baload, 1) := by decide +kernel
theorem d_Mo_question_21 : decode b_Mo_question 21 = .ok (.ifCond .eq 13, 3) := by decide +kernel
theorem d_Mo_question_24 : decode b_Mo_question 24 = .ok (.aload_n 0, 1) := by decide +kernel
theorem d_Mo_question_25 : decode b_Mo_question 25 = .ok (.aload_n 0, 1) := by decide +kernel
theorem d_Mo_question_26 : decode b_Mo_question 26 = .ok (.getfield 79, 3) := by decide +kernel
theorem d_Mo_question_29 : decode b_Mo_question 29 = .ok (.iconst 1, 1) := by decide +kernel
theorem d_Mo_question_30 : decode b_Mo_question 30 = .ok (.isub, 1) := by decide +kernel
theorem d_Mo_question_31 : decode b_Mo_question 31 = .ok (.invokevirtual 92, 3) := by decide +kernel
theorem d_Mo_question_34 : decode b_Mo_question 34 = .ok (.aload_n 0, 1) := by decide +kernel
theorem d_Mo_question_35 : decode b_Mo_question 35 = .ok (.getfield 86, 3) := by decide +kernel
theorem d_Mo_question_38 : decode b_Mo_question 38 = .ok (.ifCond .lt 4, 3) := by decide +kernel
theorem d_Mo_question_41 : decode b_Mo_question 41 = .ok (.return_, 1) := by decide +kernel
theorem d_Mo_question_42 : decode b_Mo_question 42 = .ok (.aload_n 0, 1) := by decide +kernel
theorem d_Mo_question_43 : decode b_Mo_question 43 = .ok (.getfield 54, 3) := by decide +kernel
theorem d_Mo_question_46 : decode b_Mo_question 46 = .ok (.iload_n 1, 1) := by decide +kernel
theorem d_Mo_question_47 : decode b_Mo_question 47 = .ok (.iconst 1, 1) := by decide +kernel
theorem d_Mo_question_48 : decode b_Mo_question 48 = .ok (.bastore, 1) := by decide +kernel
theorem d_Mo_question_49 : decode b_Mo_question 49 = .ok (.aload_n 0, 1) := by decide +kernel
theorem d_Mo_question_50 : decode b_Mo_question 50 = .ok (.getfield 106, 3) := by decide +kernel
theorem d_Mo_question_53 : decode b_Mo_question 53 = .ok (.bipush 61, 2) := by decide +kernel
theorem d_Mo_question_55 : decode b_Mo_question 55 = .ok (.imul, 1) := by decide +kernel
theorem d_Mo_question_56 : decode b_Mo_question 56 = .ok (.iload_n 1, 1) := by decide +kernel
theorem d_Mo_question_57 : decode b_Mo_question 57 = .ok (.iadd, 1) := by decide +kernel
theorem d_Mo_question_58 : decode b_Mo_question 58 = .ok (.istore_n 2, 1) := by decide +kernel
theorem d_Mo_question_59 : decode b_Mo_question 59 = .ok (.aload_n 0, 1) := by decide +kernel
theorem d_Mo_question_60 : decode b_Mo_question 60 = .ok (.invokevirtual 89, 3) := by decide +kernel
theorem d_Mo_question_63 : decode b_Mo_question 63 = .ok (.istore_n 3, 1) := by decide +kernel
theorem d_Mo_question_64 : decode b_Mo_question 64 = .ok (.iload_n 3, 1) := by decide +kernel
theorem d_Mo_question_65 : decode b_Mo_question 65 = .ok (.bipush 33, 2) := by decide +kernel
theorem d_Mo_question_67 : decode b_Mo_question 67 = .ok (.if_icmp .eq 17, 3) := by decide +kernel
theorem d_Mo_question_70 : decode b_Mo_question 70 = .ok (.iload_n 3, 1) := by decide +kernel
theorem d_Mo_question_71 : decode b_Mo_question 71 = .ok (.bipush 63, 2) := by decide +kernel
theorem d_Mo_question_73 : decode b_Mo_question 73 = .ok (.if_icmp .eq 11, 3) := by decide +kernel
theorem d_Mo_question_76 : decode b_Mo_question 76 = .ok (.aload_n 0, 1) := by decide +kernel
theorem d_Mo_question_77 : decode b_Mo_question 77 = .ok (.aload_n 0, 1) := by decide +kernel
theorem d_Mo_question_78 : decode b_Mo_question 78 = .ok (.getfield 79, 3) := by decide +kernel
theorem d_Mo_question_81 : decode b_Mo_question 81 = .ok (.invokevirtual 92, 3) := by decide +kernel
theorem d_Mo_question_84 : decode b_Mo_question 84 = .ok (.aload_n 0, 1) := by decide +kernel
theorem d_Mo_question_85 : decode b_Mo_question 85 = .ok (.dup, 1) := by decide +kernel
theorem d_Mo_question_86 : decode b_Mo_question 86 = .ok (.getfield 79, 3) := by decide +kernel
theorem d_Mo_question_89 : decode b_Mo_question 89 = .ok (.iconst 1, 1) := by decide +kernel
theorem d_Mo_question_90 : decode b_Mo_question 90 = .ok (.iadd, 1) := by decide +kernel
theorem d_Mo_question_91 : decode b_Mo_question 91 = .ok (.putfield 79, 3) := by decide +kernel
theorem d_Mo_question_94 : decode b_Mo_question 94 = .ok (.aload_n 0, 1) := by decide +kernel
theorem d_Mo_question_95 : decode b_Mo_question 95 = .ok (.getfield 17, 3) := by decide +kernel
theorem d_Mo_question_98 : decode b_Mo_question 98 = .ok (.iload_n 2, 1) := by decide +kernel
theorem d_Mo_question_99 : decode b_Mo_question 99 = .ok (.iconst 1, 1) := by decide +kernel
theorem d_Mo_question_100 : decode b_Mo_question 100 = .ok (.bastore, 1) := by decide +kernel
theorem d_Mo_question_101 : decode b_Mo_question 101 = .ok (.aload_n 0, 1) := by decide +kernel
theorem d_Mo_question_102 : decode b_Mo_question 102 = .ok (.getfield 21, 3) := by decide +kernel
theorem d_Mo_question_105 : decode b_Mo_question 105 = .ok (.iload_n 2, 1) := by decide +kernel
theorem d_Mo_question_106 : decode b_Mo_question 106 = .ok (.iload_n 3, 1) := by decide +kernel
theorem d_Mo_question_107 : decode b_Mo_question 107 = .ok (.bipush 33, 2) := by decide +kernel
theorem d_Mo_question_109 : decode b_Mo_question 109 = .ok (.if_icmp .ne 7, 3) := by decide +kernel
theorem d_Mo_question_112 : decode b_Mo_question 112 = .ok (.iconst 1, 1) := by decide +kernel
theorem d_Mo_question_113 : decode b_Mo_question 113 = .ok (.goto 4, 3) := by decide +kernel
theorem d_Mo_question_116 : decode b_Mo_question 116 = .ok (.iconst 0, 1) := by decide +kernel
theorem d_Mo_question_117 : decode b_Mo_question 117 = .ok (.bastore, 1) := by decide +kernel
theorem d_Mo_question_118 : decode b_Mo_question 118 = .ok (.aload_n 0, 1) := by decide +kernel
theorem d_Mo_question_119 : decode b_Mo_question 119 = .ok (.getfield 24, 3) := by decide +kernel
theorem d_Mo_question_122 : decode b_Mo_question 122 = .ok (.iload_n 2, 1) := by decide +kernel
theorem d_Mo_question_123 : decode b_Mo_question 123 = .ok (.aload_n 0, 1) := by decide +kernel
theorem d_Mo_question_124 : decode b_Mo_question 124 = .ok (.iconst 0, 1) := by decide +kernel
theorem d_Mo_question_125 : decode b_Mo_question 125 = .ok (.sipush 9999, 3) := by decide +kernel
theorem d_Mo_question_128 : decode b_Mo_question 128 = .ok (.invokevirtual 109, 3) := by decide +kernel
theorem d_Mo_question_131 : decode b_Mo_question 131 = .ok (.iastore, 1) := by decide +kernel
theorem d_Mo_question_132 : decode b_Mo_question 132 = .ok (.aload_n 0, 1) := by decide +kernel
theorem d_Mo_question_133 : decode b_Mo_question 133 = .ok (.bipush 45, 2) := by decide +kernel
theorem d_Mo_question_135 : decode b_Mo_question 135 = .ok (.invokevirtual 103, 3) := by decide +kernel
theorem d_Mo_question_138 : decode b_Mo_question 138 = .ok (.aload_n 0, 1) := by decide +kernel
theorem d_Mo_question_139 : decode b_Mo_question 139 = .ok (.getfield 27, 3) := by decide +kernel
theorem d_Mo_question_142 : decode b_Mo_question 142 = .ok (.iload_n 2, 1) := by decide +kernel
theorem d_Mo_question_143 : decode b_Mo_question 143 = .ok (.aload_n 0, 1) := by decide +kernel
theorem d_Mo_question_144 : decode b_Mo_question 144 = .ok (.aload_n 0, 1) := by decide +kernel
theorem d_Mo_question_145 : decode b_Mo_question 145 = .ok (.getfield 24, 3) := by decide +kernel
theorem d_Mo_question_148 : decode b_Mo_question 148 = .ok (.iload_n 2, 1) := by decide +kernel
theorem d_Mo_question_149 : decode b_Mo_question 149 = .ok (.iaload, 1) := by decide +kernel
theorem d_Mo_question_150 : decode b_Mo_question 150 = .ok (.sipush 9999, 3) := by decide +kernel
theorem d_Mo_question_153 : decode b_Mo_question 153 = .ok (.invokevirtual 109, 3) := by decide +kernel
theorem d_Mo_question_156 : decode b_Mo_question 156 = .ok (.iastore, 1) := by decide +kernel
theorem d_Mo_question_157 : decode b_Mo_question 157 = .ok (.aload_n 0, 1) := by decide +kernel
theorem d_Mo_question_158 : decode b_Mo_question 158 = .ok (.iload_n 1, 1) := by decide +kernel
theorem d_Mo_question_159 : decode b_Mo_question 159 = .ok (.iconst 0, 1) := by decide +kernel
theorem d_Mo_question_160 : decode b_Mo_question 160 = .ok (.invokevirtual 113, 3) := by decide +kernel
theorem d_Mo_question_163 : decode b_Mo_question 163 = .ok (.aload_n 0, 1) := by decide +kernel
theorem d_Mo_question_164 : decode b_Mo_question 164 = .ok (.getfield 30, 3) := by decide +kernel
theorem d_Mo_question_167 : decode b_Mo_question 167 = .ok (.iconst 2, 1) := by decide +kernel
theorem d_Mo_question_168 : decode b_Mo_question 168 = .ok (.iload_n 2, 1) := by decide +kernel
theorem d_Mo_question_169 : decode b_Mo_question 169 = .ok (.imul, 1) := by decide +kernel
theorem d_Mo_question_170 : decode b_Mo_question 170 = .ok (.iconst 1, 1) := by decide +kernel
theorem d_Mo_question_171 : decode b_Mo_question 171 = .ok (.iadd, 1) := by decide +kernel
theorem d_Mo_question_172 : decode b_Mo_question 172 = .ok (.iconst 0, 1) := by decide +kernel
theorem d_Mo_question_173 : decode b_Mo_question 173 = .ok (.iastore, 1) := by decide +kernel
theorem d_Mo_question_174 : decode b_Mo_question 174 = .ok (.aload_n 0, 1) := by decide +kernel
theorem d_Mo_question_175 : decode b_Mo_question 175 = .ok (.getfield 86, 3) := by decide +kernel
theorem d_Mo_question_178 : decode b_Mo_question 178 = .ok (.ifCond .ge 18, 3) := by decide +kernel
theorem d_Mo_question_181 : decode b_Mo_question 181 = .ok (.aload_n 0, 1) := by decide +kernel
theorem d_Mo_question_182 : decode b_Mo_question 182 = .ok (.invokevirtual 89, 3) := by decide +kernel
theorem d_Mo_question_185 : decode b_Mo_question 185 = .ok (.bipush 34, 2) := by decide +kernel
theorem d_Mo_question_187 : decode b_Mo_question 187 = .ok (.if_icmp .ne 9, 3) := by decide +kernel
theorem d_Mo_question_190 : decode b_Mo_question 190 = .ok (.aload_n 0, 1) := by decide +kernel
theorem d_Mo_question_191 : decode b_Mo_question 191 = .ok (.iload_n 1, 1) := by decide +kernel
theorem d_Mo_question_192 : decode b_Mo_question 192 = .ok (.iconst 1, 1) := by decide +kernel
theorem d_Mo_question_193 : decode b_Mo_question 193 = .ok (.invokevirtual 113, 3) := by decide +kernel
theorem d_Mo_question_196 : decode b_Mo_question 196 = .ok (.aload_n 0, 1) := by decide +kernel
theorem d_Mo_question_197 : decode b_Mo_question 197 = .ok (.bipush 58, 2) := by decide +kernel
theorem d_Mo_question_199 : decode b_Mo_question 199 = .ok (.invokevirtual 103, 3) := by decide +kernel
theorem d_Mo_question_202 : decode b_Mo_question 202 = .ok (.aload_n 0, 1) := by decide +kernel
theorem d_Mo_question_203 : decode b_Mo_question 203 = .ok (.getfield 36, 3) := by decide +kernel
theorem d_Mo_question_206 : decode b_Mo_question 206 = .ok (.iload_n 2, 1) := by decide +kernel
theorem d_Mo_question_207 : decode b_Mo_question 207 = .ok (.iconst 0, 1) := by decide +kernel
theorem d_Mo_question_208 : decode b_Mo_question 208 = .ok (.iastore, 1) := by decide +kernel
theorem d_Mo_question_209 : decode b_Mo_question 209 = .ok (.iconst 1, 1) := by decide +kernel
theorem d_Mo_question_210 : decode b_Mo_question 210 = .ok (.istore 4, 2) := by decide +kernel
theorem d_Mo_question_212 : decode b_Mo_question 212 = .ok (.iload 4, 2) := by decide +kernel
theorem d_Mo_question_214 : decode b_Mo_question 214 = .ok (.ifCond .eq 47, 3) := by decide +kernel
theorem d_Mo_question_217 : decode b_Mo_question 217 = .ok (.aload_n 0, 1) := by decide +kernel
theorem d_Mo_question_218 : decode b_Mo_question 218 = .ok (.getfield 86, 3) := by decide +kernel
theorem d_Mo_question_221 : decode b_Mo_question 221 = .ok (.ifCond .ge 40, 3) := by decide +kernel
theorem d_Mo_question_224 : decode b_Mo_question 224 = .ok (.aload_n 0, 1) := by decide +kernel
theorem d_Mo_question_225 : decode b_Mo_question 225 = .ok (.iload_n 2, 1) := by decide +kernel
theorem d_Mo_question_226 : decode b_Mo_question 226 = .ok (.aload_n 0, 1) := by decide +kernel
theorem d_Mo_question_227 : decode b_Mo_question 227 = .ok (.getfield 36, 3) := by decide +kernel
theorem d_Mo_question_230 : decode b_Mo_question 230 = .ok (.iload_n 2, 1) := by decide +kernel
theorem d_Mo_question_231 : decode b_Mo_question 231 = .ok (.iaload, 1) := by decide +kernel
theorem d_Mo_question_232 : decode b_Mo_question 232 = .ok (.invokevirtual 117, 3) := by decide +kernel
theorem d_Mo_question_235 : decode b_Mo_question 235 = .ok (.istore 4, 2) := by decide +kernel
theorem d_Mo_question_237 : decode b_Mo_question 237 = .ok (.aload_n 0, 1) := by decide +kernel
theorem d_Mo_question_238 : decode b_Mo_question 238 = .ok (.getfield 36, 3) := by decide +kernel
theorem d_Mo_question_241 : decode b_Mo_question 241 = .ok (.iload_n 2, 1) := by decide +kernel
theorem d_Mo_question_242 : decode b_Mo_question 242 = .ok (.dup2, 1) := by decide +kernel
theorem d_Mo_question_243 : decode b_Mo_question 243 = .ok (.iaload, 1) := by decide +kernel
theorem d_Mo_question_244 : decode b_Mo_question 244 = .ok (.iconst 1, 1) := by decide +kernel
theorem d_Mo_question_245 : decode b_Mo_question 245 = .ok (.iadd, 1) := by decide +kernel
theorem d_Mo_question_246 : decode b_Mo_question 246 = .ok (.iastore, 1) := by decide +kernel
theorem d_Mo_question_247 : decode b_Mo_question 247 = .ok (.iload 4, 2) := by decide +kernel
theorem d_Mo_question_249 : decode b_Mo_question 249 = .ok (.ifCond .eq (-37), 3) := by decide +kernel
theorem d_Mo_question_252 : decode b_Mo_question 252 = .ok (.aload_n 0, 1) := by decide +kernel
theorem d_Mo_question_253 : decode b_Mo_question 253 = .ok (.bipush 44, 2) := by decide +kernel
theorem d_Mo_question_255 : decode b_Mo_question 255 = .ok (.invokevirtual 103, 3) := by decide +kernel
theorem d_Mo_question_258 : decode b_Mo_question 258 = .ok (.goto (-46), 3) := by decide +kernel
theorem d_Mo_question_261 : decode b_Mo_question 261 = .ok (.aload_n 0, 1) := by decide +kernel
theorem d_Mo_question_262 : decode b_Mo_question 262 = .ok (.bipush 59, 2) := by decide +kernel
theorem d_Mo_question_264 : decode b_Mo_question 264 = .ok (.invokevirtual 103, 3) := by decide +kernel
theorem d_Mo_question_267 : decode b_Mo_question 267 = .ok (.return_, 1) := by decide +kernel
theorem d_Mo_jump_0 : decode b_Mo_jump 0 = .ok (.iload_n 1, 1) := by decide +kernel
theorem d_Mo_jump_1 : decode b_Mo_jump 1 = .ok (.bipush 6, 2) := by decide +kernel
theorem d_Mo_jump_3 : decode b_Mo_jump 3 = .ok (.imul, 1) := by decide +kernel
theorem d_Mo_jump_4 : decode b_Mo_jump 4 = .ok (.iload_n 2, 1) := by decide +kernel
theorem d_Mo_jump_5 : decode b_Mo_jump 5 = .ok (.iadd, 1) := by decide +kernel
theorem d_Mo_jump_6 : decode b_Mo_jump 6 = .ok (.iconst 4, 1) := by decide +kernel
theorem d_Mo_jump_7 : decode b_Mo_jump 7 = .ok (.imul, 1) := by decide +kernel
theorem d_Mo_jump_8 : decode b_Mo_jump 8 = .ok (.istore_n 3, 1) := by decide +kernel
theorem d_Mo_jump_9 : decode b_Mo_jump 9 = .ok (.aload_n 0, 1) := by decide +kernel
theorem d_Mo_jump_10 : decode b_Mo_jump 10 = .ok (.invokevirtual 89, 3) := by decide +kernel
theorem d_Mo_jump_13 : decode b_Mo_jump 13 = .ok (.pop, 1) := by decide +kernel
theorem d_Mo_jump_14 : decode b_Mo_jump 14 = .ok (.aload_n 0, 1) := by decide +kernel
theorem d_Mo_jump_15 : decode b_Mo_jump 15 = .ok (.invokevirtual 96, 3) := by decide +kernel
theorem d_Mo_jump_18 : decode b_Mo_jump 18 = .ok (.ifCond .eq 12, 3) := by decide +kernel
theorem d_Mo_jump_21 : decode b_Mo_jump 21 = .ok (.iload_n 2, 1) := by decide +kernel
theorem d_Mo_jump_22 : decode b_Mo_jump 22 = .ok (.iconst 5, 1) := by decide +kernel
theorem d_Mo_jump_23 : decode b_Mo_jump 23 = .ok (.if_icmp .ge 7, 3) := by decide +kernel
theorem d_Mo_jump_26 : decode b_Mo_jump 26 = .ok (.iconst 1, 1) := by decide +kernel
theorem d_Mo_jump_27 : decode b_Mo_jump 27 = .ok (.goto 4, 3) := by decide +kernel
theorem d_Mo_jump_30 : decode b_Mo_jump 30 = .ok (.iconst 0, 1) := by decide +kernel
theorem d_Mo_jump_31 : decode b_Mo_jump 31 = .ok (.istore 4, 2) := by decide +kernel
theorem d_Mo_jump_33 : decode b_Mo_jump 33 = .ok (.aload_n 0, 1) := by decide +kernel
theorem d_Mo_jump_34 : decode b_Mo_jump 34 = .ok (.getfield 39, 3) := by decide +kernel
theorem d_Mo_jump_37 : decode b_Mo_jump 37 = .ok (.iload_n 3, 1) := by decide +kernel
theorem d_Mo_jump_38 : decode b_Mo_jump 38 = .ok (.iconst (-1), 1) := by decide +kernel
theorem d_Mo_jump_39 : decode b_Mo_jump 39 = .ok (.iastore, 1) := by decide +kernel
theorem d_Mo_jump_40 : decode b_Mo_jump 40 = .ok (.iload 4, 2) := by decide +kernel
theorem d_Mo_jump_42 : decode b_Mo_jump 42 = .ok (.ifCond .eq 44, 3) := by decide +kernel
theorem d_Mo_jump_45 : decode b_Mo_jump 45 = .ok (.aload_n 0, 1) := by decide +kernel
theorem d_Mo_jump_46 : decode b_Mo_jump 46 = .ok (.getfield 39, 3) := by decide +kernel
theorem d_Mo_jump_49 : decode b_Mo_jump 49 = .ok (.iload_n 3, 1) := by decide +kernel
theorem d_Mo_jump_50 : decode b_Mo_jump 50 = .ok (.aload_n 0, 1) := by decide +kernel
theorem d_Mo_jump_51 : decode b_Mo_jump 51 = .ok (.iconst 0, 1) := by decide +kernel
theorem d_Mo_jump_52 : decode b_Mo_jump 52 = .ok (.sipush 9999, 3) := by decide +kernel
theorem d_Mo_jump_55 : decode b_Mo_jump 55 = .ok (.invokevirtual 109, 3) := by decide +kernel
theorem d_Mo_jump_58 : decode b_Mo_jump 58 = .ok (.iastore, 1) := by decide +kernel
theorem d_Mo_jump_59 : decode b_Mo_jump 59 = .ok (.aload_n 0, 1) := by decide +kernel
theorem d_Mo_jump_60 : decode b_Mo_jump 60 = .ok (.bipush 45, 2) := by decide +kernel
theorem d_Mo_jump_62 : decode b_Mo_jump 62 = .ok (.invokevirtual 103, 3) := by decide +kernel
theorem d_Mo_jump_65 : decode b_Mo_jump 65 = .ok (.aload_n 0, 1) := by decide +kernel
theorem d_Mo_jump_66 : decode b_Mo_jump 66 = .ok (.getfield 39, 3) := by decide +kernel
theorem d_Mo_jump_69 : decode b_Mo_jump 69 = .ok (.iload_n 3, 1) := by decide +kernel
theorem d_Mo_jump_70 : decode b_Mo_jump 70 = .ok (.iconst 1, 1) := by decide +kernel
theorem d_Mo_jump_71 : decode b_Mo_jump 71 = .ok (.iadd, 1) := by decide +kernel
theorem d_Mo_jump_72 : decode b_Mo_jump 72 = .ok (.aload_n 0, 1) := by decide +kernel
theorem d_Mo_jump_73 : decode b_Mo_jump 73 = .ok (.aload_n 0, 1) := by decide +kernel
theorem d_Mo_jump_74 : decode b_Mo_jump 74 = .ok (.getfield 39, 3) := by decide +kernel
theorem d_Mo_jump_77 : decode b_Mo_jump 77 = .ok (.iload_n 3, 1) := by decide +kernel
theorem d_Mo_jump_78 : decode b_Mo_jump 78 = .ok (.iaload, 1) := by decide +kernel
theorem d_Mo_jump_79 : decode b_Mo_jump 79 = .ok (.sipush 9999, 3) := by decide +kernel
theorem d_Mo_jump_82 : decode b_Mo_jump 82 = .ok (.invokevirtual 109, 3) := by decide +kernel
theorem d_Mo_jump_85 : decode b_Mo_jump 85 = .ok (.iastore, 1) := by decide +kernel
theorem d_Mo_jump_86 : decode b_Mo_jump 86 = .ok (.aload_n 0, 1) := by decide +kernel
theorem d_Mo_jump_87 : decode b_Mo_jump 87 = .ok (.bipush 62, 2) := by decide +kernel
theorem d_Mo_jump_89 : decode b_Mo_jump 89 = .ok (.invokevirtual 103, 3) := by decide +kernel
theorem d_Mo_jump_92 : decode b_Mo_jump 92 = .ok (.aload_n 0, 1) := by decide +kernel
theorem d_Mo_jump_93 : decode b_Mo_jump 93 = .ok (.getfield 39, 3) := by decide +kernel
theorem d_Mo_jump_96 : decode b_Mo_jump 96 = .ok (.iload_n 3, 1) := by decide +kernel
theorem d_Mo_jump_97 : decode b_Mo_jump 97 = .ok (.iconst 2, 1) := by decide +kernel
theorem d_Mo_jump_98 : decode b_Mo_jump 98 = .ok (.iadd, 1) := by decide +kernel
theorem d_Mo_jump_99 : decode b_Mo_jump 99 = .ok (.aload_n 0, 1) := by decide +kernel
theorem d_Mo_jump_100 : decode b_Mo_jump 100 = .ok (.iconst 0, 1) := by decide +kernel
theorem d_Mo_jump_101 : decode b_Mo_jump 101 = .ok (.bipush 60, 2) := by decide +kernel
theorem d_Mo_jump_103 : decode b_Mo_jump 103 = .ok (.invokevirtual 109, 3) := by decide +kernel
theorem d_Mo_jump_106 : decode b_Mo_jump 106 = .ok (.iastore, 1) := by decide +kernel
theorem d_Mo_jump_107 : decode b_Mo_jump 107 = .ok (.aload_n 0, 1) := by decide +kernel
theorem d_Mo_jump_108 : decode b_Mo_jump 108 = .ok (.getfield 39, 3) := by decide +kernel
theorem d_Mo_jump_111 : decode b_Mo_jump 111 = .ok (.iload_n 3, 1) := by decide +kernel
theorem d_Mo_jump_112 : decode b_Mo_jump 112 = .ok (.iconst 3, 1) := by decide +kernel
theorem d_Mo_jump_113 : decode b_Mo_jump 113 = .ok (.iadd, 1) := by decide +kernel
theorem d_Mo_jump_114 : decode b_Mo_jump 114 = .ok (.iconst 0, 1) := by decide +kernel
theorem d_Mo_jump_115 : decode b_Mo_jump 115 = .ok (.iastore, 1) := by decide +kernel
theorem d_Mo_jump_116 : decode b_Mo_jump 116 = .ok (.aload_n 0, 1) := by decide +kernel
theorem d_Mo_jump_117 : decode b_Mo_jump 117 = .ok (.getfield 86, 3) := by decide +kernel
theorem d_Mo_jump_120 : decode b_Mo_jump 120 = .ok (.ifCond .ge 38, 3) := by decide +kernel
theorem d_Mo_jump_123 : decode b_Mo_jump 123 = .ok (.aload_n 0, 1) := by decide +kernel
theorem d_Mo_jump_124 : decode b_Mo_jump 124 = .ok (.invokevirtual 89, 3) := by decide +kernel
theorem d_Mo_jump_127 : decode b_Mo_jump 127 = .ok (.bipush 43, 2) := by decide +kernel
theorem d_Mo_jump_129 : decode b_Mo_jump 129 = .ok (.if_icmp .ne 29, 3) := by decide +kernel
theorem d_Mo_jump_132 : decode b_Mo_jump 132 = .ok (.aload_n 0, 1) := by decide +kernel
theorem d_Mo_jump_133 : decode b_Mo_jump 133 = .ok (.dup, 1) := by decide +kernel
theorem d_Mo_jump_134 : decode b_Mo_jump 134 = .ok (.getfield 79, 3) := by decide +kernel
theorem d_Mo_jump_137 : decode b_Mo_jump 137 = .ok (.iconst 1, 1) := by decide +kernel
theorem d_Mo_jump_138 : decode b_Mo_jump 138 = .ok (.iadd, 1) := by decide +kernel
theorem d_Mo_jump_139 : decode b_Mo_jump 139 = .ok (.putfield 79, 3) := by decide +kernel
theorem d_Mo_jump_142 : decode b_Mo_jump 142 = .ok (.aload_n 0, 1) := by decide +kernel
theorem d_Mo_jump_143 : decode b_Mo_jump 143 = .ok (.getfield 39, 3) := by decide +kernel
theorem d_Mo_jump_146 : decode b_Mo_jump 146 = .ok (.iload_n 3, 1) := by decide +kernel
theorem d_Mo_jump_147 : decode b_Mo_jump 147 = .ok (.iconst 3, 1) := by decide +kernel
theorem d_Mo_jump_148 : decode b_Mo_jump 148 = .ok (.iadd, 1) := by decide +kernel
theorem d_Mo_jump_149 : decode b_Mo_jump 149 = .ok (.aload_n 0, 1) := by decide +kernel
theorem d_Mo_jump_150 : decode b_Mo_jump 150 = .ok (.iconst 0, 1) := by decide +kernel
theorem d_Mo_jump_151 : decode b_Mo_jump 151 = .ok (.sipush 999, 3) := by decide +kernel
theorem d_Mo_jump_154 : decode b_Mo_jump 154 = .ok (.invokevirtual 109, 3) := by decide +kernel
theorem d_Mo_jump_157 : decode b_Mo_jump 157 = .ok (.iastore, 1) := by decide +kernel
theorem d_Mo_jump_158 : decode b_Mo_jump 158 = .ok (.iload 4, 2) := by decide +kernel
theorem d_Mo_jump_160 : decode b_Mo_jump 160 = .ok (.ireturn, 1) := by decide +kernel
theorem d_Mo_kindRow_0 : decode b_Mo_kindRow 0 = .ok (.aload_n 0, 1) := by decide +kernel
theorem d_Mo_kindRow_1 : decode b_Mo_kindRow 1 = .ok (.iconst 1, 1) := by decide +kernel
theorem d_Mo_kindRow_2 : decode b_Mo_kindRow 2 = .ok (.bipush 9, 2) := by decide +kernel
theorem d_Mo_kindRow_4 : decode b_Mo_kindRow 4 = .ok (.invokevirtual 109, 3) := by decide +kernel
theorem d_Mo_kindRow_7 : decode b_Mo_kindRow 7 = .ok (.istore_n 1, 1) := by decide +kernel
theorem d_Mo_kindRow_8 : decode b_Mo_kindRow 8 = .ok (.aload_n 0, 1) := by decide +kernel
theorem d_Mo_kindRow_9 : decode b_Mo_kindRow 9 = .ok (.getfield 86, 3) := by decide +kernel
theorem d_Mo_kindRow_12 : decode b_Mo_kindRow 12 = .ok (.ifCond .ge 22, 3) := by decide +kernel
theorem d_Mo_kindRow_15 : decode b_Mo_kindRow 15 = .ok (.aload_n 0, 1) := by decide +kernel
theorem d_Mo_kindRow_16 : decode b_Mo_kindRow 16 = .ok (.getfield 57, 3) := by decide +kernel
theorem d_Mo_kindRow_19 : decode b_Mo_kindRow 19 = .ok (.iload_n 1, 1) := by decide +kernel
theorem d_Mo_kindRow_20 : decode b_Mo_kindRow 20 = .ok (.baload, 1) := by decide +kernel
theorem d_Mo_kindRow_21 : decode b_Mo_kindRow 21 = .ok (.ifCond .eq 13, 3) := by decide +kernel
theorem d_Mo_kindRow_24 : decode b_Mo_kindRow 24 = .ok (.aload_n 0, 1) := by decide +kernel
theorem d_Mo_kindRow_25 : decode b_Mo_kindRow 25 = .ok (.aload_n 0, 1) := by decide +kernel
theorem d_Mo_kindRow_26 : decode b_Mo_kindRow 26 = .ok (.getfield 79, 3) := by decide +kernel
theorem d_Mo_kindRow_29 : decode b_Mo_kindRow 29 = .ok (.iconst 1, 1) := by decide +kernel
theorem d_Mo_kindRow_30 : decode b_Mo_kindRow 30 = .ok (.isub, 1) := by decide +kernel
theorem d_Mo_kindRow_31 : decode b_Mo_kindRow 31 = .ok (.invokevirtual 92, 3) := by decide +kernel
theorem d_Mo_kindRow_34 : decode b_Mo_kindRow 34 = .ok (.aload_n 0, 1) := by decide +kernel
theorem d_Mo_kindRow_35 : decode b_Mo_kindRow 35 = .ok (.getfield 86, 3) := by decide +kernel
theorem d_Mo_kindRow_38 : decode b_Mo_kindRow 38 = .ok (.ifCond .lt 4, 3) := by decide +kernel
theorem d_Mo_kindRow_41 : decode b_Mo_kindRow 41 = .ok (.return_, 1) := by decide +kernel
theorem d_Mo_kindRow_42 : decode b_Mo_kindRow 42 = .ok (.aload_n 0, 1) := by decide +kernel
theorem d_Mo_kindRow_43 : decode b_Mo_kindRow 43 = .ok (.getfield 57, 3) := by decide +kernel
theorem d_Mo_kindRow_46 : decode b_Mo_kindRow 46 = .ok (.iload_n 1, 1) := by decide +kernel
theorem d_Mo_kindRow_47 : decode b_Mo_kindRow 47 = .ok (.iconst 1, 1) := by decide +kernel
theorem d_Mo_kindRow_48 : decode b_Mo_kindRow 48 = .ok (.bastore, 1) := by decide +kernel
theorem d_Mo_kindRow_49 : decode b_Mo_kindRow 49 = .ok (.aload_n 0, 1) := by decide +kernel
theorem d_Mo_kindRow_50 : decode b_Mo_kindRow 50 = .ok (.getfield 106, 3) := by decide +kernel
theorem d_Mo_kindRow_53 : decode b_Mo_kindRow 53 = .ok (.bipush 10, 2) := by decide +kernel
theorem d_Mo_kindRow_55 : decode b_Mo_kindRow 55 = .ok (.imul, 1) := by decide +kernel
theorem d_Mo_kindRow_56 : decode b_Mo_kindRow 56 = .ok (.iload_n 1, 1) := by decide +kernel
theorem d_Mo_kindRow_57 : decode b_Mo_kindRow 57 = .ok (.iadd, 1) := by decide +kernel
theorem d_Mo_kindRow_58 : decode b_Mo_kindRow 58 = .ok (.istore_n 2, 1) := by decide +kernel
theorem d_Mo_kindRow_59 : decode b_Mo_kindRow 59 = .ok (.aload_n 0, 1) := by decide +kernel
theorem d_Mo_kindRow_60 : decode b_Mo_kindRow 60 = .ok (.bipush 61, 2) := by decide +kernel
theorem d_Mo_kindRow_62 : decode b_Mo_kindRow 62 = .ok (.invokevirtual 103, 3) := by decide +kernel
theorem d_Mo_kindRow_65 : decode b_Mo_kindRow 65 = .ok (.aload_n 0, 1) := by decide +kernel
theorem d_Mo_kindRow_66 : decode b_Mo_kindRow 66 = .ok (.getfield 42, 3) := by decide +kernel
theorem d_Mo_kindRow_69 : decode b_Mo_kindRow 69 = .ok (.iload_n 2, 1) := by decide +kernel
theorem d_Mo_kindRow_70 : decode b_Mo_kindRow 70 = .ok (.aload_n 0, 1) := by decide +kernel
theorem d_Mo_kindRow_71 : decode b_Mo_kindRow 71 = .ok (.iconst 1, 1) := by decide +kernel
theorem d_Mo_kindRow_72 : decode b_Mo_kindRow 72 = .ok (.bipush 60, 2) := by decide +kernel
theorem d_Mo_kindRow_74 : decode b_Mo_kindRow 74 = .ok (.invokevirtual 109, 3) := by decide +kernel
theorem d_Mo_kindRow_77 : decode b_Mo_kindRow 77 = .ok (.iastore, 1) := by decide +kernel
theorem d_Mo_kindRow_78 : decode b_Mo_kindRow 78 = .ok (.aload_n 0, 1) := by decide +kernel
theorem d_Mo_kindRow_79 : decode b_Mo_kindRow 79 = .ok (.bipush 58, 2) := by decide +kernel
theorem d_Mo_kindRow_81 : decode b_Mo_kindRow 81 = .ok (.invokevirtual 103, 3) := by decide +kernel
theorem d_Mo_kindRow_84 : decode b_Mo_kindRow 84 = .ok (.aload_n 0, 1) := by decide +kernel
theorem d_Mo_kindRow_85 : decode b_Mo_kindRow 85 = .ok (.getfield 45, 3) := by decide +kernel
theorem d_Mo_kindRow_88 : decode b_Mo_kindRow 88 = .ok (.iload_n 2, 1) := by decide +kernel
theorem d_Mo_kindRow_89 : decode b_Mo_kindRow 89 = .ok (.aload_n 0, 1) := by decide +kernel
theorem d_Mo_kindRow_90 : decode b_Mo_kindRow 90 = .ok (.iconst 0, 1) := by decide +kernel
theorem d_Mo_kindRow_91 : decode b_Mo_kindRow 91 = .ok (.bipush 9, 2) := by decide +kernel
theorem d_Mo_kindRow_93 : decode b_Mo_kindRow 93 = .ok (.invokevirtual 109, 3) := by decide +kernel
theorem d_Mo_kindRow_96 : decode b_Mo_kindRow 96 = .ok (.iastore, 1) := by decide +kernel
theorem d_Mo_kindRow_97 : decode b_Mo_kindRow 97 = .ok (.aload_n 0, 1) := by decide +kernel
theorem d_Mo_kindRow_98 : decode b_Mo_kindRow 98 = .ok (.getfield 48, 3) := by decide +kernel
theorem d_Mo_kindRow_101 : decode b_Mo_kindRow 101 = .ok (.iload_n 2, 1) := by decide +kernel
theorem d_Mo_kindRow_102 : decode b_Mo_kindRow 102 = .ok (.iconst 0, 1) := by decide +kernel
theorem d_Mo_kindRow_103 : decode b_Mo_kindRow 103 = .ok (.iastore, 1) := by decide +kernel
theorem d_Mo_kindRow_104 : decode b_Mo_kindRow 104 = .ok (.aload_n 0, 1) := by decide +kernel
theorem d_Mo_kindRow_105 : decode b_Mo_kindRow 105 = .ok (.getfield 86, 3) := by decide +kernel
theorem d_Mo_kindRow_108 : decode b_Mo_kindRow 108 = .ok (.ifCond .ge 64, 3) := by decide +kernel
theorem d_Mo_kindRow_111 : decode b_Mo_kindRow 111 = .ok (.aload_n 0, 1) := by decide +kernel
theorem d_Mo_kindRow_112 : decode b_Mo_kindRow 112 = .ok (.getfield 48, 3) := by decide +kernel
theorem d_Mo_kindRow_115 : decode b_Mo_kindRow 115 = .ok (.iload_n 2, 1) := by decide +kernel
theorem d_Mo_kindRow_116 : decode b_Mo_kindRow 116 = .ok (.iaload, 1) := by decide +kernel
theorem d_Mo_kindRow_117 : decode b_Mo_kindRow 117 = .ok (.bipush 6, 2) := by decide +kernel
theorem d_Mo_kindRow_119 : decode b_Mo_kindRow 119 = .ok (.if_icmp .ge 53, 3) := by decide +kernel
theorem d_Mo_kindRow_122 : decode b_Mo_kindRow 122 = .ok (.aload_n 0, 1) := by decide +kernel
theorem d_Mo_kindRow_123 : decode b_Mo_kindRow 123 = .ok (.invokevirtual 89, 3) := by decide +kernel
theorem d_Mo_kindRow_126 : decode b_Mo_kindRow 126 = .ok (.bipush 40, 2) := by decide +kernel
theorem d_Mo_kindRow_128 : decode b_Mo_kindRow 128 = .ok (.if_icmp .ne 44, 3) := by decide +kernel
theorem d_Mo_kindRow_131 : decode b_Mo_kindRow 131 = .ok (.aload_n 0, 1) := by decide +kernel
theorem d_Mo_kindRow_132 : decode b_Mo_kindRow 132 = .ok (.dup, 1) := by decide +kernel
theorem d_Mo_kindRow_133 : decode b_Mo_kindRow 133 = .ok (.getfield 79, 3) := by decide +kernel
theorem d_Mo_kindRow_136 : decode b_Mo_kindRow 136 = .ok (.iconst 1, 1) := by decide +kernel
theorem d_Mo_kindRow_137 : decode b_Mo_kindRow 137 = .ok (.iadd, 1) := by decide +kernel
theorem d_Mo_kindRow_138 : decode b_Mo_kindRow 138 = .ok (.putfield 79, 3) := by decide +kernel
theorem d_Mo_kindRow_141 : decode b_Mo_kindRow 141 = .ok (.aload_n 0, 1) := by decide +kernel
theorem d_Mo_kindRow_142 : decode b_Mo_kindRow 142 = .ok (.iload_n 2, 1) := by decide +kernel
theorem d_Mo_kindRow_143 : decode b_Mo_kindRow 143 = .ok (.bipush 6, 2) := by decide +kernel
theorem d_Mo_kindRow_145 : decode b_Mo_kindRow 145 = .ok (.imul, 1) := by decide +kernel
theorem d_Mo_kindRow_146 : decode b_Mo_kindRow 146 = .ok (.aload_n 0, 1) := by decide +kernel
theorem d_Mo_kindRow_147 : decode b_Mo_kindRow 147 = .ok (.getfield 48, 3) := by decide +kernel
theorem d_Mo_kindRow_150 : decode b_Mo_kindRow 150 = .ok (.iload_n 2, 1) := by decide +kernel
theorem d_Mo_kindRow_151 : decode b_Mo_kindRow 151 = .ok (.iaload, 1) := by decide +kernel
theorem d_Mo_kindRow_152 : decode b_Mo_kindRow 152 = .ok (.iadd, 1) := by decide +kernel
theorem d_Mo_kindRow_153 : decode b_Mo_kindRow 153 = .ok (.bipush 14, 2) := by decide +kernel
theorem d_Mo_kindRow_155 : decode b_Mo_kindRow 155 = .ok (.imul, 1) := by decide +kernel
theorem d_Mo_kindRow_156 : decode b_Mo_kindRow 156 = .ok (.invokevirtual 120, 3) := by decide +kernel
theorem d_Mo_kindRow_159 : decode b_Mo_kindRow 159 = .ok (.aload_n 0, 1) := by decide +kernel
theorem d_Mo_kindRow_160 : decode b_Mo_kindRow 160 = .ok (.getfield 48, 3) := by decide +kernel
theorem d_Mo_kindRow_163 : decode b_Mo_kindRow 163 = .ok (.iload_n 2, 1) := by decide +kernel
theorem d_Mo_kindRow_164 : decode b_Mo_kindRow 164 = .ok (.dup2, 1) := by decide +kernel
theorem d_Mo_kindRow_165 : decode b_Mo_kindRow 165 = .ok (.iaload, 1) := by decide +kernel
theorem d_Mo_kindRow_166 : decode b_Mo_kindRow 166 = .ok (.iconst 1, 1) := by decide +kernel
theorem d_Mo_kindRow_167 : decode b_Mo_kindRow 167 = .ok (.iadd, 1) := by decide +kernel
theorem d_Mo_kindRow_168 : decode b_Mo_kindRow 168 = .ok (.iastore, 1) := by decide +kernel
theorem d_Mo_kindRow_169 : decode b_Mo_kindRow 169 = .ok (.goto (-65), 3) := by decide +kernel
theorem d_Mo_kindRow_172 : decode b_Mo_kindRow 172 = .ok (.aload_n 0, 1) := by decide +kernel
theorem d_Mo_kindRow_173 : decode b_Mo_kindRow 173 = .ok (.bipush 59, 2) := by decide +kernel
theorem d_Mo_kindRow_175 : decode b_Mo_kindRow 175 = .ok (.invokevirtual 103, 3) := by decide +kernel
theorem d_Mo_kindRow_178 : decode b_Mo_kindRow 178 = .ok (.return_, 1) := by decide +kernel
theorem d_Mo_conditionRow_0 : decode b_Mo_conditionRow 0 = .ok (.iconst 0, 1) := by decide +kernel
theorem d_Mo_conditionRow_1 : decode b_Mo_conditionRow 1 = .ok (.istore_n 2, 1) := by decide +kernel
theorem d_Mo_conditionRow_2 : decode b_Mo_conditionRow 2 = .ok (.iconst 1, 1) := by decide +kernel
theorem d_Mo_conditionRow_3 : decode b_Mo_conditionRow 3 = .ok (.istore_n 3, 1) := by decide +kernel
theorem d_Mo_conditionRow_4 : decode b_Mo_conditionRow 4 = .ok (.iload_n 3, 1) := by decide +kernel
theorem d_Mo_conditionRow_5 : decode b_Mo_conditionRow 5 = .ok (.ifCond .eq 68, 3) := by decide +kernel
theorem d_Mo_conditionRow_8 : decode b_Mo_conditionRow 8 = .ok (.aload_n 0, 1) := by decide +kernel
theorem d_Mo_conditionRow_9 : decode b_Mo_conditionRow 9 = .ok (.getfield 86, 3) := by decide +kernel
theorem d_Mo_conditionRow_12 : decode b_Mo_conditionRow 12 = .ok (.ifCond .ge 61, 3) := by decide +kernel
theorem d_Mo_conditionRow_15 : decode b_Mo_conditionRow 15 = .ok (.aload_n 0, 1) := by decide +kernel
theorem d_Mo_conditionRow_16 : decode b_Mo_conditionRow 16 = .ok (.iload_n 1, 1) := by decide +kernel
theorem d_Mo_conditionRow_17 : decode b_Mo_conditionRow 17 = .ok (.iconst 2, 1) := by decide +kernel
theorem d_Mo_conditionRow_18 : decode b_Mo_conditionRow 18 = .ok (.iadd, 1) := by decide +kernel
theorem d_Mo_conditionRow_19 : decode b_Mo_conditionRow 19 = .ok (.iconst 3, 1) := by decide +kernel
theorem d_Mo_conditionRow_20 : decode b_Mo_conditionRow 20 = .ok (.iload_n 2, 1) := by decide +kernel
theorem d_Mo_conditionRow_21 : decode b_Mo_conditionRow 21 = .ok (.imul, 1) := by decide +kernel
theorem d_Mo_conditionRow_22 : decode b_Mo_conditionRow 22 = .ok (.iadd, 1) := by decide +kernel
theorem d_Mo_conditionRow_23 : decode b_Mo_conditionRow 23 = .ok (.invokevirtual 123, 3) := by decide +kernel
theorem d_Mo_conditionRow_26 : decode b_Mo_conditionRow 26 = .ok (.iinc 2 1, 3) := by decide +kernel
theorem d_Mo_conditionRow_29 : decode b_Mo_conditionRow 29 = .ok (.aload_n 0, 1) := by decide +kernel
theorem d_Mo_conditionRow_30 : decode b_Mo_conditionRow 30 = .ok (.getfield 86, 3) := by decide +kernel
theorem d_Mo_conditionRow_33 : decode b_Mo_conditionRow 33 = .ok (.ifCond .ge 21, 3) := by decide +kernel
theorem d_Mo_conditionRow_36 : decode b_Mo_conditionRow 36 = .ok (.iload_n 2, 1) := by decide +kernel
theorem d_Mo_conditionRow_37 : decode b_Mo_conditionRow 37 = .ok (.iconst 4, 1) := by decide +kernel
theorem d_Mo_conditionRow_38 : decode b_Mo_conditionRow 38 = .ok (.if_icmp .ge 16, 3) := by decide +kernel
theorem d_Mo_conditionRow_41 : decode b_Mo_conditionRow 41 = .ok (.aload_n 0, 1) := by decide +kernel
theorem d_Mo_conditionRow_42 : decode b_Mo_conditionRow 42 = .ok (.invokevirtual 89, 3) := by decide +kernel
theorem d_Mo_conditionRow_45 : decode b_Mo_conditionRow 45 = .ok (.bipush 38, 2) := by decide +kernel
theorem d_Mo_conditionRow_47 : decode b_Mo_conditionRow 47 = .ok (.if_icmp .ne 7, 3) := by decide +kernel
theorem d_Mo_conditionRow_50 : decode b_Mo_conditionRow 50 = .ok (.iconst 1, 1) := by decide +kernel
theorem d_Mo_conditionRow_51 : decode b_Mo_conditionRow 51 = .ok (.goto 4, 3) := by decide +kernel
theorem d_Mo_conditionRow_54 : decode b_Mo_conditionRow 54 = .ok (.iconst 0, 1) := by decide +kernel
theorem d_Mo_conditionRow_55 : decode b_Mo_conditionRow 55 = .ok (.istore_n 3, 1) := by decide +kernel
theorem d_Mo_conditionRow_56 : decode b_Mo_conditionRow 56 = .ok (.iload_n 3, 1) := by decide +kernel
theorem d_Mo_conditionRow_57 : decode b_Mo_conditionRow 57 = .ok (.ifCond .eq (-53), 3) := by decide +kernel
theorem d_Mo_conditionRow_60 : decode b_Mo_conditionRow 60 = .ok (.aload_n 0, 1) := by decide +kernel
theorem d_Mo_conditionRow_61 : decode b_Mo_conditionRow 61 = .ok (.dup, 1) := by decide +kernel
theorem d_Mo_conditionRow_62 : decode b_Mo_conditionRow 62 = .ok (.getfield 79, 3) := by decide +kernel
theorem d_Mo_conditionRow_65 : decode b_Mo_conditionRow 65 = .ok (.iconst 1, 1) := by decide +kernel
theorem d_Mo_conditionRow_66 : decode b_Mo_conditionRow 66 = .ok (.iadd, 1) := by decide +kernel
theorem d_Mo_conditionRow_67 : decode b_Mo_conditionRow 67 = .ok (.putfield 79, 3) := by decide +kernel
theorem d_Mo_conditionRow_70 : decode b_Mo_conditionRow 70 = .ok (.goto (-66), 3) := by decide +kernel
theorem d_Mo_conditionRow_73 : decode b_Mo_conditionRow 73 = .ok (.aload_n 0, 1) := by decide +kernel
theorem d_Mo_conditionRow_74 : decode b_Mo_conditionRow 74 = .ok (.getfield 51, 3) := by decide +kernel
theorem d_Mo_conditionRow_77 : decode b_Mo_conditionRow 77 = .ok (.iload_n 1, 1) := by decide +kernel
theorem d_Mo_conditionRow_78 : decode b_Mo_conditionRow 78 = .ok (.iconst 1, 1) := by decide +kernel
theorem d_Mo_conditionRow_79 : decode b_Mo_conditionRow 79 = .ok (.iadd, 1) := by decide +kernel
theorem d_Mo_conditionRow_80 : decode b_Mo_conditionRow 80 = .ok (.iload_n 2, 1) := by decide +kernel
theorem d_Mo_conditionRow_81 : decode b_Mo_conditionRow 81 = .ok (.iastore, 1) := by decide +kernel
theorem d_Mo_conditionRow_82 : decode b_Mo_conditionRow 82 = .ok (.aload_n 0, 1) := by decide +kernel
theorem d_Mo_conditionRow_83 : decode b_Mo_conditionRow 83 = .ok (.bipush 58, 2) := by decide +kernel
theorem d_Mo_conditionRow_85 : decode b_Mo_conditionRow 85 = .ok (.invokevirtual 103, 3) := by decide +kernel
theorem d_Mo_conditionRow_88 : decode b_Mo_conditionRow 88 = .ok (.aload_n 0, 1) := by decide +kernel
theorem d_Mo_conditionRow_89 : decode b_Mo_conditionRow 89 = .ok (.getfield 51, 3) := by decide +kernel
theorem d_Mo_conditionRow_92 : decode b_Mo_conditionRow 92 = .ok (.iload_n 1, 1) := by decide +kernel
theorem d_Mo_conditionRow_93 : decode b_Mo_conditionRow 93 = .ok (.aload_n 0, 1) := by decide +kernel
theorem d_Mo_conditionRow_94 : decode b_Mo_conditionRow 94 = .ok (.iconst 0, 1) := by decide +kernel
theorem d_Mo_conditionRow_95 : decode b_Mo_conditionRow 95 = .ok (.bipush 9, 2) := by decide +kernel
theorem d_Mo_conditionRow_97 : decode b_Mo_conditionRow 97 = .ok (.invokevirtual 109, 3) := by decide +kernel
theorem d_Mo_conditionRow_100 : decode b_Mo_conditionRow 100 = .ok (.iastore, 1) := by decide +kernel
theorem d_Mo_conditionRow_101 : decode b_Mo_conditionRow 101 = .ok (.aload_n 0, 1) := by decide +kernel
theorem d_Mo_conditionRow_102 : decode b_Mo_conditionRow 102 = .ok (.bipush 41, 2) := by decide +kernel
theorem d_Mo_conditionRow_104 : decode b_Mo_conditionRow 104 = .ok (.invokevirtual 103, 3) := by decide +kernel
theorem d_Mo_conditionRow_107 : decode b_Mo_conditionRow 107 = .ok (.return_, 1) := by decide +kernel
theorem d_Mo_term_0 : decode b_Mo_term 0 = .ok (.aload_n 0, 1) := by decide +kernel
theorem d_Mo_term_1 : decode b_Mo_term 1 = .ok (.invokevirtual 89, 3) := by decide +kernel
theorem d_Mo_term_4 : decode b_Mo_term 4 = .ok (.istore_n 2, 1) := by decide +kernel
theorem d_Mo_term_5 : decode b_Mo_term 5 = .ok (.iload_n 2, 1) := by decide +kernel
theorem d_Mo_term_6 : decode b_Mo_term 6 = .ok (.bipush 113, 2) := by decide +kernel
theorem d_Mo_term_8 : decode b_Mo_term 8 = .ok (.if_icmp .eq 17, 3) := by decide +kernel
theorem d_Mo_term_11 : decode b_Mo_term 11 = .ok (.iload_n 2, 1) := by decide +kernel
theorem d_Mo_term_12 : decode b_Mo_term 12 = .ok (.bipush 112, 2) := by decide +kernel
theorem d_Mo_term_14 : decode b_Mo_term 14 = .ok (.if_icmp .eq 11, 3) := by decide +kernel
theorem d_Mo_term_17 : decode b_Mo_term 17 = .ok (.aload_n 0, 1) := by decide +kernel
theorem d_Mo_term_18 : decode b_Mo_term 18 = .ok (.aload_n 0, 1) := by decide +kernel
theorem d_Mo_term_19 : decode b_Mo_term 19 = .ok (.getfield 79, 3) := by decide +kernel
theorem d_Mo_term_22 : decode b_Mo_term 22 = .ok (.invokevirtual 92, 3) := by decide +kernel
theorem d_Mo_term_25 : decode b_Mo_term 25 = .ok (.aload_n 0, 1) := by decide +kernel
theorem d_Mo_term_26 : decode b_Mo_term 26 = .ok (.getfield 86, 3) := by decide +kernel
theorem d_Mo_term_29 : decode b_Mo_term 29 = .ok (.ifCond .lt 4, 3) := by decide +kernel
theorem d_Mo_term_32 : decode b_Mo_term 32 = .ok (.return_, 1) := by decide +kernel
theorem d_Mo_term_33 : decode b_Mo_term 33 = .ok (.aload_n 0, 1) := by decide +kernel
theorem d_Mo_term_34 : decode b_Mo_term 34 = .ok (.dup, 1) := by decide +kernel
theorem d_Mo_term_35 : decode b_Mo_term 35 = .ok (.getfield 79, 3) := by decide +kernel
theorem d_Mo_term_38 : decode b_Mo_term 38 = .ok (.iconst 1, 1) := by decide +kernel
theorem d_Mo_term_39 : decode b_Mo_term 39 = .ok (.iadd, 1) := by decide +kernel
theorem d_Mo_term_40 : decode b_Mo_term 40 = .ok (.putfield 79, 3) := by decide +kernel
theorem d_Mo_term_43 : decode b_Mo_term 43 = .ok (.aload_n 0, 1) := by decide +kernel
theorem d_Mo_term_44 : decode b_Mo_term 44 = .ok (.getfield 51, 3) := by decide +kernel
theorem d_Mo_term_47 : decode b_Mo_term 47 = .ok (.iload_n 1, 1) := by decide +kernel
theorem d_Mo_term_48 : decode b_Mo_term 48 = .ok (.iload_n 2, 1) := by decide +kernel
theorem d_Mo_term_49 : decode b_Mo_term 49 = .ok (.bipush 113, 2) := by decide +kernel
theorem d_Mo_term_51 : decode b_Mo_term 51 = .ok (.if_icmp .ne 13, 3) := by decide +kernel
theorem d_Mo_term_54 : decode b_Mo_term 54 = .ok (.aload_n 0, 1) := by decide +kernel
theorem d_Mo_term_55 : decode b_Mo_term 55 = .ok (.iconst 1, 1) := by decide +kernel
theorem d_Mo_term_56 : decode b_Mo_term 56 = .ok (.bipush 60, 2) := by decide +kernel
theorem d_Mo_term_58 : decode b_Mo_term 58 = .ok (.invokevirtual 109, 3) := by decide +kernel
theorem d_Mo_term_61 : decode b_Mo_term 61 = .ok (.goto 4, 3) := by decide +kernel
theorem d_Mo_term_64 : decode b_Mo_term 64 = .ok (.iconst 0, 1) := by decide +kernel
theorem d_Mo_term_65 : decode b_Mo_term 65 = .ok (.iastore, 1) := by decide +kernel
theorem d_Mo_term_66 : decode b_Mo_term 66 = .ok (.aload_n 0, 1) := by decide +kernel
theorem d_Mo_term_67 : decode b_Mo_term 67 = .ok (.getfield 86, 3) := by decide +kernel
theorem d_Mo_term_70 : decode b_Mo_term 70 = .ok (.ifCond .lt 4, 3) := by decide +kernel
theorem d_Mo_term_73 : decode b_Mo_term 73 = .ok (.return_, 1) := by decide +kernel
theorem d_Mo_term_74 : decode b_Mo_term 74 = .ok (.aload_n 0, 1) := by decide +kernel
theorem d_Mo_term_75 : decode b_Mo_term 75 = .ok (.invokevirtual 89, 3) := by decide +kernel
theorem d_Mo_term_78 : decode b_Mo_term 78 = .ok (.istore_n 3, 1) := by decide +kernel
theorem d_Mo_term_79 : decode b_Mo_term 79 = .ok (.iload_n 3, 1) := by decide +kernel
theorem d_Mo_term_80 : decode b_Mo_term 80 = .ok (.bipush 60, 2) := by decide +kernel
theorem d_Mo_term_82 : decode b_Mo_term 82 = .ok (.if_icmp .eq 29, 3) := by decide +kernel
theorem d_Mo_term_85 : decode b_Mo_term 85 = .ok (.iload_n 3, 1) := by decide +kernel
theorem d_Mo_term_86 : decode b_Mo_term 86 = .ok (.bipush 62, 2) := by decide +kernel
theorem d_Mo_term_88 : decode b_Mo_term 88 = .ok (.if_icmp .eq 23, 3) := by decide +kernel
theorem d_Mo_term_91 : decode b_Mo_term 91 = .ok (.iload_n 3, 1) := by decide +kernel
theorem d_Mo_term_92 : decode b_Mo_term 92 = .ok (.bipush 61, 2) := by decide +kernel
theorem d_Mo_term_94 : decode b_Mo_term 94 = .ok (.if_icmp .ne 9, 3) := by decide +kernel
theorem d_Mo_term_97 : decode b_Mo_term 97 = .ok (.iload_n 2, 1) := by decide +kernel
theorem d_Mo_term_98 : decode b_Mo_term 98 = .ok (.bipush 112, 2) := by decide +kernel
theorem d_Mo_term_100 : decode b_Mo_term 100 = .ok (.if_icmp .ne 11, 3) := by decide +kernel
theorem d_Mo_term_103 : decode b_Mo_term 103 = .ok (.aload_n 0, 1) := by decide +kernel
theorem d_Mo_term_104 : decode b_Mo_term 104 = .ok (.aload_n 0, 1) := by decide +kernel
theorem d_Mo_term_105 : decode b_Mo_term 105 = .ok (.getfield 79, 3) := by decide +kernel
theorem d_Mo_term_108 : decode b_Mo_term 108 = .ok (.invokevirtual 92, 3) := by decide +kernel
theorem d_Mo_term_111 : decode b_Mo_term 111 = .ok (.aload_n 0, 1) := by decide +kernel
theorem d_Mo_term_112 : decode b_Mo_term 112 = .ok (.getfield 86, 3) := by decide +kernel
theorem d_Mo_term_115 : decode b_Mo_term 115 = .ok (.ifCond .lt 4, 3) := by decide +kernel
theorem d_Mo_term_118 : decode b_Mo_term 118 = .ok (.return_, 1) := by decide +kernel
theorem d_Mo_term_119 : decode b_Mo_term 119 = .ok (.aload_n 0, 1) := by decide +kernel
theorem d_Mo_term_120 : decode b_Mo_term 120 = .ok (.dup, 1) := by decide +kernel
theorem d_Mo_term_121 : decode b_Mo_term 121 = .ok (.getfield 79, 3) := by decide +kernel
theorem d_Mo_term_124 : decode b_Mo_term 124 = .ok (.iconst 1, 1) := by decide +kernel
theorem d_Mo_term_125 : decode b_Mo_term 125 = .ok (.iadd, 1) := by decide +kernel
theorem d_Mo_term_126 : decode b_Mo_term 126 = .ok (.putfield 79, 3) := by decide +kernel
theorem d_Mo_term_129 : decode b_Mo_term 129 = .ok (.aload_n 0, 1) := by decide +kernel
theorem d_Mo_term_130 : decode b_Mo_term 130 = .ok (.getfield 51, 3) := by decide +kernel
theorem d_Mo_term_133 : decode b_Mo_term 133 = .ok (.iload_n 1, 1) := by decide +kernel
theorem d_Mo_term_134 : decode b_Mo_term 134 = .ok (.iconst 1, 1) := by decide +kernel
theorem d_Mo_term_135 : decode b_Mo_term 135 = .ok (.iadd, 1) := by decide +kernel
theorem d_Mo_term_136 : decode b_Mo_term 136 = .ok (.iload_n 3, 1) := by decide +kernel
theorem d_Mo_term_137 : decode b_Mo_term 137 = .ok (.iastore, 1) := by decide +kernel
theorem d_Mo_term_138 : decode b_Mo_term 138 = .ok (.aload_n 0, 1) := by decide +kernel
theorem d_Mo_term_139 : decode b_Mo_term 139 = .ok (.getfield 51, 3) := by decide +kernel
theorem d_Mo_term_142 : decode b_Mo_term 142 = .ok (.iload_n 1, 1) := by decide +kernel
theorem d_Mo_term_143 : decode b_Mo_term 143 = .ok (.iconst 2, 1) := by decide +kernel
theorem d_Mo_term_144 : decode b_Mo_term 144 = .ok (.iadd, 1) := by decide +kernel
theorem d_Mo_term_145 : decode b_Mo_term 145 = .ok (.aload_n 0, 1) := by decide +kernel
theorem d_Mo_term_146 : decode b_Mo_term 146 = .ok (.iconst 0, 1) := by decide +kernel
theorem d_Mo_term_147 : decode b_Mo_term 147 = .ok (.sipush 9999, 3) := by decide +kernel
theorem d_Mo_term_150 : decode b_Mo_term 150 = .ok (.invokevirtual 109, 3) := by decide +kernel
theorem d_Mo_term_153 : decode b_Mo_term 153 = .ok (.iastore, 1) := by decide +kernel
theorem d_Mo_term_154 : decode b_Mo_term 154 = .ok (.return_, 1) := by decide +kernel
end
section
-- decode rows (printed by wip/whole/names.py)
theorem d_Mo_copy_0 : decode b_Mo_copy 0 = .ok (.iconst 0, 1) := by decide +kernel
theorem d_Mo_copy_1 : decode b_Mo_copy 1 = .ok (.istore_n 3, 1) := by decide +kernel
theorem d_Mo_copy_2 : decode b_Mo_copy 2 = .ok (.iload_n 3, 1) := by decide +kernel
theorem d_Mo_copy_3 : decode b_Mo_copy 3 = .ok (.bipush 61, 2) := by decide +kernel
theorem d_Mo_copy_5 : decode b_Mo_copy 5 = .ok (.if_icmp .ge 226, 3) := by decide +kernel
theorem d_Mo_copy_8 : decode b_Mo_copy 8 = .ok (.iload_n 1, 1) := by decide +kernel
theorem d_Mo_copy_9 : decode b_Mo_copy 9 = .ok (.bipush 61, 2) := by decide +kernel
theorem d_Mo_copy_11 : decode b_Mo_copy 11 = .ok (.imul, 1) := by decide +kernel
theorem d_Mo_copy_12 : decode b_Mo_copy 12 = .ok (.iload_n 3, 1) := by decide +kernel
theorem d_Mo_copy_13 : decode b_Mo_copy 13 = .ok (.iadd, 1) := by decide +kernel
theorem d_Mo_copy_14 : decode b_Mo_copy 14 = .ok (.istore 4, 2) := by decide +kernel
theorem d_Mo_copy_16 : decode b_Mo_copy 16 = .ok (.iload_n 2, 1) := by decide +kernel
theorem d_Mo_copy_17 : decode b_Mo_copy 17 = .ok (.bipush 61, 2) := by decide +kernel
theorem d_Mo_copy_19 : decode b_Mo_copy 19 = .ok (.imul, 1) := by decide +kernel
theorem d_Mo_copy_20 : decode b_Mo_copy 20 = .ok (.iload_n 3, 1) := by decide +kernel
theorem d_Mo_copy_21 : decode b_Mo_copy 21 = .ok (.iadd, 1) := by decide +kernel
theorem d_Mo_copy_22 : decode b_Mo_copy 22 = .ok (.istore 5, 2) := by decide +kernel
theorem d_Mo_copy_24 : decode b_Mo_copy 24 = .ok (.aload_n 0, 1) := by decide +kernel
theorem d_Mo_copy_25 : decode b_Mo_copy 25 = .ok (.getfield 17, 3) := by decide +kernel
theorem d_Mo_copy_28 : decode b_Mo_copy 28 = .ok (.iload 5, 2) := by decide +kernel
theorem d_Mo_copy_30 : decode b_Mo_copy 30 = .ok (.aload_n 0, 1) := by decide +kernel
theorem d_Mo_copy_31 : decode b_Mo_copy 31 = .ok (.getfield 17, 3) := by decide +kernel
theorem d_Mo_copy_34 : decode b_Mo_copy 34 = .ok (.iload 4, 2) := by decide +kernel
theorem d_Mo_copy_36 : decode b_Mo_copy 36 = .ok (.baload, 1) := by decide +kernel
theorem d_Mo_copy_37 : decode b_Mo_copy 37 = .ok (.bastore, 1) := by decide +kernel
theorem d_Mo_copy_38 : decode b_Mo_copy 38 = .ok (.aload_n 0, 1) := by decide +kernel
theorem d_Mo_copy_39 : decode b_Mo_copy 39 = .ok (.getfield 21, 3) := by decide +kernel
theorem d_Mo_copy_42 : decode b_Mo_copy 42 = .ok (.iload 5, 2) := by decide +kernel
theorem d_Mo_copy_44 : decode b_Mo_copy 44 = .ok (.aload_n 0, 1) := by decide +kernel
theorem d_Mo_copy_45 : decode b_Mo_copy 45 = .ok (.getfield 21, 3) := by decide +kernel
theorem d_Mo_copy_48 : decode b_Mo_copy 48 = .ok (.iload 4, 2) := by decide +kernel
theorem d_Mo_copy_50 : decode b_Mo_copy 50 = .ok (.baload, 1) := by decide +kernel
theorem d_Mo_copy_51 : decode b_Mo_copy 51 = .ok (.bastore, 1) := by decide +kernel
theorem d_Mo_copy_52 : decode b_Mo_copy 52 = .ok (.aload_n 0, 1) := by decide +kernel
theorem d_Mo_copy_53 : decode b_Mo_copy 53 = .ok (.getfield 24, 3) := by decide +kernel
theorem d_Mo_copy_56 : decode b_Mo_copy 56 = .ok (.iload 5, 2) := by decide +kernel
theorem d_Mo_copy_58 : decode b_Mo_copy 58 = .ok (.aload_n 0, 1) := by decide +kernel
theorem d_Mo_copy_59 : decode b_Mo_copy 59 = .ok (.getfield 24, 3) := by decide +kernel
theorem d_Mo_copy_62 : decode b_Mo_copy 62 = .ok (.iload 4, 2) := by decide +kernel
theorem d_Mo_copy_64 : decode b_Mo_copy 64 = .ok (.iaload, 1) := by decide +kernel
theorem d_Mo_copy_65 : decode b_Mo_copy 65 = .ok (.iastore, 1) := by decide +kernel
theorem d_Mo_copy_66 : decode b_Mo_copy 66 = .ok (.aload_n 0, 1) := by decide +kernel
theorem d_Mo_copy_67 : decode b_Mo_copy 67 = .ok (.getfield 27, 3) := by decide +kernel
theorem d_Mo_copy_70 : decode b_Mo_copy 70 = .ok (.iload 5, 2) := by decide +kernel
theorem d_Mo_copy_72 : decode b_Mo_copy 72 = .ok (.aload_n 0, 1) := by decide +kernel
theorem d_Mo_copy_73 : decode b_Mo_copy 73 = .ok (.getfield 27, 3) := by decide +kernel
theorem d_Mo_copy_76 : decode b_Mo_copy 76 = .ok (.iload 4, 2) := by decide +kernel
theorem d_Mo_copy_78 : decode b_Mo_copy 78 = .ok (.iaload, 1) := by decide +kernel
theorem d_Mo_copy_79 : decode b_Mo_copy 79 = .ok (.iastore, 1) := by decide +kernel
theorem d_Mo_copy_80 : decode b_Mo_copy 80 = .ok (.aload_n 0, 1) := by decide +kernel
theorem d_Mo_copy_81 : decode b_Mo_copy 81 = .ok (.getfield 36, 3) := by decide +kernel
theorem d_Mo_copy_84 : decode b_Mo_copy 84 = .ok (.iload 5, 2) := by decide +kernel
theorem d_Mo_copy_86 : decode b_Mo_copy 86 = .ok (.aload_n 0, 1) := by decide +kernel
theorem d_Mo_copy_87 : decode b_Mo_copy 87 = .ok (.getfield 36, 3) := by decide +kernel
theorem d_Mo_copy_90 : decode b_Mo_copy 90 = .ok (.iload 4, 2) := by decide +kernel
theorem d_Mo_copy_92 : decode b_Mo_copy 92 = .ok (.iaload, 1) := by decide +kernel
theorem d_Mo_copy_93 : decode b_Mo_copy 93 = .ok (.iastore, 1) := by decide +kernel
theorem d_Mo_copy_94 : decode b_Mo_copy 94 = .ok (.iconst 0, 1) := by decide +kernel
theorem d_Mo_copy_95 : decode b_Mo_copy 95 = .ok (.istore 6, 2) := by decide +kernel
theorem d_Mo_copy_97 : decode b_Mo_copy 97 = .ok (.iload 6, 2) := by decide +kernel
theorem d_Mo_copy_99 : decode b_Mo_copy 99 = .ok (.iconst 2, 1) := by decide +kernel
theorem d_Mo_copy_100 : decode b_Mo_copy 100 = .ok (.if_icmp .ge 33, 3) := by decide +kernel
theorem d_Mo_copy_103 : decode b_Mo_copy 103 = .ok (.aload_n 0, 1) := by decide +kernel
theorem d_Mo_copy_104 : decode b_Mo_copy 104 = .ok (.getfield 30, 3) := by decide +kernel
theorem d_Mo_copy_107 : decode b_Mo_copy 107 = .ok (.iconst 2, 1) := by decide +kernel
theorem d_Mo_copy_108 : decode b_Mo_copy 108 = .ok (.iload 5, 2) := by decide +kernel
theorem d_Mo_copy_110 : decode b_Mo_copy 110 = .ok (.imul, 1) := by decide +kernel
theorem d_Mo_copy_111 : decode b_Mo_copy 111 = .ok (.iload 6, 2) := by decide +kernel
theorem d_Mo_copy_113 : decode b_Mo_copy 113 = .ok (.iadd, 1) := by decide +kernel
theorem d_Mo_copy_114 : decode b_Mo_copy 114 = .ok (.aload_n 0, 1) := by decide +kernel
theorem d_Mo_copy_115 : decode b_Mo_copy 115 = .ok (.getfield 30, 3) := by decide +kernel
theorem d_Mo_copy_118 : decode b_Mo_copy 118 = .ok (.iconst 2, 1) := by decide +kernel
theorem d_Mo_copy_119 : decode b_Mo_copy 119 = .ok (.iload 4, 2) := by decide +kernel
theorem d_Mo_copy_121 : decode b_Mo_copy 121 = .ok (.imul, 1) := by decide +kernel
theorem d_Mo_copy_122 : decode b_Mo_copy 122 = .ok (.iload 6, 2) := by decide +kernel
theorem d_Mo_copy_124 : decode b_Mo_copy 124 = .ok (.iadd, 1) := by decide +kernel
theorem d_Mo_copy_125 : decode b_Mo_copy 125 = .ok (.iaload, 1) := by decide +kernel
theorem d_Mo_copy_126 : decode b_Mo_copy 126 = .ok (.iastore, 1) := by decide +kernel
theorem d_Mo_copy_127 : decode b_Mo_copy 127 = .ok (.iinc 6 1, 3) := by decide +kernel
theorem d_Mo_copy_130 : decode b_Mo_copy 130 = .ok (.goto (-33), 3) := by decide +kernel
theorem d_Mo_copy_133 : decode b_Mo_copy 133 = .ok (.iconst 0, 1) := by decide +kernel
theorem d_Mo_copy_134 : decode b_Mo_copy 134 = .ok (.istore 6, 2) := by decide +kernel
theorem d_Mo_copy_136 : decode b_Mo_copy 136 = .ok (.iload 6, 2) := by decide +kernel
theorem d_Mo_copy_138 : decode b_Mo_copy 138 = .ok (.bipush 24, 2) := by decide +kernel
theorem d_Mo_copy_140 : decode b_Mo_copy 140 = .ok (.if_icmp .ge 39, 3) := by decide +kernel
theorem d_Mo_copy_143 : decode b_Mo_copy 143 = .ok (.aload_n 0, 1) := by decide +kernel
theorem d_Mo_copy_144 : decode b_Mo_copy 144 = .ok (.getfield 33, 3) := by decide +kernel
theorem d_Mo_copy_147 : decode b_Mo_copy 147 = .ok (.iload 5, 2) := by decide +kernel
theorem d_Mo_copy_149 : decode b_Mo_copy 149 = .ok (.iconst 2, 1) := by decide +kernel
theorem d_Mo_copy_150 : decode b_Mo_copy 150 = .ok (.imul, 1) := by decide +kernel
theorem d_Mo_copy_151 : decode b_Mo_copy 151 = .ok (.bipush 12, 2) := by decide +kernel
theorem d_Mo_copy_153 : decode b_Mo_copy 153 = .ok (.imul, 1) := by decide +kernel
theorem d_Mo_copy_154 : decode b_Mo_copy 154 = .ok (.iload 6, 2) := by decide +kernel
theorem d_Mo_copy_156 : decode b_Mo_copy 156 = .ok (.iadd, 1) := by decide +kernel
theorem d_Mo_copy_157 : decode b_Mo_copy 157 = .ok (.aload_n 0, 1) := by decide +kernel
theorem d_Mo_copy_158 : decode b_Mo_copy 158 = .ok (.getfield 33, 3) := by decide +kernel
theorem d_Mo_copy_161 : decode b_Mo_copy 161 = .ok (.iload 4, 2) := by decide +kernel
theorem d_Mo_copy_163 : decode b_Mo_copy 163 = .ok (.iconst 2, 1) := by decide +kernel
theorem d_Mo_copy_164 : decode b_Mo_copy 164 = .ok (.imul, 1) := by decide +kernel
theorem d_Mo_copy_165 : decode b_Mo_copy 165 = .ok (.bipush 12, 2) := by decide +kernel
theorem d_Mo_copy_167 : decode b_Mo_copy 167 = .ok (.imul, 1) := by decide +kernel
theorem d_Mo_copy_168 : decode b_Mo_copy 168 = .ok (.iload 6, 2) := by decide +kernel
theorem d_Mo_copy_170 : decode b_Mo_copy 170 = .ok (.iadd, 1) := by decide +kernel
theorem d_Mo_copy_171 : decode b_Mo_copy 171 = .ok (.iaload, 1) := by decide +kernel
theorem d_Mo_copy_172 : decode b_Mo_copy 172 = .ok (.iastore, 1) := by decide +kernel
theorem d_Mo_copy_173 : decode b_Mo_copy 173 = .ok (.iinc 6 1, 3) := by decide +kernel
theorem d_Mo_copy_176 : decode b_Mo_copy 176 = .ok (.goto (-40), 3) := by decide +kernel
theorem d_Mo_copy_179 : decode b_Mo_copy 179 = .ok (.iconst 0, 1) := by decide +kernel
theorem d_Mo_copy_180 : decode b_Mo_copy 180 = .ok (.istore 6, 2) := by decide +kernel
theorem d_Mo_copy_182 : decode b_Mo_copy 182 = .ok (.iload 6, 2) := by decide +kernel
theorem d_Mo_copy_184 : decode b_Mo_copy 184 = .ok (.bipush 24, 2) := by decide +kernel
theorem d_Mo_copy_186 : decode b_Mo_copy 186 = .ok (.if_icmp .ge 39, 3) := by decide +kernel
theorem d_Mo_copy_189 : decode b_Mo_copy 189 = .ok (.aload_n 0, 1) := by decide +kernel
theorem d_Mo_copy_190 : decode b_Mo_copy 190 = .ok (.getfield 39, 3) := by decide +kernel
theorem d_Mo_copy_193 : decode b_Mo_copy 193 = .ok (.iload 5, 2) := by decide +kernel
theorem d_Mo_copy_195 : decode b_Mo_copy 195 = .ok (.bipush 6, 2) := by decide +kernel
theorem d_Mo_copy_197 : decode b_Mo_copy 197 = .ok (.imul, 1) := by decide +kernel
theorem d_Mo_copy_198 : decode b_Mo_copy 198 = .ok (.iconst 4, 1) := by decide +kernel
theorem d_Mo_copy_199 : decode b_Mo_copy 199 = .ok (.imul, 1) := by decide +kernel
theorem d_Mo_copy_200 : decode b_Mo_copy 200 = .ok (.iload 6, 2) := by decide +kernel
theorem d_Mo_copy_202 : decode b_Mo_copy 202 = .ok (.iadd, 1) := by decide +kernel
theorem d_Mo_copy_203 : decode b_Mo_copy 203 = .ok (.aload_n 0, 1) := by decide +kernel
theorem d_Mo_copy_204 : decode b_Mo_copy 204 = .ok (.getfield 39, 3) := by decide +kernel
theorem d_Mo_copy_207 : decode b_Mo_copy 207 = .ok (.iload 4, 2) := by decide +kernel
theorem d_Mo_copy_209 : decode b_Mo_copy 209 = .ok (.bipush 6, 2) := by decide +kernel
theorem d_Mo_copy_211 : decode b_Mo_copy 211 = .ok (.imul, 1) := by decide +kernel
theorem d_Mo_copy_212 : decode b_Mo_copy 212 = .ok (.iconst 4, 1) := by decide +kernel
theorem d_Mo_copy_213 : decode b_Mo_copy 213 = .ok (.imul, 1) := by decide +kernel
theorem d_Mo_copy_214 : decode b_Mo_copy 214 = .ok (.iload 6, 2) := by decide +kernel
theorem d_Mo_copy_216 : decode b_Mo_copy 216 = .ok (.iadd, 1) := by decide +kernel
theorem d_Mo_copy_217 : decode b_Mo_copy 217 = .ok (.iaload, 1) := by decide +kernel
theorem d_Mo_copy_218 : decode b_Mo_copy 218 = .ok (.iastore, 1) := by decide +kernel
theorem d_Mo_copy_219 : decode b_Mo_copy 219 = .ok (.iinc 6 1, 3) := by decide +kernel
theorem d_Mo_copy_222 : decode b_Mo_copy 222 = .ok (.goto (-40), 3) := by decide +kernel
theorem d_Mo_copy_225 : decode b_Mo_copy 225 = .ok (.iinc 3 1, 3) := by decide +kernel
theorem d_Mo_copy_228 : decode b_Mo_copy 228 = .ok (.goto (-226), 3) := by decide +kernel
theorem d_Mo_copy_231 : decode b_Mo_copy 231 = .ok (.bipush 84, 2) := by decide +kernel
theorem d_Mo_copy_233 : decode b_Mo_copy 233 = .ok (.istore_n 3, 1) := by decide +kernel
theorem d_Mo_copy_234 : decode b_Mo_copy 234 = .ok (.iconst 0, 1) := by decide +kernel
theorem d_Mo_copy_235 : decode b_Mo_copy 235 = .ok (.istore 4, 2) := by decide +kernel
theorem d_Mo_copy_237 : decode b_Mo_copy 237 = .ok (.iload 4, 2) := by decide +kernel
theorem d_Mo_copy_239 : decode b_Mo_copy 239 = .ok (.bipush 10, 2) := by decide +kernel
theorem d_Mo_copy_241 : decode b_Mo_copy 241 = .ok (.if_icmp .ge 108, 3) := by decide +kernel
theorem d_Mo_copy_244 : decode b_Mo_copy 244 = .ok (.iload_n 1, 1) := by decide +kernel
theorem d_Mo_copy_245 : decode b_Mo_copy 245 = .ok (.bipush 10, 2) := by decide +kernel
theorem d_Mo_copy_247 : decode b_Mo_copy 247 = .ok (.imul, 1) := by decide +kernel
theorem d_Mo_copy_248 : decode b_Mo_copy 248 = .ok (.iload 4, 2) := by decide +kernel
theorem d_Mo_copy_250 : decode b_Mo_copy 250 = .ok (.iadd, 1) := by decide +kernel
theorem d_Mo_copy_251 : decode b_Mo_copy 251 = .ok (.istore 5, 2) := by decide +kernel
theorem d_Mo_copy_253 : decode b_Mo_copy 253 = .ok (.iload_n 2, 1) := by decide +kernel
theorem d_Mo_copy_254 : decode b_Mo_copy 254 = .ok (.bipush 10, 2) := by decide +kernel
theorem d_Mo_copy_256 : decode b_Mo_copy 256 = .ok (.imul, 1) := by decide +kernel
theorem d_Mo_copy_257 : decode b_Mo_copy 257 = .ok (.iload 4, 2) := by decide +kernel
theorem d_Mo_copy_259 : decode b_Mo_copy 259 = .ok (.iadd, 1) := by decide +kernel
theorem d_Mo_copy_260 : decode b_Mo_copy 260 = .ok (.istore 6, 2) := by decide +kernel
theorem d_Mo_copy_262 : decode b_Mo_copy 262 = .ok (.aload_n 0, 1) := by decide +kernel
theorem d_Mo_copy_263 : decode b_Mo_copy 263 = .ok (.getfield 42, 3) := by decide +kernel
theorem d_Mo_copy_266 : decode b_Mo_copy 266 = .ok (.iload 6, 2) := by decide +kernel
theorem d_Mo_copy_268 : decode b_Mo_copy 268 = .ok (.aload_n 0, 1) := by decide +kernel
theorem d_Mo_copy_269 : decode b_Mo_copy 269 = .ok (.getfield 42, 3) := by decide +kernel
theorem d_Mo_copy_272 : decode b_Mo_copy 272 = .ok (.iload 5, 2) := by decide +kernel
theorem d_Mo_copy_274 : decode b_Mo_copy 274 = .ok (.iaload, 1) := by decide +kernel
theorem d_Mo_copy_275 : decode b_Mo_copy 275 = .ok (.iastore, 1) := by decide +kernel
theorem d_Mo_copy_276 : decode b_Mo_copy 276 = .ok (.aload_n 0, 1) := by decide +kernel
theorem d_Mo_copy_277 : decode b_Mo_copy 277 = .ok (.getfield 45, 3) := by decide +kernel
theorem d_Mo_copy_280 : decode b_Mo_copy 280 = .ok (.iload 6, 2) := by decide +kernel
theorem d_Mo_copy_282 : decode b_Mo_copy 282 = .ok (.aload_n 0, 1) := by decide +kernel
theorem d_Mo_copy_283 : decode b_Mo_copy 283 = .ok (.getfield 45, 3) := by decide +kernel
theorem d_Mo_copy_286 : decode b_Mo_copy 286 = .ok (.iload 5, 2) := by decide +kernel
theorem d_Mo_copy_288 : decode b_Mo_copy 288 = .ok (.iaload, 1) := by decide +kernel
theorem d_Mo_copy_289 : decode b_Mo_copy 289 = .ok (.iastore, 1) := by decide +kernel
theorem d_Mo_copy_290 : decode b_Mo_copy 290 = .ok (.aload_n 0, 1) := by decide +kernel
theorem d_Mo_copy_291 : decode b_Mo_copy 291 = .ok (.getfield 48, 3) := by decide +kernel
theorem d_Mo_copy_294 : decode b_Mo_copy 294 = .ok (.iload 6, 2) := by decide +kernel
theorem d_Mo_copy_296 : decode b_Mo_copy 296 = .ok (.aload_n 0, 1) := by decide +kernel
theorem d_Mo_copy_297 : decode b_Mo_copy 297 = .ok (.getfield 48, 3) := by decide +kernel
theorem d_Mo_copy_300 : decode b_Mo_copy 300 = .ok (.iload 5, 2) := by decide +kernel
theorem d_Mo_copy_302 : decode b_Mo_copy 302 = .ok (.iaload, 1) := by decide +kernel
theorem d_Mo_copy_303 : decode b_Mo_copy 303 = .ok (.iastore, 1) := by decide +kernel
theorem d_Mo_copy_304 : decode b_Mo_copy 304 = .ok (.iconst 0, 1) := by decide +kernel
theorem d_Mo_copy_305 : decode b_Mo_copy 305 = .ok (.istore 7, 2) := by decide +kernel
theorem d_Mo_copy_307 : decode b_Mo_copy 307 = .ok (.iload 7, 2) := by decide +kernel
theorem d_Mo_copy_309 : decode b_Mo_copy 309 = .ok (.iload_n 3, 1) := by decide +kernel
theorem d_Mo_copy_310 : decode b_Mo_copy 310 = .ok (.if_icmp .ge 33, 3) := by decide +kernel
theorem d_Mo_copy_313 : decode b_Mo_copy 313 = .ok (.aload_n 0, 1) := by decide +kernel
theorem d_Mo_copy_314 : decode b_Mo_copy 314 = .ok (.getfield 51, 3) := by decide +kernel
theorem d_Mo_copy_317 : decode b_Mo_copy 317 = .ok (.iload 6, 2) := by decide +kernel
theorem d_Mo_copy_319 : decode b_Mo_copy 319 = .ok (.iload_n 3, 1) := by decide +kernel
theorem d_Mo_copy_320 : decode b_Mo_copy 320 = .ok (.imul, 1) := by decide +kernel
theorem d_Mo_copy_321 : decode b_Mo_copy 321 = .ok (.iload 7, 2) := by decide +kernel
theorem d_Mo_copy_323 : decode b_Mo_copy 323 = .ok (.iadd, 1) := by decide +kernel
theorem d_Mo_copy_324 : decode b_Mo_copy 324 = .ok (.aload_n 0, 1) := by decide +kernel
theorem d_Mo_copy_325 : decode b_Mo_copy 325 = .ok (.getfield 51, 3) := by decide +kernel
theorem d_Mo_copy_328 : decode b_Mo_copy 328 = .ok (.iload 5, 2) := by decide +kernel
theorem d_Mo_copy_330 : decode b_Mo_copy 330 = .ok (.iload_n 3, 1) := by decide +kernel
theorem d_Mo_copy_331 : decode b_Mo_copy 331 = .ok (.imul, 1) := by decide +kernel
theorem d_Mo_copy_332 : decode b_Mo_copy 332 = .ok (.iload 7, 2) := by decide +kernel
theorem d_Mo_copy_334 : decode b_Mo_copy 334 = .ok (.iadd, 1) := by decide +kernel
theorem d_Mo_copy_335 : decode b_Mo_copy 335 = .ok (.iaload, 1) := by decide +kernel
theorem d_Mo_copy_336 : decode b_Mo_copy 336 = .ok (.iastore, 1) := by decide +kernel
theorem d_Mo_copy_337 : decode b_Mo_copy 337 = .ok (.iinc 7 1, 3) := by decide +kernel
theorem d_Mo_copy_340 : decode b_Mo_copy 340 = .ok (.goto (-33), 3) := by decide +kernel
theorem d_Mo_copy_343 : decode b_Mo_copy 343 = .ok (.iinc 4 1, 3) := by decide +kernel
theorem d_Mo_copy_346 : decode b_Mo_copy 346 = .ok (.goto (-109), 3) := by decide +kernel
theorem d_Mo_copy_349 : decode b_Mo_copy 349 = .ok (.return_, 1) := by decide +kernel
theorem d_Mo_questions_0 : decode b_Mo_questions 0 = .ok (.iconst 0, 1) := by decide +kernel
theorem d_Mo_questions_1 : decode b_Mo_questions 1 = .ok (.istore_n 1, 1) := by decide +kernel
theorem d_Mo_questions_2 : decode b_Mo_questions 2 = .ok (.iconst 1, 1) := by decide +kernel
theorem d_Mo_questions_3 : decode b_Mo_questions 3 = .ok (.istore_n 2, 1) := by decide +kernel
theorem d_Mo_questions_4 : decode b_Mo_questions 4 = .ok (.iload_n 2, 1) := by decide +kernel
theorem d_Mo_questions_5 : decode b_Mo_questions 5 = .ok (.bipush 61, 2) := by decide +kernel
theorem d_Mo_questions_7 : decode b_Mo_questions 7 = .ok (.if_icmp .ge 29, 3) := by decide +kernel
theorem d_Mo_questions_10 : decode b_Mo_questions 10 = .ok (.aload_n 0, 1) := by decide +kernel
theorem d_Mo_questions_11 : decode b_Mo_questions 11 = .ok (.getfield 17, 3) := by decide +kernel
theorem d_Mo_questions_14 : decode b_Mo_questions 14 = .ok (.aload_n 0, 1) := by decide +kernel
theorem d_Mo_questions_15 : decode b_Mo_questions 15 = .ok (.getfield 126, 3) := by decide +kernel
theorem d_Mo_questions_18 : decode b_Mo_questions 18 = .ok (.bipush 61, 2) := by decide +kernel
theorem d_Mo_questions_20 : decode b_Mo_questions 20 = .ok (.imul, 1) := by decide +kernel
theorem d_Mo_questions_21 : decode b_Mo_questions 21 = .ok (.iload_n 2, 1) := by decide +kernel
theorem d_Mo_questions_22 : decode b_Mo_questions 22 = .ok (.iadd, 1) := by decide +kernel
theorem d_Mo_questions_23 : decode b_Mo_questions 23 = .ok (.baload, 1) := by decide +kernel
theorem d_Mo_questions_24 : decode b_Mo_questions 24 = .ok (.ifCond .eq 6, 3) := by decide +kernel
theorem d_Mo_questions_27 : decode b_Mo_questions 27 = .ok (.iinc 1 1, 3) := by decide +kernel
theorem d_Mo_questions_30 : decode b_Mo_questions 30 = .ok (.iinc 2 1, 3) := by decide +kernel
theorem d_Mo_questions_33 : decode b_Mo_questions 33 = .ok (.goto (-29), 3) := by decide +kernel
theorem d_Mo_questions_36 : decode b_Mo_questions 36 = .ok (.iload_n 1, 1) := by decide +kernel
theorem d_Mo_questions_37 : decode b_Mo_questions 37 = .ok (.ireturn, 1) := by decide +kernel
theorem d_Mo_read_0 : decode b_Mo_read 0 = .ok (.aload_n 0, 1) := by decide +kernel
theorem d_Mo_read_1 : decode b_Mo_read 1 = .ok (.iconst 0, 1) := by decide +kernel
theorem d_Mo_read_2 : decode b_Mo_read 2 = .ok (.putfield 79, 3) := by decide +kernel
theorem d_Mo_read_5 : decode b_Mo_read 5 = .ok (.aload_n 0, 1) := by decide +kernel
theorem d_Mo_read_6 : decode b_Mo_read 6 = .ok (.iconst (-1), 1) := by decide +kernel
theorem d_Mo_read_7 : decode b_Mo_read 7 = .ok (.putfield 86, 3) := by decide +kernel
theorem d_Mo_read_10 : decode b_Mo_read 10 = .ok (.aload_n 0, 1) := by decide +kernel
theorem d_Mo_read_11 : decode b_Mo_read 11 = .ok (.aload_n 0, 1) := by decide +kernel
theorem d_Mo_read_12 : decode b_Mo_read 12 = .ok (.getfield 129, 3) := by decide +kernel
theorem d_Mo_read_15 : decode b_Mo_read 15 = .ok (.iconst 1, 1) := by decide +kernel
theorem d_Mo_read_16 : decode b_Mo_read 16 = .ok (.iadd, 1) := by decide +kernel
theorem d_Mo_read_17 : decode b_Mo_read 17 = .ok (.putfield 106, 3) := by decide +kernel
theorem d_Mo_read_20 : decode b_Mo_read 20 = .ok (.aload_n 0, 1) := by decide +kernel
theorem d_Mo_read_21 : decode b_Mo_read 21 = .ok (.aload_n 0, 1) := by decide +kernel
theorem d_Mo_read_22 : decode b_Mo_read 22 = .ok (.getfield 126, 3) := by decide +kernel
theorem d_Mo_read_25 : decode b_Mo_read 25 = .ok (.aload_n 0, 1) := by decide +kernel
theorem d_Mo_read_26 : decode b_Mo_read 26 = .ok (.getfield 106, 3) := by decide +kernel
theorem d_Mo_read_29 : decode b_Mo_read 29 = .ok (.invokevirtual 132, 3) := by decide +kernel
theorem d_Mo_read_32 : decode b_Mo_read 32 = .ok (.iconst 0, 1) := by decide +kernel
theorem d_Mo_read_33 : decode b_Mo_read 33 = .ok (.istore_n 1, 1) := by decide +kernel
theorem d_Mo_read_34 : decode b_Mo_read 34 = .ok (.iload_n 1, 1) := by decide +kernel
theorem d_Mo_read_35 : decode b_Mo_read 35 = .ok (.bipush 61, 2) := by decide +kernel
theorem d_Mo_read_37 : decode b_Mo_read 37 = .ok (.if_icmp .ge 16, 3) := by decide +kernel
theorem d_Mo_read_40 : decode b_Mo_read 40 = .ok (.aload_n 0, 1) := by decide +kernel
theorem d_Mo_read_41 : decode b_Mo_read 41 = .ok (.getfield 54, 3) := by decide +kernel
theorem d_Mo_read_44 : decode b_Mo_read 44 = .ok (.iload_n 1, 1) := by decide +kernel
theorem d_Mo_read_45 : decode b_Mo_read 45 = .ok (.iconst 0, 1) := by decide +kernel
theorem d_Mo_read_46 : decode b_Mo_read 46 = .ok (.bastore, 1) := by decide +kernel
theorem d_Mo_read_47 : decode b_Mo_read 47 = .ok (.iinc 1 1, 3) := by decide +kernel
theorem d_Mo_read_50 : decode b_Mo_read 50 = .ok (.goto (-16), 3) := by decide +kernel
theorem d_Mo_read_53 : decode b_Mo_read 53 = .ok (.iconst 0, 1) := by decide +kernel
theorem d_Mo_read_54 : decode b_Mo_read 54 = .ok (.istore_n 1, 1) := by decide +kernel
theorem d_Mo_read_55 : decode b_Mo_read 55 = .ok (.iload_n 1, 1) := by decide +kernel
theorem d_Mo_read_56 : decode b_Mo_read 56 = .ok (.bipush 10, 2) := by decide +kernel
theorem d_Mo_read_58 : decode b_Mo_read 58 = .ok (.if_icmp .ge 16, 3) := by decide +kernel
theorem d_Mo_read_61 : decode b_Mo_read 61 = .ok (.aload_n 0, 1) := by decide +kernel
theorem d_Mo_read_62 : decode b_Mo_read 62 = .ok (.getfield 57, 3) := by decide +kernel
theorem d_Mo_read_65 : decode b_Mo_read 65 = .ok (.iload_n 1, 1) := by decide +kernel
theorem d_Mo_read_66 : decode b_Mo_read 66 = .ok (.iconst 0, 1) := by decide +kernel
theorem d_Mo_read_67 : decode b_Mo_read 67 = .ok (.bastore, 1) := by decide +kernel
theorem d_Mo_read_68 : decode b_Mo_read 68 = .ok (.iinc 1 1, 3) := by decide +kernel
theorem d_Mo_read_71 : decode b_Mo_read 71 = .ok (.goto (-16), 3) := by decide +kernel
theorem d_Mo_read_74 : decode b_Mo_read 74 = .ok (.aload_n 0, 1) := by decide +kernel
theorem d_Mo_read_75 : decode b_Mo_read 75 = .ok (.getfield 86, 3) := by decide +kernel
theorem d_Mo_read_78 : decode b_Mo_read 78 = .ok (.ifCond .ge 79, 3) := by decide +kernel
theorem d_Mo_read_81 : decode b_Mo_read 81 = .ok (.aload_n 0, 1) := by decide +kernel
theorem d_Mo_read_82 : decode b_Mo_read 82 = .ok (.invokevirtual 89, 3) := by decide +kernel
theorem d_Mo_read_85 : decode b_Mo_read 85 = .ok (.ifCond .lt 72, 3) := by decide +kernel
theorem d_Mo_read_88 : decode b_Mo_read 88 = .ok (.aload_n 0, 1) := by decide +kernel
theorem d_Mo_read_89 : decode b_Mo_read 89 = .ok (.invokevirtual 82, 3) := by decide +kernel
theorem d_Mo_read_92 : decode b_Mo_read 92 = .ok (.istore_n 1, 1) := by decide +kernel
theorem d_Mo_read_93 : decode b_Mo_read 93 = .ok (.iload_n 1, 1) := by decide +kernel
theorem d_Mo_read_94 : decode b_Mo_read 94 = .ok (.bipush 113, 2) := by decide +kernel
theorem d_Mo_read_96 : decode b_Mo_read 96 = .ok (.if_icmp .eq 17, 3) := by decide +kernel
theorem d_Mo_read_99 : decode b_Mo_read 99 = .ok (.iload_n 1, 1) := by decide +kernel
theorem d_Mo_read_100 : decode b_Mo_read 100 = .ok (.bipush 107, 2) := by decide +kernel
theorem d_Mo_read_102 : decode b_Mo_read 102 = .ok (.if_icmp .eq 11, 3) := by decide +kernel
theorem d_Mo_read_105 : decode b_Mo_read 105 = .ok (.aload_n 0, 1) := by decide +kernel
theorem d_Mo_read_106 : decode b_Mo_read 106 = .ok (.aload_n 0, 1) := by decide +kernel
theorem d_Mo_read_107 : decode b_Mo_read 107 = .ok (.getfield 79, 3) := by decide +kernel
theorem d_Mo_read_110 : decode b_Mo_read 110 = .ok (.invokevirtual 92, 3) := by decide +kernel
theorem d_Mo_read_113 : decode b_Mo_read 113 = .ok (.aload_n 0, 1) := by decide +kernel
theorem d_Mo_read_114 : decode b_Mo_read 114 = .ok (.dup, 1) := by decide +kernel
theorem d_Mo_read_115 : decode b_Mo_read 115 = .ok (.getfield 79, 3) := by decide +kernel
theorem d_Mo_read_118 : decode b_Mo_read 118 = .ok (.iconst 1, 1) := by decide +kernel
theorem d_Mo_read_119 : decode b_Mo_read 119 = .ok (.iadd, 1) := by decide +kernel
theorem d_Mo_read_120 : decode b_Mo_read 120 = .ok (.putfield 79, 3) := by decide +kernel
theorem d_Mo_read_123 : decode b_Mo_read 123 = .ok (.aload_n 0, 1) := by decide +kernel
theorem d_Mo_read_124 : decode b_Mo_read 124 = .ok (.getfield 86, 3) := by decide +kernel
theorem d_Mo_read_127 : decode b_Mo_read 127 = .ok (.ifCond .ge 16, 3) := by decide +kernel
theorem d_Mo_read_130 : decode b_Mo_read 130 = .ok (.iload_n 1, 1) := by decide +kernel
theorem d_Mo_read_131 : decode b_Mo_read 131 = .ok (.bipush 113, 2) := by decide +kernel
theorem d_Mo_read_133 : decode b_Mo_read 133 = .ok (.if_icmp .ne 10, 3) := by decide +kernel
theorem d_Mo_read_136 : decode b_Mo_read 136 = .ok (.aload_n 0, 1) := by decide +kernel
theorem d_Mo_read_137 : decode b_Mo_read 137 = .ok (.invokevirtual 135, 3) := by decide +kernel
theorem d_Mo_read_140 : decode b_Mo_read 140 = .ok (.goto 14, 3) := by decide +kernel
theorem d_Mo_read_143 : decode b_Mo_read 143 = .ok (.aload_n 0, 1) := by decide +kernel
theorem d_Mo_read_144 : decode b_Mo_read 144 = .ok (.getfield 86, 3) := by decide +kernel
theorem d_Mo_read_147 : decode b_Mo_read 147 = .ok (.ifCond .ge 7, 3) := by decide +kernel
theorem d_Mo_read_150 : decode b_Mo_read 150 = .ok (.aload_n 0, 1) := by decide +kernel
theorem d_Mo_read_151 : decode b_Mo_read 151 = .ok (.invokevirtual 138, 3) := by decide +kernel
theorem d_Mo_read_154 : decode b_Mo_read 154 = .ok (.goto (-80), 3) := by decide +kernel
theorem d_Mo_read_157 : decode b_Mo_read 157 = .ok (.aload_n 0, 1) := by decide +kernel
theorem d_Mo_read_158 : decode b_Mo_read 158 = .ok (.iconst 0, 1) := by decide +kernel
theorem d_Mo_read_159 : decode b_Mo_read 159 = .ok (.putfield 76, 3) := by decide +kernel
theorem d_Mo_read_162 : decode b_Mo_read 162 = .ok (.aload_n 0, 1) := by decide +kernel
theorem d_Mo_read_163 : decode b_Mo_read 163 = .ok (.aload_n 0, 1) := by decide +kernel
theorem d_Mo_read_164 : decode b_Mo_read 164 = .ok (.getfield 86, 3) := by decide +kernel
theorem d_Mo_read_167 : decode b_Mo_read 167 = .ok (.putfield 13, 3) := by decide +kernel
theorem d_Mo_read_170 : decode b_Mo_read 170 = .ok (.aload_n 0, 1) := by decide +kernel
theorem d_Mo_read_171 : decode b_Mo_read 171 = .ok (.iconst 0, 1) := by decide +kernel
theorem d_Mo_read_172 : decode b_Mo_read 172 = .ok (.putfield 141, 3) := by decide +kernel
theorem d_Mo_read_175 : decode b_Mo_read 175 = .ok (.aload_n 0, 1) := by decide +kernel
theorem d_Mo_read_176 : decode b_Mo_read 176 = .ok (.aload_n 0, 1) := by decide +kernel
theorem d_Mo_read_177 : decode b_Mo_read 177 = .ok (.getfield 86, 3) := by decide +kernel
theorem d_Mo_read_180 : decode b_Mo_read 180 = .ok (.ifCond .lt 7, 3) := by decide +kernel
theorem d_Mo_read_183 : decode b_Mo_read 183 = .ok (.iconst 1, 1) := by decide +kernel
theorem d_Mo_read_184 : decode b_Mo_read 184 = .ok (.goto 17, 3) := by decide +kernel
theorem d_Mo_read_187 : decode b_Mo_read 187 = .ok (.aload_n 0, 1) := by decide +kernel
theorem d_Mo_read_188 : decode b_Mo_read 188 = .ok (.getfield 129, 3) := by decide +kernel
theorem d_Mo_read_191 : decode b_Mo_read 191 = .ok (.bipush 8, 2) := by decide +kernel
theorem d_Mo_read_193 : decode b_Mo_read 193 = .ok (.if_icmp .ne 7, 3) := by decide +kernel
theorem d_Mo_read_196 : decode b_Mo_read 196 = .ok (.iconst 2, 1) := by decide +kernel
theorem d_Mo_read_197 : decode b_Mo_read 197 = .ok (.goto 4, 3) := by decide +kernel
theorem d_Mo_read_200 : decode b_Mo_read 200 = .ok (.iconst 0, 1) := by decide +kernel
theorem d_Mo_read_201 : decode b_Mo_read 201 = .ok (.putfield 69, 3) := by decide +kernel
theorem d_Mo_read_204 : decode b_Mo_read 204 = .ok (.aload_n 0, 1) := by decide +kernel
theorem d_Mo_read_205 : decode b_Mo_read 205 = .ok (.getfield 69, 3) := by decide +kernel
theorem d_Mo_read_208 : decode b_Mo_read 208 = .ok (.ifCond .le 5, 3) := by decide +kernel
theorem d_Mo_read_211 : decode b_Mo_read 211 = .ok (.iconst 0, 1) := by decide +kernel
theorem d_Mo_read_212 : decode b_Mo_read 212 = .ok (.ireturn, 1) := by decide +kernel
theorem d_Mo_read_213 : decode b_Mo_read 213 = .ok (.aload_n 0, 1) := by decide +kernel
theorem d_Mo_read_214 : decode b_Mo_read 214 = .ok (.dup, 1) := by decide +kernel
theorem d_Mo_read_215 : decode b_Mo_read 215 = .ok (.getfield 129, 3) := by decide +kernel
theorem d_Mo_read_218 : decode b_Mo_read 218 = .ok (.iconst 1, 1) := by decide +kernel
theorem d_Mo_read_219 : decode b_Mo_read 219 = .ok (.iadd, 1) := by decide +kernel
theorem d_Mo_read_220 : decode b_Mo_read 220 = .ok (.putfield 129, 3) := by decide +kernel
theorem d_Mo_read_223 : decode b_Mo_read 223 = .ok (.aload_n 0, 1) := by decide +kernel
theorem d_Mo_read_224 : decode b_Mo_read 224 = .ok (.aload_n 0, 1) := by decide +kernel
theorem d_Mo_read_225 : decode b_Mo_read 225 = .ok (.getfield 129, 3) := by decide +kernel
theorem d_Mo_read_228 : decode b_Mo_read 228 = .ok (.putfield 126, 3) := by decide +kernel
theorem d_Mo_read_231 : decode b_Mo_read 231 = .ok (.aload_n 0, 1) := by decide +kernel
theorem d_Mo_read_232 : decode b_Mo_read 232 = .ok (.invokevirtual 144, 3) := by decide +kernel
theorem d_Mo_read_235 : decode b_Mo_read 235 = .ok (.ireturn, 1) := by decide +kernel
theorem d_Mo_place_0 : decode b_Mo_place 0 = .ok (.aload_n 0, 1) := by decide +kernel
theorem d_Mo_place_1 : decode b_Mo_place 1 = .ok (.iconst 0, 1) := by decide +kernel
theorem d_Mo_place_2 : decode b_Mo_place 2 = .ok (.putfield 69, 3) := by decide +kernel
theorem d_Mo_place_5 : decode b_Mo_place 5 = .ok (.aload_n 0, 1) := by decide +kernel
theorem d_Mo_place_6 : decode b_Mo_place 6 = .ok (.getfield 13, 3) := by decide +kernel
theorem d_Mo_place_9 : decode b_Mo_place 9 = .ok (.ireturn, 1) := by decide +kernel
theorem d_Mo_edition_0 : decode b_Mo_edition 0 = .ok (.aload_n 0, 1) := by decide +kernel
theorem d_Mo_edition_1 : decode b_Mo_edition 1 = .ok (.iload_n 1, 1) := by decide +kernel
theorem d_Mo_edition_2 : decode b_Mo_edition 2 = .ok (.iconst 0, 1) := by decide +kernel
theorem d_Mo_edition_3 : decode b_Mo_edition 3 = .ok (.aload_n 0, 1) := by decide +kernel
theorem d_Mo_edition_4 : decode b_Mo_edition 4 = .ok (.getfield 129, 3) := by decide +kernel
theorem d_Mo_edition_7 : decode b_Mo_edition 7 = .ok (.invokestatic 72, 3) := by decide +kernel
theorem d_Mo_edition_10 : decode b_Mo_edition 10 = .ok (.invokevirtual 147, 3) := by decide +kernel
theorem d_Mo_edition_13 : decode b_Mo_edition 13 = .ok (.ifCond .ne 5, 3) := by decide +kernel
theorem d_Mo_edition_16 : decode b_Mo_edition 16 = .ok (.iconst 0, 1) := by decide +kernel
theorem d_Mo_edition_17 : decode b_Mo_edition 17 = .ok (.ireturn, 1) := by decide +kernel
theorem d_Mo_edition_18 : decode b_Mo_edition 18 = .ok (.aload_n 0, 1) := by decide +kernel
theorem d_Mo_edition_19 : decode b_Mo_edition 19 = .ok (.iload_n 1, 1) := by decide +kernel
theorem d_Mo_edition_20 : decode b_Mo_edition 20 = .ok (.putfield 126, 3) := by decide +kernel
theorem d_Mo_edition_23 : decode b_Mo_edition 23 = .ok (.aload_n 0, 1) := by decide +kernel
theorem d_Mo_edition_24 : decode b_Mo_edition 24 = .ok (.iconst 0, 1) := by decide +kernel
theorem d_Mo_edition_25 : decode b_Mo_edition 25 = .ok (.putfield 141, 3) := by decide +kernel
theorem d_Mo_edition_28 : decode b_Mo_edition 28 = .ok (.aload_n 0, 1) := by decide +kernel
theorem d_Mo_edition_29 : decode b_Mo_edition 29 = .ok (.invokevirtual 144, 3) := by decide +kernel
theorem d_Mo_edition_32 : decode b_Mo_edition 32 = .ok (.ireturn, 1) := by decide +kernel
theorem d_Mo_isThere_0 : decode b_Mo_isThere 0 = .ok (.iload_n 1, 1) := by decide +kernel
theorem d_Mo_isThere_1 : decode b_Mo_isThere 1 = .ok (.ifCond .le 24, 3) := by decide +kernel
theorem d_Mo_isThere_4 : decode b_Mo_isThere 4 = .ok (.aload_n 0, 1) := by decide +kernel
theorem d_Mo_isThere_5 : decode b_Mo_isThere 5 = .ok (.getfield 17, 3) := by decide +kernel
theorem d_Mo_isThere_8 : decode b_Mo_isThere 8 = .ok (.aload_n 0, 1) := by decide +kernel
theorem d_Mo_isThere_9 : decode b_Mo_isThere 9 = .ok (.getfield 126, 3) := by decide +kernel
theorem d_Mo_isThere_12 : decode b_Mo_isThere 12 = .ok (.bipush 61, 2) := by decide +kernel
theorem d_Mo_isThere_14 : decode b_Mo_isThere 14 = .ok (.imul, 1) := by decide +kernel
theorem d_Mo_isThere_15 : decode b_Mo_isThere 15 = .ok (.iload_n 1, 1) := by decide +kernel
theorem d_Mo_isThere_16 : decode b_Mo_isThere 16 = .ok (.iadd, 1) := by decide +kernel
theorem d_Mo_isThere_17 : decode b_Mo_isThere 17 = .ok (.baload, 1) := by decide +kernel
theorem d_Mo_isThere_18 : decode b_Mo_isThere 18 = .ok (.ifCond .eq 7, 3) := by decide +kernel
theorem d_Mo_isThere_21 : decode b_Mo_isThere 21 = .ok (.iconst 1, 1) := by decide +kernel
theorem d_Mo_isThere_22 : decode b_Mo_isThere 22 = .ok (.goto 4, 3) := by decide +kernel
theorem d_Mo_isThere_25 : decode b_Mo_isThere 25 = .ok (.iconst 0, 1) := by decide +kernel
theorem d_Mo_isThere_26 : decode b_Mo_isThere 26 = .ok (.ireturn, 1) := by decide +kernel
theorem d_Mo_asks_0 : decode b_Mo_asks 0 = .ok (.aload_n 0, 1) := by decide +kernel
theorem d_Mo_asks_1 : decode b_Mo_asks 1 = .ok (.aload_n 0, 1) := by decide +kernel
theorem d_Mo_asks_2 : decode b_Mo_asks 2 = .ok (.iload_n 1, 1) := by decide +kernel
theorem d_Mo_asks_3 : decode b_Mo_asks 3 = .ok (.invokevirtual 151, 3) := by decide +kernel
theorem d_Mo_asks_6 : decode b_Mo_asks 6 = .ok (.ifCond .eq 7, 3) := by decide +kernel
theorem d_Mo_asks_9 : decode b_Mo_asks 9 = .ok (.iload_n 1, 1) := by decide +kernel
theorem d_Mo_asks_10 : decode b_Mo_asks 10 = .ok (.goto 4, 3) := by decide +kernel
theorem d_Mo_asks_13 : decode b_Mo_asks 13 = .ok (.iconst 0, 1) := by decide +kernel
theorem d_Mo_asks_14 : decode b_Mo_asks 14 = .ok (.putfield 155, 3) := by decide +kernel
theorem d_Mo_asks_17 : decode b_Mo_asks 17 = .ok (.aload_n 0, 1) := by decide +kernel
theorem d_Mo_asks_18 : decode b_Mo_asks 18 = .ok (.getfield 155, 3) := by decide +kernel
theorem d_Mo_asks_21 : decode b_Mo_asks 21 = .ok (.ifCond .ne 4, 3) := by decide +kernel
theorem d_Mo_asks_24 : decode b_Mo_asks 24 = .ok (.return_, 1) := by decide +kernel
theorem d_Mo_asks_25 : decode b_Mo_asks 25 = .ok (.aload_n 0, 1) := by decide +kernel
theorem d_Mo_asks_26 : decode b_Mo_asks 26 = .ok (.getfield 60, 3) := by decide +kernel
theorem d_Mo_asks_29 : decode b_Mo_asks 29 = .ok (.aload_n 0, 1) := by decide +kernel
theorem d_Mo_asks_30 : decode b_Mo_asks 30 = .ok (.getfield 158, 3) := by decide +kernel
theorem d_Mo_asks_33 : decode b_Mo_asks 33 = .ok (.aload_n 0, 1) := by decide +kernel
theorem d_Mo_asks_34 : decode b_Mo_asks 34 = .ok (.getfield 155, 3) := by decide +kernel
theorem d_Mo_asks_37 : decode b_Mo_asks 37 = .ok (.iastore, 1) := by decide +kernel
theorem d_Mo_asks_38 : decode b_Mo_asks 38 = .ok (.aload_n 0, 1) := by decide +kernel
theorem d_Mo_asks_39 : decode b_Mo_asks 39 = .ok (.dup, 1) := by decide +kernel
theorem d_Mo_asks_40 : decode b_Mo_asks 40 = .ok (.getfield 158, 3) := by decide +kernel
theorem d_Mo_asks_43 : decode b_Mo_asks 43 = .ok (.iconst 1, 1) := by decide +kernel
theorem d_Mo_asks_44 : decode b_Mo_asks 44 = .ok (.iadd, 1) := by decide +kernel
theorem d_Mo_asks_45 : decode b_Mo_asks 45 = .ok (.putfield 158, 3) := by decide +kernel
theorem d_Mo_asks_48 : decode b_Mo_asks 48 = .ok (.return_, 1) := by decide +kernel
theorem d_Mo_first_0 : decode b_Mo_first 0 = .ok (.aload_n 0, 1) := by decide +kernel
theorem d_Mo_first_1 : decode b_Mo_first 1 = .ok (.iload_n 1, 1) := by decide +kernel
theorem d_Mo_first_2 : decode b_Mo_first 2 = .ok (.iconst 1, 1) := by decide +kernel
theorem d_Mo_first_3 : decode b_Mo_first 3 = .ok (.bipush 9, 2) := by decide +kernel
theorem d_Mo_first_5 : decode b_Mo_first 5 = .ok (.invokestatic 72, 3) := by decide +kernel
theorem d_Mo_first_8 : decode b_Mo_first 8 = .ok (.ifCond .eq 38, 3) := by decide +kernel
theorem d_Mo_first_11 : decode b_Mo_first 11 = .ok (.aload_n 0, 1) := by decide +kernel
theorem d_Mo_first_12 : decode b_Mo_first 12 = .ok (.getfield 42, 3) := by decide +kernel
theorem d_Mo_first_15 : decode b_Mo_first 15 = .ok (.aload_n 0, 1) := by decide +kernel
theorem d_Mo_first_16 : decode b_Mo_first 16 = .ok (.getfield 126, 3) := by decide +kernel
theorem d_Mo_first_19 : decode b_Mo_first 19 = .ok (.bipush 10, 2) := by decide +kernel
theorem d_Mo_first_21 : decode b_Mo_first 21 = .ok (.imul, 1) := by decide +kernel
theorem d_Mo_first_22 : decode b_Mo_first 22 = .ok (.iload_n 1, 1) := by decide +kernel
theorem d_Mo_first_23 : decode b_Mo_first 23 = .ok (.iconst 1, 1) := by decide +kernel
theorem d_Mo_first_24 : decode b_Mo_first 24 = .ok (.bipush 9, 2) := by decide +kernel
theorem d_Mo_first_26 : decode b_Mo_first 26 = .ok (.invokestatic 72, 3) := by decide +kernel
theorem d_Mo_first_29 : decode b_Mo_first 29 = .ok (.ifCond .eq 7, 3) := by decide +kernel
theorem d_Mo_first_32 : decode b_Mo_first 32 = .ok (.iload_n 1, 1) := by decide +kernel
theorem d_Mo_first_33 : decode b_Mo_first 33 = .ok (.goto 4, 3) := by decide +kernel
theorem d_Mo_first_36 : decode b_Mo_first 36 = .ok (.iconst 0, 1) := by decide +kernel
theorem d_Mo_first_37 : decode b_Mo_first 37 = .ok (.iadd, 1) := by decide +kernel
theorem d_Mo_first_38 : decode b_Mo_first 38 = .ok (.iaload, 1) := by decide +kernel
theorem d_Mo_first_39 : decode b_Mo_first 39 = .ok (.ifCond .le 7, 3) := by decide +kernel
theorem d_Mo_first_42 : decode b_Mo_first 42 = .ok (.iconst 1, 1) := by decide +kernel
theorem d_Mo_first_43 : decode b_Mo_first 43 = .ok (.goto 4, 3) := by decide +kernel
theorem d_Mo_first_46 : decode b_Mo_first 46 = .ok (.iconst 0, 1) := by decide +kernel
theorem d_Mo_first_47 : decode b_Mo_first 47 = .ok (.invokevirtual 147, 3) := by decide +kernel
theorem d_Mo_first_50 : decode b_Mo_first 50 = .ok (.ifCond .ne 5, 3) := by decide +kernel
theorem d_Mo_first_53 : decode b_Mo_first 53 = .ok (.iconst 0, 1) := by decide +kernel
theorem d_Mo_first_54 : decode b_Mo_first 54 = .ok (.ireturn, 1) := by decide +kernel
theorem d_Mo_first_55 : decode b_Mo_first 55 = .ok (.aload_n 0, 1) := by decide +kernel
theorem d_Mo_first_56 : decode b_Mo_first 56 = .ok (.iload_n 1, 1) := by decide +kernel
theorem d_Mo_first_57 : decode b_Mo_first 57 = .ok (.putfield 141, 3) := by decide +kernel
theorem d_Mo_first_60 : decode b_Mo_first 60 = .ok (.aload_n 0, 1) := by decide +kernel
theorem d_Mo_first_61 : decode b_Mo_first 61 = .ok (.iconst 0, 1) := by decide +kernel
theorem d_Mo_first_62 : decode b_Mo_first 62 = .ok (.putfield 161, 3) := by decide +kernel
theorem d_Mo_first_65 : decode b_Mo_first 65 = .ok (.aload_n 0, 1) := by decide +kernel
theorem d_Mo_first_66 : decode b_Mo_first 66 = .ok (.iconst 0, 1) := by decide +kernel
theorem d_Mo_first_67 : decode b_Mo_first 67 = .ok (.putfield 158, 3) := by decide +kernel
theorem d_Mo_first_70 : decode b_Mo_first 70 = .ok (.iconst 0, 1) := by decide +kernel
theorem d_Mo_first_71 : decode b_Mo_first 71 = .ok (.istore_n 2, 1) := by decide +kernel
theorem d_Mo_first_72 : decode b_Mo_first 72 = .ok (.iload_n 2, 1) := by decide +kernel
theorem d_Mo_first_73 : decode b_Mo_first 73 = .ok (.bipush 61, 2) := by decide +kernel
theorem d_Mo_first_75 : decode b_Mo_first 75 = .ok (.if_icmp .ge 16, 3) := by decide +kernel
theorem d_Mo_first_78 : decode b_Mo_first 78 = .ok (.aload_n 0, 1) := by decide +kernel
theorem d_Mo_first_79 : decode b_Mo_first 79 = .ok (.getfield 63, 3) := by decide +kernel
theorem d_Mo_first_82 : decode b_Mo_first 82 = .ok (.iload_n 2, 1) := by decide +kernel
theorem d_Mo_first_83 : decode b_Mo_first 83 = .ok (.iconst (-1), 1) := by decide +kernel
theorem d_Mo_first_84 : decode b_Mo_first 84 = .ok (.iastore, 1) := by decide +kernel
theorem d_Mo_first_85 : decode b_Mo_first 85 = .ok (.iinc 2 1, 3) := by decide +kernel
theorem d_Mo_first_88 : decode b_Mo_first 88 = .ok (.goto (-16), 3) := by decide +kernel
theorem d_Mo_first_91 : decode b_Mo_first 91 = .ok (.aload_n 0, 1) := by decide +kernel
theorem d_Mo_first_92 : decode b_Mo_first 92 = .ok (.aload_n 0, 1) := by decide +kernel
theorem d_Mo_first_93 : decode b_Mo_first 93 = .ok (.getfield 42, 3) := by decide +kernel
theorem d_Mo_first_96 : decode b_Mo_first 96 = .ok (.aload_n 0, 1) := by decide +kernel
theorem d_Mo_first_97 : decode b_Mo_first 97 = .ok (.getfield 126, 3) := by decide +kernel
theorem d_Mo_first_100 : decode b_Mo_first 100 = .ok (.bipush 10, 2) := by decide +kernel
theorem d_Mo_first_102 : decode b_Mo_first 102 = .ok (.imul, 1) := by decide +kernel
theorem d_Mo_first_103 : decode b_Mo_first 103 = .ok (.iload_n 1, 1) := by decide +kernel
theorem d_Mo_first_104 : decode b_Mo_first 104 = .ok (.iadd, 1) := by decide +kernel
theorem d_Mo_first_105 : decode b_Mo_first 105 = .ok (.iaload, 1) := by decide +kernel
theorem d_Mo_first_106 : decode b_Mo_first 106 = .ok (.invokevirtual 164, 3) := by decide +kernel
theorem d_Mo_first_109 : decode b_Mo_first 109 = .ok (.aload_n 0, 1) := by decide +kernel
theorem d_Mo_first_110 : decode b_Mo_first 110 = .ok (.getfield 155, 3) := by decide +kernel
theorem d_Mo_first_113 : decode b_Mo_first 113 = .ok (.ireturn, 1) := by decide +kernel
theorem d_Mo_answer_0 : decode b_Mo_answer 0 = .ok (.aload_n 0, 1) := by decide +kernel
theorem d_Mo_answer_1 : decode b_Mo_answer 1 = .ok (.aload_n 0, 1) := by decide +kernel
theorem d_Mo_answer_2 : decode b_Mo_answer 2 = .ok (.getfield 141, 3) := by decide +kernel
theorem d_Mo_answer_5 : decode b_Mo_answer 5 = .ok (.ifCond .eq 10, 3) := by decide +kernel
theorem d_Mo_answer_8 : decode b_Mo_answer 8 = .ok (.aload_n 0, 1) := by decide +kernel
theorem d_Mo_answer_9 : decode b_Mo_answer 9 = .ok (.getfield 155, 3) := by decide +kernel
theorem d_Mo_answer_12 : decode b_Mo_answer 12 = .ok (.ifCond .ne 7, 3) := by decide +kernel
theorem d_Mo_answer_15 : decode b_Mo_answer 15 = .ok (.iconst 2, 1) := by decide +kernel
theorem d_Mo_answer_16 : decode b_Mo_answer 16 = .ok (.goto 4, 3) := by decide +kernel
theorem d_Mo_answer_19 : decode b_Mo_answer 19 = .ok (.iconst 0, 1) := by decide +kernel
theorem d_Mo_answer_20 : decode b_Mo_answer 20 = .ok (.putfield 69, 3) := by decide +kernel
theorem d_Mo_answer_23 : decode b_Mo_answer 23 = .ok (.aload_n 0, 1) := by decide +kernel
theorem d_Mo_answer_24 : decode b_Mo_answer 24 = .ok (.getfield 69, 3) := by decide +kernel
theorem d_Mo_answer_27 : decode b_Mo_answer 27 = .ok (.ifCond .le 5, 3) := by decide +kernel
theorem d_Mo_answer_30 : decode b_Mo_answer 30 = .ok (.iconst 0, 1) := by decide +kernel
theorem d_Mo_answer_31 : decode b_Mo_answer 31 = .ok (.ireturn, 1) := by decide +kernel
theorem d_Mo_answer_32 : decode b_Mo_answer 32 = .ok (.aload_n 0, 1) := by decide +kernel
theorem d_Mo_answer_33 : decode b_Mo_answer 33 = .ok (.getfield 126, 3) := by decide +kernel
theorem d_Mo_answer_36 : decode b_Mo_answer 36 = .ok (.bipush 61, 2) := by decide +kernel
theorem d_Mo_answer_38 : decode b_Mo_answer 38 = .ok (.imul, 1) := by decide +kernel
theorem d_Mo_answer_39 : decode b_Mo_answer 39 = .ok (.aload_n 0, 1) := by decide +kernel
theorem d_Mo_answer_40 : decode b_Mo_answer 40 = .ok (.getfield 155, 3) := by decide +kernel
theorem d_Mo_answer_43 : decode b_Mo_answer 43 = .ok (.iadd, 1) := by decide +kernel
theorem d_Mo_answer_44 : decode b_Mo_answer 44 = .ok (.istore_n 2, 1) := by decide +kernel
theorem d_Mo_answer_45 : decode b_Mo_answer 45 = .ok (.aload_n 0, 1) := by decide +kernel
theorem d_Mo_answer_46 : decode b_Mo_answer 46 = .ok (.iload_n 1, 1) := by decide +kernel
theorem d_Mo_answer_47 : decode b_Mo_answer 47 = .ok (.iconst (-1), 1) := by decide +kernel
theorem d_Mo_answer_48 : decode b_Mo_answer 48 = .ok (.if_icmp .ne 20, 3) := by decide +kernel
theorem d_Mo_answer_51 : decode b_Mo_answer 51 = .ok (.aload_n 0, 1) := by decide +kernel
theorem d_Mo_answer_52 : decode b_Mo_answer 52 = .ok (.getfield 21, 3) := by decide +kernel
theorem d_Mo_answer_55 : decode b_Mo_answer 55 = .ok (.iload_n 2, 1) := by decide +kernel
theorem d_Mo_answer_56 : decode b_Mo_answer 56 = .ok (.baload, 1) := by decide +kernel
theorem d_Mo_answer_57 : decode b_Mo_answer 57 = .ok (.ifCond .eq 7, 3) := by decide +kernel
theorem d_Mo_answer_60 : decode b_Mo_answer 60 = .ok (.iconst 1, 1) := by decide +kernel
theorem d_Mo_answer_61 : decode b_Mo_answer 61 = .ok (.goto 31, 3) := by decide +kernel
theorem d_Mo_answer_64 : decode b_Mo_answer 64 = .ok (.iconst 0, 1) := by decide +kernel
theorem d_Mo_answer_65 : decode b_Mo_answer 65 = .ok (.goto 27, 3) := by decide +kernel
theorem d_Mo_answer_68 : decode b_Mo_answer 68 = .ok (.iload_n 1, 1) := by decide +kernel
theorem d_Mo_answer_69 : decode b_Mo_answer 69 = .ok (.aload_n 0, 1) := by decide +kernel
theorem d_Mo_answer_70 : decode b_Mo_answer 70 = .ok (.getfield 24, 3) := by decide +kernel
theorem d_Mo_answer_73 : decode b_Mo_answer 73 = .ok (.iload_n 2, 1) := by decide +kernel
theorem d_Mo_answer_74 : decode b_Mo_answer 74 = .ok (.iaload, 1) := by decide +kernel
theorem d_Mo_answer_75 : decode b_Mo_answer 75 = .ok (.aload_n 0, 1) := by decide +kernel
theorem d_Mo_answer_76 : decode b_Mo_answer 76 = .ok (.getfield 27, 3) := by decide +kernel
theorem d_Mo_answer_79 : decode b_Mo_answer 79 = .ok (.iload_n 2, 1) := by decide +kernel
theorem d_Mo_answer_80 : decode b_Mo_answer 80 = .ok (.iaload, 1) := by decide +kernel
theorem d_Mo_answer_81 : decode b_Mo_answer 81 = .ok (.invokestatic 72, 3) := by decide +kernel
theorem d_Mo_answer_84 : decode b_Mo_answer 84 = .ok (.ifCond .eq 7, 3) := by decide +kernel
theorem d_Mo_answer_87 : decode b_Mo_answer 87 = .ok (.iconst 0, 1) := by decide +kernel
theorem d_Mo_answer_88 : decode b_Mo_answer 88 = .ok (.goto 4, 3) := by decide +kernel
theorem d_Mo_answer_91 : decode b_Mo_answer 91 = .ok (.iconst 1, 1) := by decide +kernel
theorem d_Mo_answer_92 : decode b_Mo_answer 92 = .ok (.putfield 69, 3) := by decide +kernel
theorem d_Mo_answer_95 : decode b_Mo_answer 95 = .ok (.aload_n 0, 1) := by decide +kernel
theorem d_Mo_answer_96 : decode b_Mo_answer 96 = .ok (.getfield 69, 3) := by decide +kernel
theorem d_Mo_answer_99 : decode b_Mo_answer 99 = .ok (.ifCond .le 5, 3) := by decide +kernel
theorem d_Mo_answer_102 : decode b_Mo_answer 102 = .ok (.iconst 0, 1) := by decide +kernel
theorem d_Mo_answer_103 : decode b_Mo_answer 103 = .ok (.ireturn, 1) := by decide +kernel
theorem d_Mo_answer_104 : decode b_Mo_answer 104 = .ok (.iconst 0, 1) := by decide +kernel
theorem d_Mo_answer_105 : decode b_Mo_answer 105 = .ok (.istore_n 3, 1) := by decide +kernel
theorem d_Mo_answer_106 : decode b_Mo_answer 106 = .ok (.iload_n 3, 1) := by decide +kernel
theorem d_Mo_answer_107 : decode b_Mo_answer 107 = .ok (.aload_n 0, 1) := by decide +kernel
theorem d_Mo_answer_108 : decode b_Mo_answer 108 = .ok (.getfield 36, 3) := by decide +kernel
theorem d_Mo_answer_111 : decode b_Mo_answer 111 = .ok (.iload_n 2, 1) := by decide +kernel
theorem d_Mo_answer_112 : decode b_Mo_answer 112 = .ok (.iaload, 1) := by decide +kernel
theorem d_Mo_answer_113 : decode b_Mo_answer 113 = .ok (.iconst 1, 1) := by decide +kernel
theorem d_Mo_answer_114 : decode b_Mo_answer 114 = .ok (.isub, 1) := by decide +kernel
theorem d_Mo_answer_115 : decode b_Mo_answer 115 = .ok (.if_icmp .ge 49, 3) := by decide +kernel
theorem d_Mo_answer_118 : decode b_Mo_answer 118 = .ok (.iload_n 1, 1) := by decide +kernel
theorem d_Mo_answer_119 : decode b_Mo_answer 119 = .ok (.iconst (-1), 1) := by decide +kernel
theorem d_Mo_answer_120 : decode b_Mo_answer 120 = .ok (.if_icmp .eq 38, 3) := by decide +kernel
theorem d_Mo_answer_123 : decode b_Mo_answer 123 = .ok (.iload_n 1, 1) := by decide +kernel
theorem d_Mo_answer_124 : decode b_Mo_answer 124 = .ok (.aload_n 0, 1) := by decide +kernel
theorem d_Mo_answer_125 : decode b_Mo_answer 125 = .ok (.getfield 39, 3) := by decide +kernel
theorem d_Mo_answer_128 : decode b_Mo_answer 128 = .ok (.iload_n 2, 1) := by decide +kernel
theorem d_Mo_answer_129 : decode b_Mo_answer 129 = .ok (.bipush 6, 2) := by decide +kernel
theorem d_Mo_answer_131 : decode b_Mo_answer 131 = .ok (.imul, 1) := by decide +kernel
theorem d_Mo_answer_132 : decode b_Mo_answer 132 = .ok (.iload_n 3, 1) := by decide +kernel
theorem d_Mo_answer_133 : decode b_Mo_answer 133 = .ok (.iadd, 1) := by decide +kernel
theorem d_Mo_answer_134 : decode b_Mo_answer 134 = .ok (.iconst 4, 1) := by decide +kernel
theorem d_Mo_answer_135 : decode b_Mo_answer 135 = .ok (.imul, 1) := by decide +kernel
theorem d_Mo_answer_136 : decode b_Mo_answer 136 = .ok (.iaload, 1) := by decide +kernel
theorem d_Mo_answer_137 : decode b_Mo_answer 137 = .ok (.aload_n 0, 1) := by decide +kernel
theorem d_Mo_answer_138 : decode b_Mo_answer 138 = .ok (.getfield 39, 3) := by decide +kernel
theorem d_Mo_answer_141 : decode b_Mo_answer 141 = .ok (.iload_n 2, 1) := by decide +kernel
theorem d_Mo_answer_142 : decode b_Mo_answer 142 = .ok (.bipush 6, 2) := by decide +kernel
theorem d_Mo_answer_144 : decode b_Mo_answer 144 = .ok (.imul, 1) := by decide +kernel
theorem d_Mo_answer_145 : decode b_Mo_answer 145 = .ok (.iload_n 3, 1) := by decide +kernel
theorem d_Mo_answer_146 : decode b_Mo_answer 146 = .ok (.iadd, 1) := by decide +kernel
theorem d_Mo_answer_147 : decode b_Mo_answer 147 = .ok (.iconst 4, 1) := by decide +kernel
theorem d_Mo_answer_148 : decode b_Mo_answer 148 = .ok (.imul, 1) := by decide +kernel
theorem d_Mo_answer_149 : decode b_Mo_answer 149 = .ok (.iconst 1, 1) := by decide +kernel
theorem d_Mo_answer_150 : decode b_Mo_answer 150 = .ok (.iadd, 1) := by decide +kernel
theorem d_Mo_answer_151 : decode b_Mo_answer 151 = .ok (.iaload, 1) := by decide +kernel
theorem d_Mo_answer_152 : decode b_Mo_answer 152 = .ok (.invokestatic 72, 3) := by decide +kernel
theorem d_Mo_answer_155 : decode b_Mo_answer 155 = .ok (.ifCond .ne 9, 3) := by decide +kernel
theorem d_Mo_answer_158 : decode b_Mo_answer 158 = .ok (.iinc 3 1, 3) := by decide +kernel
theorem d_Mo_answer_161 : decode b_Mo_answer 161 = .ok (.goto (-55), 3) := by decide +kernel
theorem d_Mo_answer_164 : decode b_Mo_answer 164 = .ok (.iload_n 2, 1) := by decide +kernel
theorem d_Mo_answer_165 : decode b_Mo_answer 165 = .ok (.bipush 6, 2) := by decide +kernel
theorem d_Mo_answer_167 : decode b_Mo_answer 167 = .ok (.imul, 1) := by decide +kernel
theorem d_Mo_answer_168 : decode b_Mo_answer 168 = .ok (.iload_n 3, 1) := by decide +kernel
theorem d_Mo_answer_169 : decode b_Mo_answer 169 = .ok (.iadd, 1) := by decide +kernel
theorem d_Mo_answer_170 : decode b_Mo_answer 170 = .ok (.iconst 4, 1) := by decide +kernel
theorem d_Mo_answer_171 : decode b_Mo_answer 171 = .ok (.imul, 1) := by decide +kernel
theorem d_Mo_answer_172 : decode b_Mo_answer 172 = .ok (.istore 4, 2) := by decide +kernel
theorem d_Mo_answer_174 : decode b_Mo_answer 174 = .ok (.aload_n 0, 1) := by decide +kernel
theorem d_Mo_answer_175 : decode b_Mo_answer 175 = .ok (.aload_n 0, 1) := by decide +kernel
theorem d_Mo_answer_176 : decode b_Mo_answer 176 = .ok (.aload_n 0, 1) := by decide +kernel
theorem d_Mo_answer_177 : decode b_Mo_answer 177 = .ok (.getfield 39, 3) := by decide +kernel
theorem d_Mo_answer_180 : decode b_Mo_answer 180 = .ok (.iload 4, 2) := by decide +kernel
theorem d_Mo_answer_182 : decode b_Mo_answer 182 = .ok (.iconst 2, 1) := by decide +kernel
theorem d_Mo_answer_183 : decode b_Mo_answer 183 = .ok (.iadd, 1) := by decide +kernel
theorem d_Mo_answer_184 : decode b_Mo_answer 184 = .ok (.iaload, 1) := by decide +kernel
theorem d_Mo_answer_185 : decode b_Mo_answer 185 = .ok (.invokevirtual 151, 3) := by decide +kernel
theorem d_Mo_answer_188 : decode b_Mo_answer 188 = .ok (.ifCond .eq 16, 3) := by decide +kernel
theorem d_Mo_answer_191 : decode b_Mo_answer 191 = .ok (.aload_n 0, 1) := by decide +kernel
theorem d_Mo_answer_192 : decode b_Mo_answer 192 = .ok (.getfield 158, 3) := by decide +kernel
theorem d_Mo_answer_195 : decode b_Mo_answer 195 = .ok (.bipush 40, 2) := by decide +kernel
theorem d_Mo_answer_197 : decode b_Mo_answer 197 = .ok (.if_icmp .ne 7, 3) := by decide +kernel
theorem d_Mo_answer_200 : decode b_Mo_answer 200 = .ok (.iconst 2, 1) := by decide +kernel
theorem d_Mo_answer_201 : decode b_Mo_answer 201 = .ok (.goto 4, 3) := by decide +kernel
theorem d_Mo_answer_204 : decode b_Mo_answer 204 = .ok (.iconst 0, 1) := by decide +kernel
theorem d_Mo_answer_205 : decode b_Mo_answer 205 = .ok (.putfield 69, 3) := by decide +kernel
theorem d_Mo_answer_208 : decode b_Mo_answer 208 = .ok (.aload_n 0, 1) := by decide +kernel
theorem d_Mo_answer_209 : decode b_Mo_answer 209 = .ok (.getfield 69, 3) := by decide +kernel
theorem d_Mo_answer_212 : decode b_Mo_answer 212 = .ok (.ifCond .le 5, 3) := by decide +kernel
theorem d_Mo_answer_215 : decode b_Mo_answer 215 = .ok (.iconst 0, 1) := by decide +kernel
theorem d_Mo_answer_216 : decode b_Mo_answer 216 = .ok (.ireturn, 1) := by decide +kernel
theorem d_Mo_answer_217 : decode b_Mo_answer 217 = .ok (.aload_n 0, 1) := by decide +kernel
theorem d_Mo_answer_218 : decode b_Mo_answer 218 = .ok (.getfield 63, 3) := by decide +kernel
theorem d_Mo_answer_221 : decode b_Mo_answer 221 = .ok (.aload_n 0, 1) := by decide +kernel
theorem d_Mo_answer_222 : decode b_Mo_answer 222 = .ok (.getfield 155, 3) := by decide +kernel
theorem d_Mo_answer_225 : decode b_Mo_answer 225 = .ok (.iload_n 1, 1) := by decide +kernel
theorem d_Mo_answer_226 : decode b_Mo_answer 226 = .ok (.iastore, 1) := by decide +kernel
theorem d_Mo_answer_227 : decode b_Mo_answer 227 = .ok (.aload_n 0, 1) := by decide +kernel
theorem d_Mo_answer_228 : decode b_Mo_answer 228 = .ok (.aload_n 0, 1) := by decide +kernel
theorem d_Mo_answer_229 : decode b_Mo_answer 229 = .ok (.getfield 161, 3) := by decide +kernel
theorem d_Mo_answer_232 : decode b_Mo_answer 232 = .ok (.aload_n 0, 1) := by decide +kernel
theorem d_Mo_answer_233 : decode b_Mo_answer 233 = .ok (.getfield 39, 3) := by decide +kernel
theorem d_Mo_answer_236 : decode b_Mo_answer 236 = .ok (.iload 4, 2) := by decide +kernel
theorem d_Mo_answer_238 : decode b_Mo_answer 238 = .ok (.iconst 3, 1) := by decide +kernel
theorem d_Mo_answer_239 : decode b_Mo_answer 239 = .ok (.iadd, 1) := by decide +kernel
theorem d_Mo_answer_240 : decode b_Mo_answer 240 = .ok (.iaload, 1) := by decide +kernel
theorem d_Mo_answer_241 : decode b_Mo_answer 241 = .ok (.iadd, 1) := by decide +kernel
theorem d_Mo_answer_242 : decode b_Mo_answer 242 = .ok (.putfield 161, 3) := by decide +kernel
theorem d_Mo_answer_245 : decode b_Mo_answer 245 = .ok (.aload_n 0, 1) := by decide +kernel
theorem d_Mo_answer_246 : decode b_Mo_answer 246 = .ok (.aload_n 0, 1) := by decide +kernel
theorem d_Mo_answer_247 : decode b_Mo_answer 247 = .ok (.getfield 39, 3) := by decide +kernel
theorem d_Mo_answer_250 : decode b_Mo_answer 250 = .ok (.iload 4, 2) := by decide +kernel
theorem d_Mo_answer_252 : decode b_Mo_answer 252 = .ok (.iconst 2, 1) := by decide +kernel
theorem d_Mo_answer_253 : decode b_Mo_answer 253 = .ok (.iadd, 1) := by decide +kernel
theorem d_Mo_answer_254 : decode b_Mo_answer 254 = .ok (.iaload, 1) := by decide +kernel
theorem d_Mo_answer_255 : decode b_Mo_answer 255 = .ok (.invokevirtual 164, 3) := by decide +kernel
theorem d_Mo_answer_258 : decode b_Mo_answer 258 = .ok (.aload_n 0, 1) := by decide +kernel
theorem d_Mo_answer_259 : decode b_Mo_answer 259 = .ok (.getfield 155, 3) := by decide +kernel
theorem d_Mo_answer_262 : decode b_Mo_answer 262 = .ok (.ireturn, 1) := by decide +kernel
theorem d_Mo_kind_0 : decode b_Mo_kind 0 = .ok (.aload_n 0, 1) := by decide +kernel
theorem d_Mo_kind_1 : decode b_Mo_kind 1 = .ok (.iconst 0, 1) := by decide +kernel
theorem d_Mo_kind_2 : decode b_Mo_kind 2 = .ok (.putfield 69, 3) := by decide +kernel
theorem d_Mo_kind_5 : decode b_Mo_kind 5 = .ok (.aload_n 0, 1) := by decide +kernel
theorem d_Mo_kind_6 : decode b_Mo_kind 6 = .ok (.getfield 141, 3) := by decide +kernel
theorem d_Mo_kind_9 : decode b_Mo_kind 9 = .ok (.ireturn, 1) := by decide +kernel
theorem d_Mo_holds_0 : decode b_Mo_holds 0 = .ok (.aload_n 0, 1) := by decide +kernel
theorem d_Mo_holds_1 : decode b_Mo_holds 1 = .ok (.getfield 51, 3) := by decide +kernel
theorem d_Mo_holds_4 : decode b_Mo_holds 4 = .ok (.iload_n 1, 1) := by decide +kernel
theorem d_Mo_holds_5 : decode b_Mo_holds 5 = .ok (.iaload, 1) := by decide +kernel
theorem d_Mo_holds_6 : decode b_Mo_holds 6 = .ok (.ifCond .ne 10, 3) := by decide +kernel
theorem d_Mo_holds_9 : decode b_Mo_holds 9 = .ok (.aload_n 0, 1) := by decide +kernel
theorem d_Mo_holds_10 : decode b_Mo_holds 10 = .ok (.getfield 161, 3) := by decide +kernel
theorem d_Mo_holds_13 : decode b_Mo_holds 13 = .ok (.goto 14, 3) := by decide +kernel
theorem d_Mo_holds_16 : decode b_Mo_holds 16 = .ok (.aload_n 0, 1) := by decide +kernel
theorem d_Mo_holds_17 : decode b_Mo_holds 17 = .ok (.getfield 63, 3) := by decide +kernel
theorem d_Mo_holds_20 : decode b_Mo_holds 20 = .ok (.aload_n 0, 1) := by decide +kernel
theorem d_Mo_holds_21 : decode b_Mo_holds 21 = .ok (.getfield 51, 3) := by decide +kernel
theorem d_Mo_holds_24 : decode b_Mo_holds 24 = .ok (.iload_n 1, 1) := by decide +kernel
theorem d_Mo_holds_25 : decode b_Mo_holds 25 = .ok (.iaload, 1) := by decide +kernel
theorem d_Mo_holds_26 : decode b_Mo_holds 26 = .ok (.iaload, 1) := by decide +kernel
theorem d_Mo_holds_27 : decode b_Mo_holds 27 = .ok (.istore_n 2, 1) := by decide +kernel
theorem d_Mo_holds_28 : decode b_Mo_holds 28 = .ok (.aload_n 0, 1) := by decide +kernel
theorem d_Mo_holds_29 : decode b_Mo_holds 29 = .ok (.getfield 51, 3) := by decide +kernel
theorem d_Mo_holds_32 : decode b_Mo_holds 32 = .ok (.iload_n 1, 1) := by decide +kernel
theorem d_Mo_holds_33 : decode b_Mo_holds 33 = .ok (.iaload, 1) := by decide +kernel
theorem d_Mo_holds_34 : decode b_Mo_holds 34 = .ok (.ifCond .le 9, 3) := by decide +kernel
theorem d_Mo_holds_37 : decode b_Mo_holds 37 = .ok (.iload_n 2, 1) := by decide +kernel
theorem d_Mo_holds_38 : decode b_Mo_holds 38 = .ok (.ifCond .ge 5, 3) := by decide +kernel
theorem d_Mo_holds_41 : decode b_Mo_holds 41 = .ok (.iconst 0, 1) := by decide +kernel
theorem d_Mo_holds_42 : decode b_Mo_holds 42 = .ok (.ireturn, 1) := by decide +kernel
theorem d_Mo_holds_43 : decode b_Mo_holds 43 = .ok (.aload_n 0, 1) := by decide +kernel
theorem d_Mo_holds_44 : decode b_Mo_holds 44 = .ok (.getfield 51, 3) := by decide +kernel
theorem d_Mo_holds_47 : decode b_Mo_holds 47 = .ok (.iload_n 1, 1) := by decide +kernel
theorem d_Mo_holds_48 : decode b_Mo_holds 48 = .ok (.iconst 1, 1) := by decide +kernel
theorem d_Mo_holds_49 : decode b_Mo_holds 49 = .ok (.iadd, 1) := by decide +kernel
theorem d_Mo_holds_50 : decode b_Mo_holds 50 = .ok (.iaload, 1) := by decide +kernel
theorem d_Mo_holds_51 : decode b_Mo_holds 51 = .ok (.istore_n 3, 1) := by decide +kernel
theorem d_Mo_holds_52 : decode b_Mo_holds 52 = .ok (.iload_n 3, 1) := by decide +kernel
theorem d_Mo_holds_53 : decode b_Mo_holds 53 = .ok (.bipush 61, 2) := by decide +kernel
theorem d_Mo_holds_55 : decode b_Mo_holds 55 = .ok (.if_icmp .ne 23, 3) := by decide +kernel
theorem d_Mo_holds_58 : decode b_Mo_holds 58 = .ok (.iload_n 2, 1) := by decide +kernel
theorem d_Mo_holds_59 : decode b_Mo_holds 59 = .ok (.aload_n 0, 1) := by decide +kernel
theorem d_Mo_holds_60 : decode b_Mo_holds 60 = .ok (.getfield 51, 3) := by decide +kernel
theorem d_Mo_holds_63 : decode b_Mo_holds 63 = .ok (.iload_n 1, 1) := by decide +kernel
theorem d_Mo_holds_64 : decode b_Mo_holds 64 = .ok (.iconst 2, 1) := by decide +kernel
theorem d_Mo_holds_65 : decode b_Mo_holds 65 = .ok (.iadd, 1) := by decide +kernel
theorem d_Mo_holds_66 : decode b_Mo_holds 66 = .ok (.iaload, 1) := by decide +kernel
theorem d_Mo_holds_67 : decode b_Mo_holds 67 = .ok (.if_icmp .ne 7, 3) := by decide +kernel
theorem d_Mo_holds_70 : decode b_Mo_holds 70 = .ok (.iconst 1, 1) := by decide +kernel
theorem d_Mo_holds_71 : decode b_Mo_holds 71 = .ok (.goto 50, 3) := by decide +kernel
theorem d_Mo_holds_74 : decode b_Mo_holds 74 = .ok (.iconst 0, 1) := by decide +kernel
theorem d_Mo_holds_75 : decode b_Mo_holds 75 = .ok (.goto 46, 3) := by decide +kernel
theorem d_Mo_holds_78 : decode b_Mo_holds 78 = .ok (.iload_n 3, 1) := by decide +kernel
theorem d_Mo_holds_79 : decode b_Mo_holds 79 = .ok (.bipush 60, 2) := by decide +kernel
theorem d_Mo_holds_81 : decode b_Mo_holds 81 = .ok (.if_icmp .ne 23, 3) := by decide +kernel
theorem d_Mo_holds_84 : decode b_Mo_holds 84 = .ok (.iload_n 2, 1) := by decide +kernel
theorem d_Mo_holds_85 : decode b_Mo_holds 85 = .ok (.aload_n 0, 1) := by decide +kernel
theorem d_Mo_holds_86 : decode b_Mo_holds 86 = .ok (.getfield 51, 3) := by decide +kernel
theorem d_Mo_holds_89 : decode b_Mo_holds 89 = .ok (.iload_n 1, 1) := by decide +kernel
theorem d_Mo_holds_90 : decode b_Mo_holds 90 = .ok (.iconst 2, 1) := by decide +kernel
theorem d_Mo_holds_91 : decode b_Mo_holds 91 = .ok (.iadd, 1) := by decide +kernel
theorem d_Mo_holds_92 : decode b_Mo_holds 92 = .ok (.iaload, 1) := by decide +kernel
theorem d_Mo_holds_93 : decode b_Mo_holds 93 = .ok (.if_icmp .ge 7, 3) := by decide +kernel
theorem d_Mo_holds_96 : decode b_Mo_holds 96 = .ok (.iconst 1, 1) := by decide +kernel
theorem d_Mo_holds_97 : decode b_Mo_holds 97 = .ok (.goto 24, 3) := by decide +kernel
theorem d_Mo_holds_100 : decode b_Mo_holds 100 = .ok (.iconst 0, 1) := by decide +kernel
theorem d_Mo_holds_101 : decode b_Mo_holds 101 = .ok (.goto 20, 3) := by decide +kernel
theorem d_Mo_holds_104 : decode b_Mo_holds 104 = .ok (.iload_n 2, 1) := by decide +kernel
theorem d_Mo_holds_105 : decode b_Mo_holds 105 = .ok (.aload_n 0, 1) := by decide +kernel
theorem d_Mo_holds_106 : decode b_Mo_holds 106 = .ok (.getfield 51, 3) := by decide +kernel
theorem d_Mo_holds_109 : decode b_Mo_holds 109 = .ok (.iload_n 1, 1) := by decide +kernel
theorem d_Mo_holds_110 : decode b_Mo_holds 110 = .ok (.iconst 2, 1) := by decide +kernel
theorem d_Mo_holds_111 : decode b_Mo_holds 111 = .ok (.iadd, 1) := by decide +kernel
theorem d_Mo_holds_112 : decode b_Mo_holds 112 = .ok (.iaload, 1) := by decide +kernel
theorem d_Mo_holds_113 : decode b_Mo_holds 113 = .ok (.if_icmp .le 7, 3) := by decide +kernel
theorem d_Mo_holds_116 : decode b_Mo_holds 116 = .ok (.iconst 1, 1) := by decide +kernel
theorem d_Mo_holds_117 : decode b_Mo_holds 117 = .ok (.goto 4, 3) := by decide +kernel
theorem d_Mo_holds_120 : decode b_Mo_holds 120 = .ok (.iconst 0, 1) := by decide +kernel
theorem d_Mo_holds_121 : decode b_Mo_holds 121 = .ok (.ireturn, 1) := by decide +kernel
theorem d_Mo_priority_0 : decode b_Mo_priority 0 = .ok (.aload_n 0, 1) := by decide +kernel
theorem d_Mo_priority_1 : decode b_Mo_priority 1 = .ok (.aload_n 0, 1) := by decide +kernel
theorem d_Mo_priority_2 : decode b_Mo_priority 2 = .ok (.getfield 141, 3) := by decide +kernel
theorem d_Mo_priority_5 : decode b_Mo_priority 5 = .ok (.ifCond .ne 7, 3) := by decide +kernel
theorem d_Mo_priority_8 : decode b_Mo_priority 8 = .ok (.iconst 1, 1) := by decide +kernel
theorem d_Mo_priority_9 : decode b_Mo_priority 9 = .ok (.goto 4, 3) := by decide +kernel
theorem d_Mo_priority_12 : decode b_Mo_priority 12 = .ok (.iconst 0, 1) := by decide +kernel
theorem d_Mo_priority_13 : decode b_Mo_priority 13 = .ok (.putfield 69, 3) := by decide +kernel
theorem d_Mo_priority_16 : decode b_Mo_priority 16 = .ok (.aload_n 0, 1) := by decide +kernel
theorem d_Mo_priority_17 : decode b_Mo_priority 17 = .ok (.getfield 69, 3) := by decide +kernel
theorem d_Mo_priority_20 : decode b_Mo_priority 20 = .ok (.ifCond .le 5, 3) := by decide +kernel
theorem d_Mo_priority_23 : decode b_Mo_priority 23 = .ok (.iconst 0, 1) := by decide +kernel
theorem d_Mo_priority_24 : decode b_Mo_priority 24 = .ok (.ireturn, 1) := by decide +kernel
theorem d_Mo_priority_25 : decode b_Mo_priority 25 = .ok (.aload_n 0, 1) := by decide +kernel
theorem d_Mo_priority_26 : decode b_Mo_priority 26 = .ok (.getfield 126, 3) := by decide +kernel
theorem d_Mo_priority_29 : decode b_Mo_priority 29 = .ok (.bipush 10, 2) := by decide +kernel
theorem d_Mo_priority_31 : decode b_Mo_priority 31 = .ok (.imul, 1) := by decide +kernel
theorem d_Mo_priority_32 : decode b_Mo_priority 32 = .ok (.aload_n 0, 1) := by decide +kernel
theorem d_Mo_priority_33 : decode b_Mo_priority 33 = .ok (.getfield 141, 3) := by decide +kernel
theorem d_Mo_priority_36 : decode b_Mo_priority 36 = .ok (.iadd, 1) := by decide +kernel
theorem d_Mo_priority_37 : decode b_Mo_priority 37 = .ok (.istore_n 1, 1) := by decide +kernel
theorem d_Mo_priority_38 : decode b_Mo_priority 38 = .ok (.iconst 0, 1) := by decide +kernel
theorem d_Mo_priority_39 : decode b_Mo_priority 39 = .ok (.istore_n 2, 1) := by decide +kernel
theorem d_Mo_priority_40 : decode b_Mo_priority 40 = .ok (.iload_n 2, 1) := by decide +kernel
theorem d_Mo_priority_41 : decode b_Mo_priority 41 = .ok (.aload_n 0, 1) := by decide +kernel
theorem d_Mo_priority_42 : decode b_Mo_priority 42 = .ok (.getfield 48, 3) := by decide +kernel
theorem d_Mo_priority_45 : decode b_Mo_priority 45 = .ok (.iload_n 1, 1) := by decide +kernel
theorem d_Mo_priority_46 : decode b_Mo_priority 46 = .ok (.iaload, 1) := by decide +kernel
theorem d_Mo_priority_47 : decode b_Mo_priority 47 = .ok (.if_icmp .ge 83, 3) := by decide +kernel
theorem d_Mo_priority_50 : decode b_Mo_priority 50 = .ok (.iload_n 1, 1) := by decide +kernel
theorem d_Mo_priority_51 : decode b_Mo_priority 51 = .ok (.bipush 6, 2) := by decide +kernel
theorem d_Mo_priority_53 : decode b_Mo_priority 53 = .ok (.imul, 1) := by decide +kernel
theorem d_Mo_priority_54 : decode b_Mo_priority 54 = .ok (.iload_n 2, 1) := by decide +kernel
theorem d_Mo_priority_55 : decode b_Mo_priority 55 = .ok (.iadd, 1) := by decide +kernel
theorem d_Mo_priority_56 : decode b_Mo_priority 56 = .ok (.bipush 14, 2) := by decide +kernel
theorem d_Mo_priority_58 : decode b_Mo_priority 58 = .ok (.imul, 1) := by decide +kernel
theorem d_Mo_priority_59 : decode b_Mo_priority 59 = .ok (.istore_n 3, 1) := by decide +kernel
theorem d_Mo_priority_60 : decode b_Mo_priority 60 = .ok (.iconst 1, 1) := by decide +kernel
theorem d_Mo_priority_61 : decode b_Mo_priority 61 = .ok (.istore 4, 2) := by decide +kernel
theorem d_Mo_priority_63 : decode b_Mo_priority 63 = .ok (.iconst 0, 1) := by decide +kernel
theorem d_Mo_priority_64 : decode b_Mo_priority 64 = .ok (.istore 5, 2) := by decide +kernel
theorem d_Mo_priority_66 : decode b_Mo_priority 66 = .ok (.iload 5, 2) := by decide +kernel
theorem d_Mo_priority_68 : decode b_Mo_priority 68 = .ok (.aload_n 0, 1) := by decide +kernel
theorem d_Mo_priority_69 : decode b_Mo_priority 69 = .ok (.getfield 51, 3) := by decide +kernel
theorem d_Mo_priority_72 : decode b_Mo_priority 72 = .ok (.iload_n 3, 1) := by decide +kernel
theorem d_Mo_priority_73 : decode b_Mo_priority 73 = .ok (.iconst 1, 1) := by decide +kernel
theorem d_Mo_priority_74 : decode b_Mo_priority 74 = .ok (.iadd, 1) := by decide +kernel
theorem d_Mo_priority_75 : decode b_Mo_priority 75 = .ok (.iaload, 1) := by decide +kernel
theorem d_Mo_priority_76 : decode b_Mo_priority 76 = .ok (.if_icmp .ge 36, 3) := by decide +kernel
theorem d_Mo_priority_79 : decode b_Mo_priority 79 = .ok (.iload 4, 2) := by decide +kernel
theorem d_Mo_priority_81 : decode b_Mo_priority 81 = .ok (.ifCond .eq 22, 3) := by decide +kernel
theorem d_Mo_priority_84 : decode b_Mo_priority 84 = .ok (.aload_n 0, 1) := by decide +kernel
theorem d_Mo_priority_85 : decode b_Mo_priority 85 = .ok (.iload_n 3, 1) := by decide +kernel
theorem d_Mo_priority_86 : decode b_Mo_priority 86 = .ok (.iconst 2, 1) := by decide +kernel
theorem d_Mo_priority_87 : decode b_Mo_priority 87 = .ok (.iadd, 1) := by decide +kernel
theorem d_Mo_priority_88 : decode b_Mo_priority 88 = .ok (.iconst 3, 1) := by decide +kernel
theorem d_Mo_priority_89 : decode b_Mo_priority 89 = .ok (.iload 5, 2) := by decide +kernel
theorem d_Mo_priority_91 : decode b_Mo_priority 91 = .ok (.imul, 1) := by decide +kernel
theorem d_Mo_priority_92 : decode b_Mo_priority 92 = .ok (.iadd, 1) := by decide +kernel
theorem d_Mo_priority_93 : decode b_Mo_priority 93 = .ok (.invokevirtual 167, 3) := by decide +kernel
theorem d_Mo_priority_96 : decode b_Mo_priority 96 = .ok (.ifCond .eq 7, 3) := by decide +kernel
theorem d_Mo_priority_99 : decode b_Mo_priority 99 = .ok (.iconst 1, 1) := by decide +kernel
theorem d_Mo_priority_100 : decode b_Mo_priority 100 = .ok (.goto 4, 3) := by decide +kernel
theorem d_Mo_priority_103 : decode b_Mo_priority 103 = .ok (.iconst 0, 1) := by decide +kernel
theorem d_Mo_priority_104 : decode b_Mo_priority 104 = .ok (.istore 4, 2) := by decide +kernel
theorem d_Mo_priority_106 : decode b_Mo_priority 106 = .ok (.iinc 5 1, 3) := by decide +kernel
theorem d_Mo_priority_109 : decode b_Mo_priority 109 = .ok (.goto (-43), 3) := by decide +kernel
theorem d_Mo_priority_112 : decode b_Mo_priority 112 = .ok (.iload 4, 2) := by decide +kernel
theorem d_Mo_priority_114 : decode b_Mo_priority 114 = .ok (.ifCond .eq 10, 3) := by decide +kernel
theorem d_Mo_priority_117 : decode b_Mo_priority 117 = .ok (.aload_n 0, 1) := by decide +kernel
theorem d_Mo_priority_118 : decode b_Mo_priority 118 = .ok (.getfield 51, 3) := by decide +kernel
theorem d_Mo_priority_121 : decode b_Mo_priority 121 = .ok (.iload_n 3, 1) := by decide +kernel
theorem d_Mo_priority_122 : decode b_Mo_priority 122 = .ok (.iaload, 1) := by decide +kernel
theorem d_Mo_priority_123 : decode b_Mo_priority 123 = .ok (.ireturn, 1) := by decide +kernel
theorem d_Mo_priority_124 : decode b_Mo_priority 124 = .ok (.iinc 2 1, 3) := by decide +kernel
theorem d_Mo_priority_127 : decode b_Mo_priority 127 = .ok (.goto (-87), 3) := by decide +kernel
theorem d_Mo_priority_130 : decode b_Mo_priority 130 = .ok (.aload_n 0, 1) := by decide +kernel
theorem d_Mo_priority_131 : decode b_Mo_priority 131 = .ok (.getfield 45, 3) := by decide +kernel
theorem d_Mo_priority_134 : decode b_Mo_priority 134 = .ok (.iload_n 1, 1) := by decide +kernel
theorem d_Mo_priority_135 : decode b_Mo_priority 135 = .ok (.iaload, 1) := by decide +kernel
theorem d_Mo_priority_136 : decode b_Mo_priority 136 = .ok (.ireturn, 1) := by decide +kernel
theorem d_Mo_points_0 : decode b_Mo_points 0 = .ok (.aload_n 0, 1) := by decide +kernel
theorem d_Mo_points_1 : decode b_Mo_points 1 = .ok (.aload_n 0, 1) := by decide +kernel
theorem d_Mo_points_2 : decode b_Mo_points 2 = .ok (.getfield 141, 3) := by decide +kernel
theorem d_Mo_points_5 : decode b_Mo_points 5 = .ok (.ifCond .ne 7, 3) := by decide +kernel
theorem d_Mo_points_8 : decode b_Mo_points 8 = .ok (.iconst 1, 1) := by decide +kernel
theorem d_Mo_points_9 : decode b_Mo_points 9 = .ok (.goto 4, 3) := by decide +kernel
theorem d_Mo_points_12 : decode b_Mo_points 12 = .ok (.iconst 0, 1) := by decide +kernel
theorem d_Mo_points_13 : decode b_Mo_points 13 = .ok (.putfield 69, 3) := by decide +kernel
theorem d_Mo_points_16 : decode b_Mo_points 16 = .ok (.aload_n 0, 1) := by decide +kernel
theorem d_Mo_points_17 : decode b_Mo_points 17 = .ok (.getfield 69, 3) := by decide +kernel
theorem d_Mo_points_20 : decode b_Mo_points 20 = .ok (.ifCond .le 7, 3) := by decide +kernel
theorem d_Mo_points_23 : decode b_Mo_points 23 = .ok (.iconst 0, 1) := by decide +kernel
theorem d_Mo_points_24 : decode b_Mo_points 24 = .ok (.goto 7, 3) := by decide +kernel
theorem d_Mo_points_27 : decode b_Mo_points 27 = .ok (.aload_n 0, 1) := by decide +kernel
theorem d_Mo_points_28 : decode b_Mo_points 28 = .ok (.getfield 161, 3) := by decide +kernel
theorem d_Mo_points_31 : decode b_Mo_points 31 = .ok (.ireturn, 1) := by decide +kernel
theorem d_Mo_asked_0 : decode b_Mo_asked 0 = .ok (.aload_n 0, 1) := by decide +kernel
theorem d_Mo_asked_1 : decode b_Mo_asked 1 = .ok (.iload_n 1, 1) := by decide +kernel
theorem d_Mo_asked_2 : decode b_Mo_asked 2 = .ok (.ifCond .lt 7, 3) := by decide +kernel
theorem d_Mo_asked_5 : decode b_Mo_asked 5 = .ok (.iconst 1, 1) := by decide +kernel
theorem d_Mo_asked_6 : decode b_Mo_asked 6 = .ok (.goto 4, 3) := by decide +kernel
theorem d_Mo_asked_9 : decode b_Mo_asked 9 = .ok (.iconst 0, 1) := by decide +kernel
theorem d_Mo_asked_10 : decode b_Mo_asked 10 = .ok (.invokevirtual 147, 3) := by decide +kernel
theorem d_Mo_asked_13 : decode b_Mo_asked 13 = .ok (.ifCond .ne 5, 3) := by decide +kernel
theorem d_Mo_asked_16 : decode b_Mo_asked 16 = .ok (.iconst 0, 1) := by decide +kernel
theorem d_Mo_asked_17 : decode b_Mo_asked 17 = .ok (.ireturn, 1) := by decide +kernel
theorem d_Mo_asked_18 : decode b_Mo_asked 18 = .ok (.aload_n 0, 1) := by decide +kernel
theorem d_Mo_asked_19 : decode b_Mo_asked 19 = .ok (.getfield 141, 3) := by decide +kernel
theorem d_Mo_asked_22 : decode b_Mo_asked 22 = .ok (.ifCond .le 20, 3) := by decide +kernel
theorem d_Mo_asked_25 : decode b_Mo_asked 25 = .ok (.iload_n 1, 1) := by decide +kernel
theorem d_Mo_asked_26 : decode b_Mo_asked 26 = .ok (.aload_n 0, 1) := by decide +kernel
theorem d_Mo_asked_27 : decode b_Mo_asked 27 = .ok (.getfield 158, 3) := by decide +kernel
theorem d_Mo_asked_30 : decode b_Mo_asked 30 = .ok (.if_icmp .ge 12, 3) := by decide +kernel
theorem d_Mo_asked_33 : decode b_Mo_asked 33 = .ok (.aload_n 0, 1) := by decide +kernel
theorem d_Mo_asked_34 : decode b_Mo_asked 34 = .ok (.getfield 60, 3) := by decide +kernel
theorem d_Mo_asked_37 : decode b_Mo_asked 37 = .ok (.iload_n 1, 1) := by decide +kernel
theorem d_Mo_asked_38 : decode b_Mo_asked 38 = .ok (.iaload, 1) := by decide +kernel
theorem d_Mo_asked_39 : decode b_Mo_asked 39 = .ok (.goto 4, 3) := by decide +kernel
theorem d_Mo_asked_42 : decode b_Mo_asked 42 = .ok (.iconst 0, 1) := by decide +kernel
theorem d_Mo_asked_43 : decode b_Mo_asked 43 = .ok (.ireturn, 1) := by decide +kernel
theorem d_Mo_spreads_0 : decode b_Mo_spreads 0 = .ok (.iconst 0, 1) := by decide +kernel
theorem d_Mo_spreads_1 : decode b_Mo_spreads 1 = .ok (.istore_n 1, 1) := by decide +kernel
theorem d_Mo_spreads_2 : decode b_Mo_spreads 2 = .ok (.iconst 1, 1) := by decide +kernel
theorem d_Mo_spreads_3 : decode b_Mo_spreads 3 = .ok (.istore_n 2, 1) := by decide +kernel
theorem d_Mo_spreads_4 : decode b_Mo_spreads 4 = .ok (.iload_n 2, 1) := by decide +kernel
theorem d_Mo_spreads_5 : decode b_Mo_spreads 5 = .ok (.ifCond .eq 116, 3) := by decide +kernel
theorem d_Mo_spreads_8 : decode b_Mo_spreads 8 = .ok (.iconst 0, 1) := by decide +kernel
theorem d_Mo_spreads_9 : decode b_Mo_spreads 9 = .ok (.istore_n 2, 1) := by decide +kernel
theorem d_Mo_spreads_10 : decode b_Mo_spreads 10 = .ok (.iconst 1, 1) := by decide +kernel
theorem d_Mo_spreads_11 : decode b_Mo_spreads 11 = .ok (.istore_n 3, 1) := by decide +kernel
theorem d_Mo_spreads_12 : decode b_Mo_spreads 12 = .ok (.iload_n 3, 1) := by decide +kernel
theorem d_Mo_spreads_13 : decode b_Mo_spreads 13 = .ok (.bipush 61, 2) := by decide +kernel
theorem d_Mo_spreads_15 : decode b_Mo_spreads 15 = .ok (.if_icmp .ge 103, 3) := by decide +kernel
theorem d_Mo_spreads_18 : decode b_Mo_spreads 18 = .ok (.aload_n 0, 1) := by decide +kernel
theorem d_Mo_spreads_19 : decode b_Mo_spreads 19 = .ok (.getfield 126, 3) := by decide +kernel
theorem d_Mo_spreads_22 : decode b_Mo_spreads 22 = .ok (.bipush 61, 2) := by decide +kernel
theorem d_Mo_spreads_24 : decode b_Mo_spreads 24 = .ok (.imul, 1) := by decide +kernel
theorem d_Mo_spreads_25 : decode b_Mo_spreads 25 = .ok (.iload_n 3, 1) := by decide +kernel
theorem d_Mo_spreads_26 : decode b_Mo_spreads 26 = .ok (.iadd, 1) := by decide +kernel
theorem d_Mo_spreads_27 : decode b_Mo_spreads 27 = .ok (.istore 4, 2) := by decide +kernel
theorem d_Mo_spreads_29 : decode b_Mo_spreads 29 = .ok (.iconst 0, 1) := by decide +kernel
theorem d_Mo_spreads_30 : decode b_Mo_spreads 30 = .ok (.istore 5, 2) := by decide +kernel
theorem d_Mo_spreads_32 : decode b_Mo_spreads 32 = .ok (.iload 5, 2) := by decide +kernel
theorem d_Mo_spreads_34 : decode b_Mo_spreads 34 = .ok (.aload_n 0, 1) := by decide +kernel
theorem d_Mo_spreads_35 : decode b_Mo_spreads 35 = .ok (.getfield 36, 3) := by decide +kernel
theorem d_Mo_spreads_38 : decode b_Mo_spreads 38 = .ok (.iload 4, 2) := by decide +kernel
theorem d_Mo_spreads_40 : decode b_Mo_spreads 40 = .ok (.iaload, 1) := by decide +kernel
theorem d_Mo_spreads_41 : decode b_Mo_spreads 41 = .ok (.if_icmp .ge 71, 3) := by decide +kernel
theorem d_Mo_spreads_44 : decode b_Mo_spreads 44 = .ok (.aload_n 0, 1) := by decide +kernel
theorem d_Mo_spreads_45 : decode b_Mo_spreads 45 = .ok (.getfield 66, 3) := by decide +kernel
theorem d_Mo_spreads_48 : decode b_Mo_spreads 48 = .ok (.iload_n 3, 1) := by decide +kernel
theorem d_Mo_spreads_49 : decode b_Mo_spreads 49 = .ok (.baload, 1) := by decide +kernel
theorem d_Mo_spreads_50 : decode b_Mo_spreads 50 = .ok (.ifCond .eq 62, 3) := by decide +kernel
theorem d_Mo_spreads_53 : decode b_Mo_spreads 53 = .ok (.aload_n 0, 1) := by decide +kernel
theorem d_Mo_spreads_54 : decode b_Mo_spreads 54 = .ok (.getfield 39, 3) := by decide +kernel
theorem d_Mo_spreads_57 : decode b_Mo_spreads 57 = .ok (.iload 4, 2) := by decide +kernel
theorem d_Mo_spreads_59 : decode b_Mo_spreads 59 = .ok (.bipush 6, 2) := by decide +kernel
theorem d_Mo_spreads_61 : decode b_Mo_spreads 61 = .ok (.imul, 1) := by decide +kernel
theorem d_Mo_spreads_62 : decode b_Mo_spreads 62 = .ok (.iload 5, 2) := by decide +kernel
theorem d_Mo_spreads_64 : decode b_Mo_spreads 64 = .ok (.iadd, 1) := by decide +kernel
theorem d_Mo_spreads_65 : decode b_Mo_spreads 65 = .ok (.iconst 4, 1) := by decide +kernel
theorem d_Mo_spreads_66 : decode b_Mo_spreads 66 = .ok (.imul, 1) := by decide +kernel
theorem d_Mo_spreads_67 : decode b_Mo_spreads 67 = .ok (.iconst 2, 1) := by decide +kernel
theorem d_Mo_spreads_68 : decode b_Mo_spreads 68 = .ok (.iadd, 1) := by decide +kernel
theorem d_Mo_spreads_69 : decode b_Mo_spreads 69 = .ok (.iaload, 1) := by decide +kernel
theorem d_Mo_spreads_70 : decode b_Mo_spreads 70 = .ok (.istore 6, 2) := by decide +kernel
theorem d_Mo_spreads_72 : decode b_Mo_spreads 72 = .ok (.aload_n 0, 1) := by decide +kernel
theorem d_Mo_spreads_73 : decode b_Mo_spreads 73 = .ok (.iload 6, 2) := by decide +kernel
theorem d_Mo_spreads_75 : decode b_Mo_spreads 75 = .ok (.invokevirtual 151, 3) := by decide +kernel
theorem d_Mo_spreads_78 : decode b_Mo_spreads 78 = .ok (.ifCond .ne 8, 3) := by decide +kernel
theorem d_Mo_spreads_81 : decode b_Mo_spreads 81 = .ok (.iconst 1, 1) := by decide +kernel
theorem d_Mo_spreads_82 : decode b_Mo_spreads 82 = .ok (.istore_n 1, 1) := by decide +kernel
theorem d_Mo_spreads_83 : decode b_Mo_spreads 83 = .ok (.goto 23, 3) := by decide +kernel
theorem d_Mo_spreads_86 : decode b_Mo_spreads 86 = .ok (.aload_n 0, 1) := by decide +kernel
theorem d_Mo_spreads_87 : decode b_Mo_spreads 87 = .ok (.getfield 66, 3) := by decide +kernel
theorem d_Mo_spreads_90 : decode b_Mo_spreads 90 = .ok (.iload 6, 2) := by decide +kernel
theorem d_Mo_spreads_92 : decode b_Mo_spreads 92 = .ok (.baload, 1) := by decide +kernel
theorem d_Mo_spreads_93 : decode b_Mo_spreads 93 = .ok (.ifCond .ne 13, 3) := by decide +kernel
theorem d_Mo_spreads_96 : decode b_Mo_spreads 96 = .ok (.aload_n 0, 1) := by decide +kernel
theorem d_Mo_spreads_97 : decode b_Mo_spreads 97 = .ok (.getfield 66, 3) := by decide +kernel
theorem d_Mo_spreads_100 : decode b_Mo_spreads 100 = .ok (.iload 6, 2) := by decide +kernel
theorem d_Mo_spreads_102 : decode b_Mo_spreads 102 = .ok (.iconst 1, 1) := by decide +kernel
theorem d_Mo_spreads_103 : decode b_Mo_spreads 103 = .ok (.bastore, 1) := by decide +kernel
theorem d_Mo_spreads_104 : decode b_Mo_spreads 104 = .ok (.iconst 1, 1) := by decide +kernel
theorem d_Mo_spreads_105 : decode b_Mo_spreads 105 = .ok (.istore_n 2, 1) := by decide +kernel
theorem d_Mo_spreads_106 : decode b_Mo_spreads 106 = .ok (.iinc 5 1, 3) := by decide +kernel
theorem d_Mo_spreads_109 : decode b_Mo_spreads 109 = .ok (.goto (-77), 3) := by decide +kernel
theorem d_Mo_spreads_112 : decode b_Mo_spreads 112 = .ok (.iinc 3 1, 3) := by decide +kernel
theorem d_Mo_spreads_115 : decode b_Mo_spreads 115 = .ok (.goto (-103), 3) := by decide +kernel
theorem d_Mo_spreads_118 : decode b_Mo_spreads 118 = .ok (.goto (-114), 3) := by decide +kernel
theorem d_Mo_spreads_121 : decode b_Mo_spreads 121 = .ok (.iload_n 1, 1) := by decide +kernel
theorem d_Mo_spreads_122 : decode b_Mo_spreads 122 = .ok (.ireturn, 1) := by decide +kernel
theorem d_Mo_unmark_0 : decode b_Mo_unmark 0 = .ok (.iconst 0, 1) := by decide +kernel
theorem d_Mo_unmark_1 : decode b_Mo_unmark 1 = .ok (.istore_n 1, 1) := by decide +kernel
theorem d_Mo_unmark_2 : decode b_Mo_unmark 2 = .ok (.iload_n 1, 1) := by decide +kernel
theorem d_Mo_unmark_3 : decode b_Mo_unmark 3 = .ok (.bipush 61, 2) := by decide +kernel
theorem d_Mo_unmark_5 : decode b_Mo_unmark 5 = .ok (.if_icmp .ge 16, 3) := by decide +kernel
theorem d_Mo_unmark_8 : decode b_Mo_unmark 8 = .ok (.aload_n 0, 1) := by decide +kernel
theorem d_Mo_unmark_9 : decode b_Mo_unmark 9 = .ok (.getfield 66, 3) := by decide +kernel
theorem d_Mo_unmark_12 : decode b_Mo_unmark 12 = .ok (.iload_n 1, 1) := by decide +kernel
theorem d_Mo_unmark_13 : decode b_Mo_unmark 13 = .ok (.iconst 0, 1) := by decide +kernel
theorem d_Mo_unmark_14 : decode b_Mo_unmark 14 = .ok (.bastore, 1) := by decide +kernel
theorem d_Mo_unmark_15 : decode b_Mo_unmark 15 = .ok (.iinc 1 1, 3) := by decide +kernel
theorem d_Mo_unmark_18 : decode b_Mo_unmark 18 = .ok (.goto (-16), 3) := by decide +kernel
theorem d_Mo_unmark_21 : decode b_Mo_unmark 21 = .ok (.return_, 1) := by decide +kernel
theorem d_Mo_loops_0 : decode b_Mo_loops 0 = .ok (.aload_n 0, 1) := by decide +kernel
theorem d_Mo_loops_1 : decode b_Mo_loops 1 = .ok (.invokevirtual 170, 3) := by decide +kernel
theorem d_Mo_loops_4 : decode b_Mo_loops 4 = .ok (.aload_n 0, 1) := by decide +kernel
theorem d_Mo_loops_5 : decode b_Mo_loops 5 = .ok (.getfield 126, 3) := by decide +kernel
theorem d_Mo_loops_8 : decode b_Mo_loops 8 = .ok (.bipush 61, 2) := by decide +kernel
theorem d_Mo_loops_10 : decode b_Mo_loops 10 = .ok (.imul, 1) := by decide +kernel
theorem d_Mo_loops_11 : decode b_Mo_loops 11 = .ok (.iload_n 1, 1) := by decide +kernel
theorem d_Mo_loops_12 : decode b_Mo_loops 12 = .ok (.iadd, 1) := by decide +kernel
theorem d_Mo_loops_13 : decode b_Mo_loops 13 = .ok (.istore_n 2, 1) := by decide +kernel
theorem d_Mo_loops_14 : decode b_Mo_loops 14 = .ok (.iconst 0, 1) := by decide +kernel
theorem d_Mo_loops_15 : decode b_Mo_loops 15 = .ok (.istore_n 3, 1) := by decide +kernel
theorem d_Mo_loops_16 : decode b_Mo_loops 16 = .ok (.iload_n 3, 1) := by decide +kernel
theorem d_Mo_loops_17 : decode b_Mo_loops 17 = .ok (.aload_n 0, 1) := by decide +kernel
theorem d_Mo_loops_18 : decode b_Mo_loops 18 = .ok (.getfield 36, 3) := by decide +kernel
theorem d_Mo_loops_21 : decode b_Mo_loops 21 = .ok (.iload_n 2, 1) := by decide +kernel
theorem d_Mo_loops_22 : decode b_Mo_loops 22 = .ok (.iaload, 1) := by decide +kernel
theorem d_Mo_loops_23 : decode b_Mo_loops 23 = .ok (.if_icmp .ge 43, 3) := by decide +kernel
theorem d_Mo_loops_26 : decode b_Mo_loops 26 = .ok (.aload_n 0, 1) := by decide +kernel
theorem d_Mo_loops_27 : decode b_Mo_loops 27 = .ok (.getfield 39, 3) := by decide +kernel
theorem d_Mo_loops_30 : decode b_Mo_loops 30 = .ok (.iload_n 2, 1) := by decide +kernel
theorem d_Mo_loops_31 : decode b_Mo_loops 31 = .ok (.bipush 6, 2) := by decide +kernel
theorem d_Mo_loops_33 : decode b_Mo_loops 33 = .ok (.imul, 1) := by decide +kernel
theorem d_Mo_loops_34 : decode b_Mo_loops 34 = .ok (.iload_n 3, 1) := by decide +kernel
theorem d_Mo_loops_35 : decode b_Mo_loops 35 = .ok (.iadd, 1) := by decide +kernel
theorem d_Mo_loops_36 : decode b_Mo_loops 36 = .ok (.iconst 4, 1) := by decide +kernel
theorem d_Mo_loops_37 : decode b_Mo_loops 37 = .ok (.imul, 1) := by decide +kernel
theorem d_Mo_loops_38 : decode b_Mo_loops 38 = .ok (.iconst 2, 1) := by decide +kernel
theorem d_Mo_loops_39 : decode b_Mo_loops 39 = .ok (.iadd, 1) := by decide +kernel
theorem d_Mo_loops_40 : decode b_Mo_loops 40 = .ok (.iaload, 1) := by decide +kernel
theorem d_Mo_loops_41 : decode b_Mo_loops 41 = .ok (.istore 4, 2) := by decide +kernel
theorem d_Mo_loops_43 : decode b_Mo_loops 43 = .ok (.aload_n 0, 1) := by decide +kernel
theorem d_Mo_loops_44 : decode b_Mo_loops 44 = .ok (.iload 4, 2) := by decide +kernel
theorem d_Mo_loops_46 : decode b_Mo_loops 46 = .ok (.invokevirtual 151, 3) := by decide +kernel
theorem d_Mo_loops_49 : decode b_Mo_loops 49 = .ok (.ifCond .eq 11, 3) := by decide +kernel
theorem d_Mo_loops_52 : decode b_Mo_loops 52 = .ok (.aload_n 0, 1) := by decide +kernel
theorem d_Mo_loops_53 : decode b_Mo_loops 53 = .ok (.getfield 66, 3) := by decide +kernel
theorem d_Mo_loops_56 : decode b_Mo_loops 56 = .ok (.iload 4, 2) := by decide +kernel
theorem d_Mo_loops_58 : decode b_Mo_loops 58 = .ok (.iconst 1, 1) := by decide +kernel
theorem d_Mo_loops_59 : decode b_Mo_loops 59 = .ok (.bastore, 1) := by decide +kernel
theorem d_Mo_loops_60 : decode b_Mo_loops 60 = .ok (.iinc 3 1, 3) := by decide +kernel
theorem d_Mo_loops_63 : decode b_Mo_loops 63 = .ok (.goto (-47), 3) := by decide +kernel
theorem d_Mo_loops_66 : decode b_Mo_loops 66 = .ok (.aload_n 0, 1) := by decide +kernel
theorem d_Mo_loops_67 : decode b_Mo_loops 67 = .ok (.invokevirtual 173, 3) := by decide +kernel
theorem d_Mo_loops_70 : decode b_Mo_loops 70 = .ok (.istore_n 3, 1) := by decide +kernel
theorem d_Mo_loops_71 : decode b_Mo_loops 71 = .ok (.aload_n 0, 1) := by decide +kernel
theorem d_Mo_loops_72 : decode b_Mo_loops 72 = .ok (.getfield 66, 3) := by decide +kernel
theorem d_Mo_loops_75 : decode b_Mo_loops 75 = .ok (.iload_n 1, 1) := by decide +kernel
theorem d_Mo_loops_76 : decode b_Mo_loops 76 = .ok (.baload, 1) := by decide +kernel
theorem d_Mo_loops_77 : decode b_Mo_loops 77 = .ok (.ireturn, 1) := by decide +kernel
theorem d_Mo_loop_0 : decode b_Mo_loop 0 = .ok (.aload_n 0, 1) := by decide +kernel
theorem d_Mo_loop_1 : decode b_Mo_loop 1 = .ok (.iload_n 1, 1) := by decide +kernel
theorem d_Mo_loop_2 : decode b_Mo_loop 2 = .ok (.ifCond .lt 7, 3) := by decide +kernel
theorem d_Mo_loop_5 : decode b_Mo_loop 5 = .ok (.iconst 1, 1) := by decide +kernel
theorem d_Mo_loop_6 : decode b_Mo_loop 6 = .ok (.goto 4, 3) := by decide +kernel
theorem d_Mo_loop_9 : decode b_Mo_loop 9 = .ok (.iconst 0, 1) := by decide +kernel
theorem d_Mo_loop_10 : decode b_Mo_loop 10 = .ok (.invokevirtual 147, 3) := by decide +kernel
theorem d_Mo_loop_13 : decode b_Mo_loop 13 = .ok (.ifCond .ne 5, 3) := by decide +kernel
theorem d_Mo_loop_16 : decode b_Mo_loop 16 = .ok (.iconst 0, 1) := by decide +kernel
theorem d_Mo_loop_17 : decode b_Mo_loop 17 = .ok (.ireturn, 1) := by decide +kernel
theorem d_Mo_loop_18 : decode b_Mo_loop 18 = .ok (.iload_n 1, 1) := by decide +kernel
theorem d_Mo_loop_19 : decode b_Mo_loop 19 = .ok (.istore_n 2, 1) := by decide +kernel
theorem d_Mo_loop_20 : decode b_Mo_loop 20 = .ok (.iconst 1, 1) := by decide +kernel
theorem d_Mo_loop_21 : decode b_Mo_loop 21 = .ok (.istore_n 3, 1) := by decide +kernel
theorem d_Mo_loop_22 : decode b_Mo_loop 22 = .ok (.iload_n 3, 1) := by decide +kernel
theorem d_Mo_loop_23 : decode b_Mo_loop 23 = .ok (.bipush 61, 2) := by decide +kernel
theorem d_Mo_loop_25 : decode b_Mo_loop 25 = .ok (.if_icmp .ge 37, 3) := by decide +kernel
theorem d_Mo_loop_28 : decode b_Mo_loop 28 = .ok (.aload_n 0, 1) := by decide +kernel
theorem d_Mo_loop_29 : decode b_Mo_loop 29 = .ok (.iload_n 3, 1) := by decide +kernel
theorem d_Mo_loop_30 : decode b_Mo_loop 30 = .ok (.invokevirtual 151, 3) := by decide +kernel
theorem d_Mo_loop_33 : decode b_Mo_loop 33 = .ok (.ifCond .eq 23, 3) := by decide +kernel
theorem d_Mo_loop_36 : decode b_Mo_loop 36 = .ok (.aload_n 0, 1) := by decide +kernel
theorem d_Mo_loop_37 : decode b_Mo_loop 37 = .ok (.iload_n 3, 1) := by decide +kernel
theorem d_Mo_loop_38 : decode b_Mo_loop 38 = .ok (.invokevirtual 176, 3) := by decide +kernel
theorem d_Mo_loop_41 : decode b_Mo_loop 41 = .ok (.ifCond .ne 6, 3) := by decide +kernel
theorem d_Mo_loop_44 : decode b_Mo_loop 44 = .ok (.goto 12, 3) := by decide +kernel
theorem d_Mo_loop_47 : decode b_Mo_loop 47 = .ok (.iload_n 2, 1) := by decide +kernel
theorem d_Mo_loop_48 : decode b_Mo_loop 48 = .ok (.ifCond .ne 5, 3) := by decide +kernel
theorem d_Mo_loop_51 : decode b_Mo_loop 51 = .ok (.iload_n 3, 1) := by decide +kernel
theorem d_Mo_loop_52 : decode b_Mo_loop 52 = .ok (.ireturn, 1) := by decide +kernel
theorem d_Mo_loop_53 : decode b_Mo_loop 53 = .ok (.iinc 2 (-1), 3) := by decide +kernel
theorem d_Mo_loop_56 : decode b_Mo_loop 56 = .ok (.iinc 3 1, 3) := by decide +kernel
theorem d_Mo_loop_59 : decode b_Mo_loop 59 = .ok (.goto (-37), 3) := by decide +kernel
theorem d_Mo_loop_62 : decode b_Mo_loop 62 = .ok (.iconst 0, 1) := by decide +kernel
theorem d_Mo_loop_63 : decode b_Mo_loop 63 = .ok (.ireturn, 1) := by decide +kernel
theorem d_Mo_never_0 : decode b_Mo_never 0 = .ok (.aload_n 0, 1) := by decide +kernel
theorem d_Mo_never_1 : decode b_Mo_never 1 = .ok (.iload_n 1, 1) := by decide +kernel
theorem d_Mo_never_2 : decode b_Mo_never 2 = .ok (.ifCond .lt 7, 3) := by decide +kernel
theorem d_Mo_never_5 : decode b_Mo_never 5 = .ok (.iconst 1, 1) := by decide +kernel
theorem d_Mo_never_6 : decode b_Mo_never 6 = .ok (.goto 4, 3) := by decide +kernel
theorem d_Mo_never_9 : decode b_Mo_never 9 = .ok (.iconst 0, 1) := by decide +kernel
theorem d_Mo_never_10 : decode b_Mo_never 10 = .ok (.invokevirtual 147, 3) := by decide +kernel
theorem d_Mo_never_13 : decode b_Mo_never 13 = .ok (.ifCond .ne 5, 3) := by decide +kernel
theorem d_Mo_never_16 : decode b_Mo_never 16 = .ok (.iconst 0, 1) := by decide +kernel
theorem d_Mo_never_17 : decode b_Mo_never 17 = .ok (.ireturn, 1) := by decide +kernel
theorem d_Mo_never_18 : decode b_Mo_never 18 = .ok (.aload_n 0, 1) := by decide +kernel
theorem d_Mo_never_19 : decode b_Mo_never 19 = .ok (.invokevirtual 170, 3) := by decide +kernel
theorem d_Mo_never_22 : decode b_Mo_never 22 = .ok (.iconst 1, 1) := by decide +kernel
theorem d_Mo_never_23 : decode b_Mo_never 23 = .ok (.istore_n 2, 1) := by decide +kernel
theorem d_Mo_never_24 : decode b_Mo_never 24 = .ok (.iload_n 2, 1) := by decide +kernel
theorem d_Mo_never_25 : decode b_Mo_never 25 = .ok (.bipush 10, 2) := by decide +kernel
theorem d_Mo_never_27 : decode b_Mo_never 27 = .ok (.if_icmp .ge 39, 3) := by decide +kernel
theorem d_Mo_never_30 : decode b_Mo_never 30 = .ok (.aload_n 0, 1) := by decide +kernel
theorem d_Mo_never_31 : decode b_Mo_never 31 = .ok (.getfield 42, 3) := by decide +kernel
theorem d_Mo_never_34 : decode b_Mo_never 34 = .ok (.aload_n 0, 1) := by decide +kernel
theorem d_Mo_never_35 : decode b_Mo_never 35 = .ok (.getfield 126, 3) := by decide +kernel
theorem d_Mo_never_38 : decode b_Mo_never 38 = .ok (.bipush 10, 2) := by decide +kernel
theorem d_Mo_never_40 : decode b_Mo_never 40 = .ok (.imul, 1) := by decide +kernel
theorem d_Mo_never_41 : decode b_Mo_never 41 = .ok (.iload_n 2, 1) := by decide +kernel
theorem d_Mo_never_42 : decode b_Mo_never 42 = .ok (.iadd, 1) := by decide +kernel
theorem d_Mo_never_43 : decode b_Mo_never 43 = .ok (.iaload, 1) := by decide +kernel
theorem d_Mo_never_44 : decode b_Mo_never 44 = .ok (.istore_n 3, 1) := by decide +kernel
theorem d_Mo_never_45 : decode b_Mo_never 45 = .ok (.aload_n 0, 1) := by decide +kernel
theorem d_Mo_never_46 : decode b_Mo_never 46 = .ok (.iload_n 3, 1) := by decide +kernel
theorem d_Mo_never_47 : decode b_Mo_never 47 = .ok (.invokevirtual 151, 3) := by decide +kernel
theorem d_Mo_never_50 : decode b_Mo_never 50 = .ok (.ifCond .eq 10, 3) := by decide +kernel
theorem d_Mo_never_53 : decode b_Mo_never 53 = .ok (.aload_n 0, 1) := by decide +kernel
theorem d_Mo_never_54 : decode b_Mo_never 54 = .ok (.getfield 66, 3) := by decide +kernel
theorem d_Mo_never_57 : decode b_Mo_never 57 = .ok (.iload_n 3, 1) := by decide +kernel
theorem d_Mo_never_58 : decode b_Mo_never 58 = .ok (.iconst 1, 1) := by decide +kernel
theorem d_Mo_never_59 : decode b_Mo_never 59 = .ok (.bastore, 1) := by decide +kernel
theorem d_Mo_never_60 : decode b_Mo_never 60 = .ok (.iinc 2 1, 3) := by decide +kernel
theorem d_Mo_never_63 : decode b_Mo_never 63 = .ok (.goto (-39), 3) := by decide +kernel
theorem d_Mo_never_66 : decode b_Mo_never 66 = .ok (.aload_n 0, 1) := by decide +kernel
theorem d_Mo_never_67 : decode b_Mo_never 67 = .ok (.invokevirtual 173, 3) := by decide +kernel
theorem d_Mo_never_70 : decode b_Mo_never 70 = .ok (.istore_n 2, 1) := by decide +kernel
theorem d_Mo_never_71 : decode b_Mo_never 71 = .ok (.iload_n 1, 1) := by decide +kernel
theorem d_Mo_never_72 : decode b_Mo_never 72 = .ok (.istore_n 3, 1) := by decide +kernel
theorem d_Mo_never_73 : decode b_Mo_never 73 = .ok (.iconst 1, 1) := by decide +kernel
theorem d_Mo_never_74 : decode b_Mo_never 74 = .ok (.istore 4, 2) := by decide +kernel
theorem d_Mo_never_76 : decode b_Mo_never 76 = .ok (.iload 4, 2) := by decide +kernel
theorem d_Mo_never_78 : decode b_Mo_never 78 = .ok (.bipush 61, 2) := by decide +kernel
theorem d_Mo_never_80 : decode b_Mo_never 80 = .ok (.if_icmp .ge 41, 3) := by decide +kernel
theorem d_Mo_never_83 : decode b_Mo_never 83 = .ok (.aload_n 0, 1) := by decide +kernel
theorem d_Mo_never_84 : decode b_Mo_never 84 = .ok (.iload 4, 2) := by decide +kernel
theorem d_Mo_never_86 : decode b_Mo_never 86 = .ok (.invokevirtual 151, 3) := by decide +kernel
theorem d_Mo_never_89 : decode b_Mo_never 89 = .ok (.ifCond .eq 26, 3) := by decide +kernel
theorem d_Mo_never_92 : decode b_Mo_never 92 = .ok (.aload_n 0, 1) := by decide +kernel
theorem d_Mo_never_93 : decode b_Mo_never 93 = .ok (.getfield 66, 3) := by decide +kernel
theorem d_Mo_never_96 : decode b_Mo_never 96 = .ok (.iload 4, 2) := by decide +kernel
theorem d_Mo_never_98 : decode b_Mo_never 98 = .ok (.baload, 1) := by decide +kernel
theorem d_Mo_never_99 : decode b_Mo_never 99 = .ok (.ifCond .eq 6, 3) := by decide +kernel
theorem d_Mo_never_102 : decode b_Mo_never 102 = .ok (.goto 13, 3) := by decide +kernel
theorem d_Mo_never_105 : decode b_Mo_never 105 = .ok (.iload_n 3, 1) := by decide +kernel
theorem d_Mo_never_106 : decode b_Mo_never 106 = .ok (.ifCond .ne 6, 3) := by decide +kernel
theorem d_Mo_never_109 : decode b_Mo_never 109 = .ok (.iload 4, 2) := by decide +kernel
theorem d_Mo_never_111 : decode b_Mo_never 111 = .ok (.ireturn, 1) := by decide +kernel
theorem d_Mo_never_112 : decode b_Mo_never 112 = .ok (.iinc 3 (-1), 3) := by decide +kernel
theorem d_Mo_never_115 : decode b_Mo_never 115 = .ok (.iinc 4 1, 3) := by decide +kernel
theorem d_Mo_never_118 : decode b_Mo_never 118 = .ok (.goto (-42), 3) := by decide +kernel
theorem d_Mo_never_121 : decode b_Mo_never 121 = .ok (.iconst 0, 1) := by decide +kernel
theorem d_Mo_never_122 : decode b_Mo_never 122 = .ok (.ireturn, 1) := by decide +kernel
theorem d_Mo_endless_0 : decode b_Mo_endless 0 = .ok (.aload_n 0, 1) := by decide +kernel
theorem d_Mo_endless_1 : decode b_Mo_endless 1 = .ok (.iload_n 1, 1) := by decide +kernel
theorem d_Mo_endless_2 : decode b_Mo_endless 2 = .ok (.ifCond .lt 7, 3) := by decide +kernel
theorem d_Mo_endless_5 : decode b_Mo_endless 5 = .ok (.iconst 1, 1) := by decide +kernel
theorem d_Mo_endless_6 : decode b_Mo_endless 6 = .ok (.goto 4, 3) := by decide +kernel
theorem d_Mo_endless_9 : decode b_Mo_endless 9 = .ok (.iconst 0, 1) := by decide +kernel
theorem d_Mo_endless_10 : decode b_Mo_endless 10 = .ok (.invokevirtual 147, 3) := by decide +kernel
theorem d_Mo_endless_13 : decode b_Mo_endless 13 = .ok (.ifCond .ne 5, 3) := by decide +kernel
theorem d_Mo_endless_16 : decode b_Mo_endless 16 = .ok (.iconst 0, 1) := by decide +kernel
theorem d_Mo_endless_17 : decode b_Mo_endless 17 = .ok (.ireturn, 1) := by decide +kernel
theorem d_Mo_endless_18 : decode b_Mo_endless 18 = .ok (.iload_n 1, 1) := by decide +kernel
theorem d_Mo_endless_19 : decode b_Mo_endless 19 = .ok (.istore_n 2, 1) := by decide +kernel
theorem d_Mo_endless_20 : decode b_Mo_endless 20 = .ok (.iconst 1, 1) := by decide +kernel
theorem d_Mo_endless_21 : decode b_Mo_endless 21 = .ok (.istore_n 3, 1) := by decide +kernel
theorem d_Mo_endless_22 : decode b_Mo_endless 22 = .ok (.iload_n 3, 1) := by decide +kernel
theorem d_Mo_endless_23 : decode b_Mo_endless 23 = .ok (.bipush 10, 2) := by decide +kernel
theorem d_Mo_endless_25 : decode b_Mo_endless 25 = .ok (.if_icmp .ge 68, 3) := by decide +kernel
theorem d_Mo_endless_28 : decode b_Mo_endless 28 = .ok (.aload_n 0, 1) := by decide +kernel
theorem d_Mo_endless_29 : decode b_Mo_endless 29 = .ok (.getfield 42, 3) := by decide +kernel
theorem d_Mo_endless_32 : decode b_Mo_endless 32 = .ok (.aload_n 0, 1) := by decide +kernel
theorem d_Mo_endless_33 : decode b_Mo_endless 33 = .ok (.getfield 126, 3) := by decide +kernel
theorem d_Mo_endless_36 : decode b_Mo_endless 36 = .ok (.bipush 10, 2) := by decide +kernel
theorem d_Mo_endless_38 : decode b_Mo_endless 38 = .ok (.imul, 1) := by decide +kernel
theorem d_Mo_endless_39 : decode b_Mo_endless 39 = .ok (.iload_n 3, 1) := by decide +kernel
theorem d_Mo_endless_40 : decode b_Mo_endless 40 = .ok (.iadd, 1) := by decide +kernel
theorem d_Mo_endless_41 : decode b_Mo_endless 41 = .ok (.iaload, 1) := by decide +kernel
theorem d_Mo_endless_42 : decode b_Mo_endless 42 = .ok (.istore 4, 2) := by decide +kernel
theorem d_Mo_endless_44 : decode b_Mo_endless 44 = .ok (.aload_n 0, 1) := by decide +kernel
theorem d_Mo_endless_45 : decode b_Mo_endless 45 = .ok (.iload 4, 2) := by decide +kernel
theorem d_Mo_endless_47 : decode b_Mo_endless 47 = .ok (.invokevirtual 151, 3) := by decide +kernel
theorem d_Mo_endless_50 : decode b_Mo_endless 50 = .ok (.ifCond .ne 6, 3) := by decide +kernel
theorem d_Mo_endless_53 : decode b_Mo_endless 53 = .ok (.goto 34, 3) := by decide +kernel
theorem d_Mo_endless_56 : decode b_Mo_endless 56 = .ok (.aload_n 0, 1) := by decide +kernel
theorem d_Mo_endless_57 : decode b_Mo_endless 57 = .ok (.invokevirtual 170, 3) := by decide +kernel
theorem d_Mo_endless_60 : decode b_Mo_endless 60 = .ok (.aload_n 0, 1) := by decide +kernel
theorem d_Mo_endless_61 : decode b_Mo_endless 61 = .ok (.getfield 66, 3) := by decide +kernel
theorem d_Mo_endless_64 : decode b_Mo_endless 64 = .ok (.iload 4, 2) := by decide +kernel
theorem d_Mo_endless_66 : decode b_Mo_endless 66 = .ok (.iconst 1, 1) := by decide +kernel
theorem d_Mo_endless_67 : decode b_Mo_endless 67 = .ok (.bastore, 1) := by decide +kernel
theorem d_Mo_endless_68 : decode b_Mo_endless 68 = .ok (.aload_n 0, 1) := by decide +kernel
theorem d_Mo_endless_69 : decode b_Mo_endless 69 = .ok (.invokevirtual 173, 3) := by decide +kernel
theorem d_Mo_endless_72 : decode b_Mo_endless 72 = .ok (.ifCond .eq 6, 3) := by decide +kernel
theorem d_Mo_endless_75 : decode b_Mo_endless 75 = .ok (.goto 12, 3) := by decide +kernel
theorem d_Mo_endless_78 : decode b_Mo_endless 78 = .ok (.iload_n 2, 1) := by decide +kernel
theorem d_Mo_endless_79 : decode b_Mo_endless 79 = .ok (.ifCond .ne 5, 3) := by decide +kernel
theorem d_Mo_endless_82 : decode b_Mo_endless 82 = .ok (.iload_n 3, 1) := by decide +kernel
theorem d_Mo_endless_83 : decode b_Mo_endless 83 = .ok (.ireturn, 1) := by decide +kernel
theorem d_Mo_endless_84 : decode b_Mo_endless 84 = .ok (.iinc 2 (-1), 3) := by decide +kernel
theorem d_Mo_endless_87 : decode b_Mo_endless 87 = .ok (.iinc 3 1, 3) := by decide +kernel
theorem d_Mo_endless_90 : decode b_Mo_endless 90 = .ok (.goto (-68), 3) := by decide +kernel
theorem d_Mo_endless_93 : decode b_Mo_endless 93 = .ok (.iconst 0, 1) := by decide +kernel
theorem d_Mo_endless_94 : decode b_Mo_endless 94 = .ok (.ireturn, 1) := by decide +kernel
theorem d_Mo_word_0 : decode b_Mo_word 0 = .ok (.aload_n 0, 1) := by decide +kernel
theorem d_Mo_word_1 : decode b_Mo_word 1 = .ok (.iload_n 1, 1) := by decide +kernel
theorem d_Mo_word_2 : decode b_Mo_word 2 = .ok (.iconst 1, 1) := by decide +kernel
theorem d_Mo_word_3 : decode b_Mo_word 3 = .ok (.bipush 60, 2) := by decide +kernel
theorem d_Mo_word_5 : decode b_Mo_word 5 = .ok (.invokestatic 72, 3) := by decide +kernel
theorem d_Mo_word_8 : decode b_Mo_word 8 = .ok (.ifCond .eq 42, 3) := by decide +kernel
theorem d_Mo_word_11 : decode b_Mo_word 11 = .ok (.aload_n 0, 1) := by decide +kernel
theorem d_Mo_word_12 : decode b_Mo_word 12 = .ok (.iload_n 1, 1) := by decide +kernel
theorem d_Mo_word_13 : decode b_Mo_word 13 = .ok (.iconst 1, 1) := by decide +kernel
theorem d_Mo_word_14 : decode b_Mo_word 14 = .ok (.bipush 60, 2) := by decide +kernel
theorem d_Mo_word_16 : decode b_Mo_word 16 = .ok (.invokestatic 72, 3) := by decide +kernel
theorem d_Mo_word_19 : decode b_Mo_word 19 = .ok (.ifCond .eq 7, 3) := by decide +kernel
theorem d_Mo_word_22 : decode b_Mo_word 22 = .ok (.iload_n 1, 1) := by decide +kernel
theorem d_Mo_word_23 : decode b_Mo_word 23 = .ok (.goto 4, 3) := by decide +kernel
theorem d_Mo_word_26 : decode b_Mo_word 26 = .ok (.iconst 0, 1) := by decide +kernel
theorem d_Mo_word_27 : decode b_Mo_word 27 = .ok (.invokevirtual 151, 3) := by decide +kernel
theorem d_Mo_word_30 : decode b_Mo_word 30 = .ok (.ifCond .eq 20, 3) := by decide +kernel
theorem d_Mo_word_33 : decode b_Mo_word 33 = .ok (.iload_n 2, 1) := by decide +kernel
theorem d_Mo_word_34 : decode b_Mo_word 34 = .ok (.iconst 0, 1) := by decide +kernel
theorem d_Mo_word_35 : decode b_Mo_word 35 = .ok (.iconst 1, 1) := by decide +kernel
theorem d_Mo_word_36 : decode b_Mo_word 36 = .ok (.invokestatic 72, 3) := by decide +kernel
theorem d_Mo_word_39 : decode b_Mo_word 39 = .ok (.ifCond .eq 11, 3) := by decide +kernel
theorem d_Mo_word_42 : decode b_Mo_word 42 = .ok (.iload_n 3, 1) := by decide +kernel
theorem d_Mo_word_43 : decode b_Mo_word 43 = .ok (.ifCond .lt 7, 3) := by decide +kernel
theorem d_Mo_word_46 : decode b_Mo_word 46 = .ok (.iconst 1, 1) := by decide +kernel
theorem d_Mo_word_47 : decode b_Mo_word 47 = .ok (.goto 4, 3) := by decide +kernel
theorem d_Mo_word_50 : decode b_Mo_word 50 = .ok (.iconst 0, 1) := by decide +kernel
theorem d_Mo_word_51 : decode b_Mo_word 51 = .ok (.invokevirtual 147, 3) := by decide +kernel
theorem d_Mo_word_54 : decode b_Mo_word 54 = .ok (.ifCond .ne 5, 3) := by decide +kernel
theorem d_Mo_word_57 : decode b_Mo_word 57 = .ok (.iconst 0, 1) := by decide +kernel
theorem d_Mo_word_58 : decode b_Mo_word 58 = .ok (.ireturn, 1) := by decide +kernel
theorem d_Mo_word_59 : decode b_Mo_word 59 = .ok (.aload_n 0, 1) := by decide +kernel
theorem d_Mo_word_60 : decode b_Mo_word 60 = .ok (.getfield 126, 3) := by decide +kernel
theorem d_Mo_word_63 : decode b_Mo_word 63 = .ok (.bipush 61, 2) := by decide +kernel
theorem d_Mo_word_65 : decode b_Mo_word 65 = .ok (.imul, 1) := by decide +kernel
theorem d_Mo_word_66 : decode b_Mo_word 66 = .ok (.iload_n 1, 1) := by decide +kernel
theorem d_Mo_word_67 : decode b_Mo_word 67 = .ok (.iadd, 1) := by decide +kernel
theorem d_Mo_word_68 : decode b_Mo_word 68 = .ok (.iconst 2, 1) := by decide +kernel
theorem d_Mo_word_69 : decode b_Mo_word 69 = .ok (.imul, 1) := by decide +kernel
theorem d_Mo_word_70 : decode b_Mo_word 70 = .ok (.istore 4, 2) := by decide +kernel
theorem d_Mo_word_72 : decode b_Mo_word 72 = .ok (.iload_n 2, 1) := by decide +kernel
theorem d_Mo_word_73 : decode b_Mo_word 73 = .ok (.iconst 1, 1) := by decide +kernel
theorem d_Mo_word_74 : decode b_Mo_word 74 = .ok (.if_icmp .ne 18, 3) := by decide +kernel
theorem d_Mo_word_77 : decode b_Mo_word 77 = .ok (.aload_n 0, 1) := by decide +kernel
theorem d_Mo_word_78 : decode b_Mo_word 78 = .ok (.getfield 30, 3) := by decide +kernel
theorem d_Mo_word_81 : decode b_Mo_word 81 = .ok (.iload 4, 2) := by decide +kernel
theorem d_Mo_word_83 : decode b_Mo_word 83 = .ok (.iconst 1, 1) := by decide +kernel
theorem d_Mo_word_84 : decode b_Mo_word 84 = .ok (.iadd, 1) := by decide +kernel
theorem d_Mo_word_85 : decode b_Mo_word 85 = .ok (.iaload, 1) := by decide +kernel
theorem d_Mo_word_86 : decode b_Mo_word 86 = .ok (.ifCond .le 6, 3) := by decide +kernel
theorem d_Mo_word_89 : decode b_Mo_word 89 = .ok (.iinc 4 1, 3) := by decide +kernel
theorem d_Mo_word_92 : decode b_Mo_word 92 = .ok (.iload_n 3, 1) := by decide +kernel
theorem d_Mo_word_93 : decode b_Mo_word 93 = .ok (.aload_n 0, 1) := by decide +kernel
theorem d_Mo_word_94 : decode b_Mo_word 94 = .ok (.getfield 30, 3) := by decide +kernel
theorem d_Mo_word_97 : decode b_Mo_word 97 = .ok (.iload 4, 2) := by decide +kernel
theorem d_Mo_word_99 : decode b_Mo_word 99 = .ok (.iaload, 1) := by decide +kernel
theorem d_Mo_word_100 : decode b_Mo_word 100 = .ok (.if_icmp .ge 18, 3) := by decide +kernel
theorem d_Mo_word_103 : decode b_Mo_word 103 = .ok (.aload_n 0, 1) := by decide +kernel
theorem d_Mo_word_104 : decode b_Mo_word 104 = .ok (.getfield 33, 3) := by decide +kernel
theorem d_Mo_word_107 : decode b_Mo_word 107 = .ok (.iload 4, 2) := by decide +kernel
theorem d_Mo_word_109 : decode b_Mo_word 109 = .ok (.bipush 12, 2) := by decide +kernel
theorem d_Mo_word_111 : decode b_Mo_word 111 = .ok (.imul, 1) := by decide +kernel
theorem d_Mo_word_112 : decode b_Mo_word 112 = .ok (.iload_n 3, 1) := by decide +kernel
theorem d_Mo_word_113 : decode b_Mo_word 113 = .ok (.iadd, 1) := by decide +kernel
theorem d_Mo_word_114 : decode b_Mo_word 114 = .ok (.iaload, 1) := by decide +kernel
theorem d_Mo_word_115 : decode b_Mo_word 115 = .ok (.goto 4, 3) := by decide +kernel
theorem d_Mo_word_118 : decode b_Mo_word 118 = .ok (.iconst (-1), 1) := by decide +kernel
theorem d_Mo_word_119 : decode b_Mo_word 119 = .ok (.ireturn, 1) := by decide +kernel
end
section
-- contracts: what each method asks and gives
def z_rm (v mc ms : Nat) : Room := { frames := 8 + 2 * v, cells := mc, slots := ms, locals := 100 + 64 * v }
def z_Pc (dC : Nat → ClassId) (dI : Nat → Nat → Nat) (k : Nat → ClassId) (sz : Nat) (av : List Value) (ws : va_W) : Array Value → State → Prop := va_Pc av (fun U => U.heap.size = sz ∧ z_E (va_A ws sz) U ∧ va_P (dC, dI) classes ws U.heap ∧ va_K (dC, dI) classes (z_ty k) U ∧ va_D (fun _ => True) ws)
def z_B (dC : Nat → ClassId) (dI : Nat → Nat → Nat) (k : Nat → ClassId) (A : Nat → Prop) (ws : va_W) (t : State) : Prop := va_P (dC, dI) classes ws t.heap ∧ va_K (dC, dI) classes (z_ty k) t ∧ va_D A ws
theorem z_blind {dC : Nat → ClassId} {dI : Nat → Nat → Nat} {k : Nat → ClassId} {sz : Nat} {av : List Value} {ws : va_W} : FrameBlind (z_Pc dC dI k sz av ws) := by
  intro a U g mk q
  obtain ⟨q0, q1, qE, qP, qK, qD⟩ := q
  exact ⟨q0, q1, qE.blind, qP, va_K.moved (u := U) (U := U.calling g mk a) (Vm.Alike.refl U.vm) qK, qD⟩
theorem az_int : Cond.arrayClass .int ∈ z_T := z_in (z_mem 109 (by decide +kernel)) rfl
theorem az_long : Cond.arrayClass .long ∈ z_T := z_in (z_mem 875 (by decide +kernel)) rfl
theorem az_boolean : Cond.arrayClass .boolean ∈ z_T := z_in (z_mem 1107 (by decide +kernel)) rfl
theorem in_Obj : Cond.instanceMethod objectInit ∈ z_T := z_in (z_mem 78 (by decide +kernel)) rfl
theorem m_Obj : Cond.code objectInit ⟨#[0xb1]⟩ 1 none ∈ z_T := z_in (z_mem 79 (by decide +kernel)) rfl
-- the reference: its state is f (int fields) and g (arrays): f 0 thrown, 1 taped, 2 place, 3 editions, 4 chosen, 5 at, 6 wrong, 7 digits, 8 into, 9 kind, 10 now, 11 points, 12 many, g 0 tape, 1 is, 2 must, 3 low, 4 high, 5 length, 6 letter, 7 jumps, 8 jump, 9 begins, 10 base, 11 conditions, 12 condition, 13 toldQuestion, 14 toldKind, 15 asked, 16 answer, 17 mark,
def mw (k : Nat → ClassId) (a : Nat → Nat) (f : Nat → Int32) (g : Nat → Nat → Int32) : va_W := [(a 0, .inr (4, [.int (f 0), .int (f 1), .ref (a 1), .int (f 2), .int (f 3), .int (f 4), .ref (a 2), .ref (a 3), .ref (a 4), .ref (a 5), .ref (a 6), .ref (a 7), .ref (a 8), .ref (a 9), .ref (a 10), .ref (a 11), .ref (a 12), .ref (a 13), .int (f 5), .int (f 6), .int (f 7), .int (f 8), .ref (a 14), .ref (a 15), .int (f 9), .int (f 10), .int (f 11), .int (f 12), .ref (a 16), .ref (a 17), .ref (a 18)])), (a 1, .inl (k 0, 400, .inl (g 0))), (a 2, .inl (k 2, 610, .inl (g 1))), (a 3, .inl (k 2, 610, .inl (g 2))), (a 4, .inl (k 0, 610, .inl (g 3))), (a 5, .inl (k 0, 610, .inl (g 4))), (a 6, .inl (k 0, 1220, .inl (g 5))), (a 7, .inl (k 0, 14640, .inl (g 6))), (a 8, .inl (k 0, 610, .inl (g 7))), (a 9, .inl (k 0, 14640, .inl (g 8))), (a 10, .inl (k 0, 100, .inl (g 9))), (a 11, .inl (k 0, 100, .inl (g 10))), (a 12, .inl (k 0, 100, .inl (g 11))), (a 13, .inl (k 0, 8400, .inl (g 12))), (a 14, .inl (k 2, 61, .inl (g 13))), (a 15, .inl (k 2, 10, .inl (g 14))), (a 16, .inl (k 0, 40, .inl (g 15))), (a 17, .inl (k 0, 61, .inl (g 16))), (a 18, .inl (k 2, 61, .inl (g 17)))]
abbrev ST : Type := Launch × (Nat → ClassId) × (Nat → Nat → Nat) × (Nat → ClassId) × (Nat → Nat)
abbrev CT : Type := ST × Program × Env × State × MethodId × Array Value × List Frame × Method × Code × (Nat → Prop)
abbrev SM : Type := (Nat → Int32) × (Nat → Nat → Int32)
abbrev FT : Type := Nat → Int32
abbrev GT : Type := Nat → Nat → Int32
abbrev ad (T : ST) (j : Nat) : Nat := T.2.2.2.2 j
abbrev mM (T : ST) (f : FT) (g : GT) : va_W := mw T.2.2.2.1 T.2.2.2.2 f g
-- the machine at a place of a method, whatever heap holds the world ws
def zW (C : CT) (R : Room) (nL : Nat) (Q : State → Prop) (cells slots pc : Nat) (loc : List (Nat × Value)) (st : List Value) (ws : va_W) : Prop := match C with
  | ((l, dC, dI, _, _), p, e, s, m, args, below, meth, c, A) => ∀ (H : Heap) (locs : List Loc) (ls : Array Slot), lv_has ls nL loc → va_P (dC, dI) classes ws H → va_D A ws → va_S A s.heap H locs → W p l e R s m args below meth c H locs cells slots Q (F0 m pc ls st)
-- what stays true in a method's body
def cM (C : CT) (own : String) (b : ByteArray) (nL : Nat) (ret : Option FieldType) : Prop := match C with
  | ((_, dC, dI, k, _), p, _, s, m, args, _, meth, c, A) => p.tables.exec = Jvm.exec ∧ c.code = b ∧ meth.sig.returnType = ret ∧ (∀ w ∈ z_T, w.before args s = true) ∧ s.vm.findClass own = some m.cls ∧ meth.locks = false ∧ c.maxLocals = nL ∧ z_E A s ∧ va_K (dC, dI) classes (z_ty k) s ∧ (∀ q : Nat, s.heap.size ≤ q → A q)
def qI (C : CT) (Post : Int32 → FT → GT → Prop) : State → Prop := match C with
  | ((_, dC, dI, k, a), _, _, s, _, args, below, _, _, A) => MQ below (va_Qi (fun (r : Int32) (u : SM) => Post r u.1 u.2) (fun (u : SM) t => z_B dC dI k A (mw k a u.1 u.2) t) A) args s 0 0 A
def qV (C : CT) (Post : FT → GT → Prop) : State → Prop := match C with
  | ((_, dC, dI, k, a), _, _, s, _, args, below, _, _, A) => MQ below (va_Qv (fun (u : SM) => Post u.1 u.2) (fun (u : SM) t => z_B dC dI k A (mw k a u.1 u.2) t) A) args s 0 0 A
-- a method of the reference, from the state f, g
def mI (T : ST) (y : MethodName) (cw : Cond) (v : Nat) (av : List Value) (f : FT) (g : GT) (Post : Int32 → FT → GT → Prop) : Prop := match T with
  | (l, dC, dI, k, a) => ∀ sz : Nat, Met l y (cw :: z_T) (z_rm v 0 0) (z_Pc dC dI k sz av (mw k a f g)) (va_Qi (fun (r : Int32) (u : SM) => Post r u.1 u.2) (fun (u : SM) t => z_B dC dI k (va_A (mw k a f g) sz) (mw k a u.1 u.2) t) (va_A (mw k a f g) sz)) 0 0 (va_A (mw k a f g) sz)
def mV (T : ST) (y : MethodName) (cw : Cond) (v : Nat) (av : List Value) (f : FT) (g : GT) (Post : FT → GT → Prop) : Prop := match T with
  | (l, dC, dI, k, a) => ∀ sz : Nat, Met l y (cw :: z_T) (z_rm v 0 0) (z_Pc dC dI k sz av (mw k a f g)) (va_Qv (fun (u : SM) => Post u.1 u.2) (fun (u : SM) t => z_B dC dI k (va_A (mw k a f g) sz) (mw k a u.1 u.2) t) (va_A (mw k a f g) sz)) 0 0 (va_A (mw k a f g) sz)
end
section
def zn_here (C : CT) (Post : Int32 → FT → GT → Prop) (pc : Nat) (loc : List (Nat × Value)) (st : List Value) (f : FT) (g : GT) : Prop := zW C (z_rm 0 0 0) 1 (qI C Post) 0 0 pc loc st (mM C.1 f g)
set_option maxHeartbeats 1000000 in
set_option maxRecDepth 100000 in
theorem k_Mo_here_0 {C : CT} (X : cM C "QuestionTextModel" b_Mo_here 1 (some .int)) (Post : Int32 → FT → GT → Prop) (f : FT) (g : GT)
    (k_24 : (f 1 ≤ f 5) → zn_here C Post 24 [(0, .ref (ad C.1 0))] [.int (-1)] f g)
    (h_19 : (¬ f 1 ≤ f 5) → vp_in (f 5) 400)
    (k_24_1 : (¬ f 1 ≤ f 5) → zn_here C Post 24 [(0, .ref (ad C.1 0))] [.int (g 0 (f 5 : Int32).toNatClampNeg)] f g) : zn_here C Post 0 [(0, .ref (ad C.1 0))] [] f g := by
  obtain ⟨⟨l, dC, dI, k, a⟩, p, e, s, m, args, below, meth, c, A⟩ := C
  obtain ⟨hx, hb, hr, htz, hown, hlocks, hml, hE, hK, hA⟩ := X
  intro H locs ls hl hP hD hS
  have hl : lv_has ls 1 [(0, .ref (a 0))] := hl
  have hP : va_P (dC, dI) classes (mw k a f g) H := hP
  have hD : va_D A (mw k a f g) := hD
  show W p l e (z_rm 0 0 0) s m args below meth c H locs 0 0 _ (F0 m 0 ls [])
  refine lv_aload_n hx hb d_Mo_here_0 rfl (lv_at hl 0 rfl) ?_
  refine va_get (D := (dC, dI)) (ci := 4) (v := .int (f 5)) (C := R_Mo) (T := F_Mo) (N := 31) hx hb htz i_Mo hown hK hP 0 rfl rfl 18 (by decide) (htz _ kf_Mo_79) (fun _ h9 => h9) rfl d_Mo_here_1 ?_
  refine lv_aload_n hx hb d_Mo_here_4 rfl (lv_at hl 0 rfl) ?_
  refine va_get (D := (dC, dI)) (ci := 4) (v := .int (f 1)) (C := R_Mo) (T := F_Mo) (N := 31) hx hb htz i_Mo hown hK hP 0 rfl rfl 1 (by decide) (htz _ kf_Mo_76) (fun _ h9 => h9) rfl d_Mo_here_5 ?_
  refine lv_icmp_ge (tgt := 23) hx hb d_Mo_here_8 (by decide) (fun c_8 => ?_) (fun c_8 => ?_)
  · refine lv_iconst (v := -1) hx hb d_Mo_here_23 (by decide) ?_
    exact (k_24 c_8) H locs ls (lv_sub hl [0] rfl) hP hD hS
  · refine lv_aload_n hx hb d_Mo_here_11 rfl (lv_at hl 0 rfl) ?_
    refine va_get (D := (dC, dI)) (ci := 4) (v := .ref (a 1)) (C := R_Mo) (T := F_Mo) (N := 31) hx hb htz i_Mo hown hK hP 0 rfl rfl 2 (by decide) (htz _ kf_Mo_7) (fun _ h9 => h9) rfl d_Mo_here_12 ?_
    refine lv_aload_n hx hb d_Mo_here_15 rfl (lv_at hl 0 rfl) ?_
    refine va_get (D := (dC, dI)) (ci := 4) (v := .int (f 5)) (C := R_Mo) (T := F_Mo) (N := 31) hx hb htz i_Mo hown hK hP 0 rfl rfl 18 (by decide) (htz _ kf_Mo_79) (fun _ h9 => h9) rfl d_Mo_here_16 ?_
    refine va_iald hx hb hK hP 1 0 rfl rfl (h_19 c_8) d_Mo_here_19 ?_
    refine lv_goto (tgt := 24) hx hb d_Mo_here_20 (by decide) ?_
    exact (k_24_1 c_8) H locs ls (lv_sub hl [0] rfl) hP hD hS
set_option maxHeartbeats 1000000 in
set_option maxRecDepth 100000 in
theorem k_Mo_here_24 {C : CT} (X : cM C "QuestionTextModel" b_Mo_here 1 (some .int)) (Post : Int32 → FT → GT → Prop) (y0 : Int32) (f : FT) (g : GT)
    (q_24 : Post (y0) f g) : zn_here C Post 24 [(0, .ref (ad C.1 0))] [.int y0] f g := by
  obtain ⟨⟨l, dC, dI, k, a⟩, p, e, s, m, args, below, meth, c, A⟩ := C
  obtain ⟨hx, hb, hr, htz, hown, hlocks, hml, hE, hK, hA⟩ := X
  intro H locs ls hl hP hD hS
  have hl : lv_has ls 1 [(0, .ref (a 0))] := hl
  have hP : va_P (dC, dI) classes (mw k a f g) H := hP
  have hD : va_D A (mw k a f g) := hD
  show W p l e (z_rm 0 0 0) s m args below meth c H locs 0 0 _ (F0 m 24 ls [.int y0])
  exact W.iret (v := y0) hx hb hr (fun t ht hW => ⟨⟨_, (f, g), rfl, q_24, by rw [ht]; exact hP, va_K.moved hW.alike hK, hD⟩, hS.F ht⟩) hS.2.2 d_Mo_here_24
set_option maxHeartbeats 1000000 in
set_option maxRecDepth 100000 in
theorem e_Mo_here (T : ST) (Post : Int32 → FT → GT → Prop) (f : FT) (g : GT) (h : ∀ C : CT, C.1 = T → cM C "QuestionTextModel" b_Mo_here 1 (some .int) → zn_here C Post 0 [(0, .ref (ad C.1 0))] [] f g) : mI T y_Mo_here (Cond.code y_Mo_here b_Mo_here 1 (some .int)) 0 [.ref (ad T 0)] f g Post := by
  obtain ⟨l, dC, dI, k, a⟩ := T
  intro sz
  refine Met.ofW (cc := b_Mo_here) (maxL := 1) (ret := (some .int)) (by decide) rfl ?_
  intro p e s m args below meth c s₁ B hml hv
  obtain ⟨rfl, hsz, hE, hP, hK, hD0⟩ := hv
  have hts := atoms_spec (ws := (Cond.code y_Mo_here b_Mo_here 1 (some .int)) :: z_T) B.pre
  have htz : ∀ w ∈ z_T, w.before _ s = true := fun w h => hts w (z_cons w h)
  subst hsz
  have hD := hD0.self (sz := s.heap.size)
  generalize hAe : va_A (mw k a f g) s.heap.size = A at hD hE ⊢
  have hA : ∀ q : Nat, s.heap.size ≤ q → A q := fun q h => by rw [← hAe]; exact Or.inr h
  have hl := lv_entry ([.ref (a 0)]) (n := 1) (Nat.le_of_ble_eq_true rfl)
  rw [lg_entry_eq]
  generalize (lg_sl ([.ref (a 0)]) ++ List.replicate (1 - (lg_sl ([.ref (a 0)])).length) Slot.unset).toArray = ls at hl ⊢
  exact h ((l, dC, dI, k, a), p, e, s, m, ([.ref (a 0)] : List Value).toArray, below, meth, c, A) rfl ⟨B.exec, B.bytes, B.returns, htz, findClass_of_methodNamed B.named, B.notSynchronized, hml, hE, hK, hA⟩ s.heap [] ls hl hP hD va_S.rf
def zn_see (C : CT) (Post : Int32 → FT → GT → Prop) (pc : Nat) (loc : List (Nat × Value)) (st : List Value) (f : FT) (g : GT) : Prop := zW C (z_rm 1 0 0) 1 (qI C Post) 0 0 pc loc st (mM C.1 f g)
set_option maxHeartbeats 1000000 in
set_option maxRecDepth 100000 in
theorem k_Mo_see_0 {C : CT} (X : cM C "QuestionTextModel" b_Mo_see 1 (some .int)) (Post : Int32 → FT → GT → Prop) {P_1 : Int32 → FT → GT → Prop} (f : FT) (g : GT)
    (m_1 : mI C.1 y_Mo_here (Cond.code y_Mo_here b_Mo_here 1 (some .int)) 0 [.ref (ad C.1 0)] f g P_1)
    (k_1 : ∀ (r : Int32) (f1 : FT) (g1 : GT), P_1 r f1 g1 → zn_see C Post 4 [(0, .ref (ad C.1 0))] [.int r] f1 g1) : zn_see C Post 0 [(0, .ref (ad C.1 0))] [] f g := by
  obtain ⟨⟨l, dC, dI, k, a⟩, p, e, s, m, args, below, meth, c, A⟩ := C
  obtain ⟨hx, hb, hr, htz, hown, hlocks, hml, hE, hK, hA⟩ := X
  intro H locs ls hl hP hD hS
  have hl : lv_has ls 1 [(0, .ref (a 0))] := hl
  have hP : va_P (dC, dI) classes (mw k a f g) H := hP
  have hD : va_D A (mw k a f g) := hD
  show W p l e (z_rm 1 0 0) s m args below meth c H locs 0 0 _ (F0 m 0 ls [])
  refine lv_aload_n hx hb d_Mo_see_0 rfl (lv_at hl 0 rfl) ?_
  have hFc := va_free (wc := mw k a f g) hD hS hA [0, 1, 2, 3, 4, 5, 6, 7, 8, 9, 10, 11, 12, 13, 14, 15, 16, 17, 18] rfl
  refine va_calli (va_runV (As := []) (rest := []) ⟨hx, hb, hml, hown, htz⟩ (m_1 H.size) (cwV 0 htz (z_gV (fun _ h => h) km_Mo_82 in_Mo_here se_Mo_here ini_Mo m_Mo_here) rfl rfl rfl (by decide +kernel) ⟨(Nat.le_of_ble_eq_true rfl), (Nat.le_of_ble_eq_true rfl)⟩) ⟨z_blind, va_recv hK hP (ci := 4) (q0 := 0) rfl rfl, fun U hU hW => ⟨rfl, by rw [hU], hE.call hS hFc hU hW, by rw [hU]; exact hP, va_K.moved hW.alike hK, hD.weaken (fun _ _ _ _ => trivial)⟩⟩ rfl rfl hl.1 rfl (lv_room (Nat.le_of_ble_eq_true rfl)) d_Mo_see_1 ⟨(Nat.le_of_ble_eq_true rfl), (Nat.le_of_ble_eq_true rfl)⟩) hS (fun q _ h => hFc q h) hFc (fun r u t H1 locs ht hvm hw hB hz1 hk1 hS => ?_)
  obtain ⟨hP1, hK1, hD1⟩ := hB
  rw [ht] at hP1
  exact k_1 r _ _ hw H1 locs ls (lv_sub hl [0] rfl) hP1 (hD1.weaken (fun _ q _ h => hFc _ h)) hS
set_option maxHeartbeats 1000000 in
set_option maxRecDepth 100000 in
theorem k_Mo_see_4 {C : CT} (X : cM C "QuestionTextModel" b_Mo_see 1 (some .int)) (Post : Int32 → FT → GT → Prop) {P_23 : Int32 → FT → GT → Prop} (y0 : Int32) (f : FT) (g : GT)
    (m_23 : (¬ y0 = 32) → mI C.1 y_Mo_here (Cond.code y_Mo_here b_Mo_here 1 (some .int)) 0 [.ref (ad C.1 0)] f g P_23)
    (k_23 : (¬ y0 = 32) → ∀ (r : Int32) (f1 : FT) (g1 : GT), P_23 r f1 g1 → zn_see C Post 26 [(0, .ref (ad C.1 0))] [.int r] f1 g1)
    (k_0 : (y0 = 32) → zn_see C Post 0 [(0, .ref (ad C.1 0))] [] (va_up f 5 ((f 5) + 1)) g) : zn_see C Post 4 [(0, .ref (ad C.1 0))] [.int y0] f g := by
  obtain ⟨⟨l, dC, dI, k, a⟩, p, e, s, m, args, below, meth, c, A⟩ := C
  obtain ⟨hx, hb, hr, htz, hown, hlocks, hml, hE, hK, hA⟩ := X
  intro H locs ls hl hP hD hS
  have hl : lv_has ls 1 [(0, .ref (a 0))] := hl
  have hP : va_P (dC, dI) classes (mw k a f g) H := hP
  have hD : va_D A (mw k a f g) := hD
  show W p l e (z_rm 1 0 0) s m args below meth c H locs 0 0 _ (F0 m 4 ls [.int y0])
  refine lv_bipush (v := 32) hx hb d_Mo_see_4 (by decide) ?_
  refine lv_icmp_ne (tgt := 22) hx hb d_Mo_see_6 (by decide) (fun c_6 => ?_) (fun c_6 => ?_)
  · refine lv_aload_n hx hb d_Mo_see_22 rfl (lv_at hl 0 rfl) ?_
    have hFc := va_free (wc := mw k a f g) hD hS hA [0, 1, 2, 3, 4, 5, 6, 7, 8, 9, 10, 11, 12, 13, 14, 15, 16, 17, 18] rfl
    refine va_calli (va_runV (As := []) (rest := []) ⟨hx, hb, hml, hown, htz⟩ ((m_23 c_6) H.size) (cwV 0 htz (z_gV (fun _ h => h) km_Mo_82 in_Mo_here se_Mo_here ini_Mo m_Mo_here) rfl rfl rfl (by decide +kernel) ⟨(Nat.le_of_ble_eq_true rfl), (Nat.le_of_ble_eq_true rfl)⟩) ⟨z_blind, va_recv hK hP (ci := 4) (q0 := 0) rfl rfl, fun U hU hW => ⟨rfl, by rw [hU], hE.call hS hFc hU hW, by rw [hU]; exact hP, va_K.moved hW.alike hK, hD.weaken (fun _ _ _ _ => trivial)⟩⟩ rfl rfl hl.1 rfl (lv_room (Nat.le_of_ble_eq_true rfl)) d_Mo_see_23 ⟨(Nat.le_of_ble_eq_true rfl), (Nat.le_of_ble_eq_true rfl)⟩) hS (fun q _ h => hFc q h) hFc (fun r u t H1 locs ht hvm hw hB hz1 hk1 hS => ?_)
    obtain ⟨hP1, hK1, hD1⟩ := hB
    rw [ht] at hP1
    exact (k_23 c_6) r _ _ hw H1 locs ls (lv_sub hl [0] rfl) hP1 (hD1.weaken (fun _ q _ h => hFc _ h)) hS
  · refine lv_aload_n hx hb d_Mo_see_9 rfl (lv_at hl 0 rfl) ?_
    refine lv_dup hx hb d_Mo_see_10 rfl ?_
    refine va_get (D := (dC, dI)) (ci := 4) (v := .int (f 5)) (C := R_Mo) (T := F_Mo) (N := 31) hx hb htz i_Mo hown hK hP 0 rfl rfl 18 (by decide) (htz _ kf_Mo_79) (fun _ h9 => h9) rfl d_Mo_see_11 ?_
    refine lv_iconst (v := 1) hx hb d_Mo_see_14 (by decide) ?_
    refine lv_iadd hx hb d_Mo_see_15 ?_
    refine va_put (D := (dC, dI)) (ci := 4) (v := .int ((f 5) + 1)) (ty := .int) (C := R_Mo) (T := F_Mo) (N := 31) hx hb htz i_Mo t_Mo o_Mo n_Mo hown hK hP hD hS 0 rfl rfl 18 (by decide) (htz _ kf_Mo_79) (fun _ h9 => h9) rfl (by decide +kernel) rfl rfl (Nat.le_of_ble_eq_true rfl) d_Mo_see_16 (fun H locs hP hD hS => ?_)
    have hP : va_P (dC, dI) classes (mw k a (va_up f 5 ((f 5) + 1)) g) H := hP
    have hD : va_D A (mw k a (va_up f 5 ((f 5) + 1)) g) := hD
    refine lv_goto (tgt := 0) hx hb d_Mo_see_19 (by decide) ?_
    exact (k_0 c_6) H locs ls (lv_sub hl [0] rfl) hP hD hS
set_option maxHeartbeats 1000000 in
set_option maxRecDepth 100000 in
theorem k_Mo_see_26 {C : CT} (X : cM C "QuestionTextModel" b_Mo_see 1 (some .int)) (Post : Int32 → FT → GT → Prop) (y0 : Int32) (f : FT) (g : GT)
    (q_26 : Post (y0) f g) : zn_see C Post 26 [(0, .ref (ad C.1 0))] [.int y0] f g := by
  obtain ⟨⟨l, dC, dI, k, a⟩, p, e, s, m, args, below, meth, c, A⟩ := C
  obtain ⟨hx, hb, hr, htz, hown, hlocks, hml, hE, hK, hA⟩ := X
  intro H locs ls hl hP hD hS
  have hl : lv_has ls 1 [(0, .ref (a 0))] := hl
  have hP : va_P (dC, dI) classes (mw k a f g) H := hP
  have hD : va_D A (mw k a f g) := hD
  show W p l e (z_rm 1 0 0) s m args below meth c H locs 0 0 _ (F0 m 26 ls [.int y0])
  exact W.iret (v := y0) hx hb hr (fun t ht hW => ⟨⟨_, (f, g), rfl, q_26, by rw [ht]; exact hP, va_K.moved hW.alike hK, hD⟩, hS.F ht⟩) hS.2.2 d_Mo_see_26
set_option maxHeartbeats 1000000 in
set_option maxRecDepth 100000 in
theorem e_Mo_see (T : ST) (Post : Int32 → FT → GT → Prop) (f : FT) (g : GT) (h : ∀ C : CT, C.1 = T → cM C "QuestionTextModel" b_Mo_see 1 (some .int) → zn_see C Post 0 [(0, .ref (ad C.1 0))] [] f g) : mI T y_Mo_see (Cond.code y_Mo_see b_Mo_see 1 (some .int)) 1 [.ref (ad T 0)] f g Post := by
  obtain ⟨l, dC, dI, k, a⟩ := T
  intro sz
  refine Met.ofW (cc := b_Mo_see) (maxL := 1) (ret := (some .int)) (by decide) rfl ?_
  intro p e s m args below meth c s₁ B hml hv
  obtain ⟨rfl, hsz, hE, hP, hK, hD0⟩ := hv
  have hts := atoms_spec (ws := (Cond.code y_Mo_see b_Mo_see 1 (some .int)) :: z_T) B.pre
  have htz : ∀ w ∈ z_T, w.before _ s = true := fun w h => hts w (z_cons w h)
  subst hsz
  have hD := hD0.self (sz := s.heap.size)
  generalize hAe : va_A (mw k a f g) s.heap.size = A at hD hE ⊢
  have hA : ∀ q : Nat, s.heap.size ≤ q → A q := fun q h => by rw [← hAe]; exact Or.inr h
  have hl := lv_entry ([.ref (a 0)]) (n := 1) (Nat.le_of_ble_eq_true rfl)
  rw [lg_entry_eq]
  generalize (lg_sl ([.ref (a 0)]) ++ List.replicate (1 - (lg_sl ([.ref (a 0)])).length) Slot.unset).toArray = ls at hl ⊢
  exact h ((l, dC, dI, k, a), p, e, s, m, ([.ref (a 0)] : List Value).toArray, below, meth, c, A) rfl ⟨B.exec, B.bytes, B.returns, htz, findClass_of_methodNamed B.named, B.notSynchronized, hml, hE, hK, hA⟩ s.heap [] ls hl hP hD va_S.rf
def zn_number (C : CT) (Post : Int32 → FT → GT → Prop) (pc : Nat) (loc : List (Nat × Value)) (st : List Value) (f : FT) (g : GT) : Prop := zW C (z_rm 2 0 0) 4 (qI C Post) 0 0 pc loc st (mM C.1 f g)
set_option maxHeartbeats 1000000 in
set_option maxRecDepth 100000 in
theorem k_Mo_number_0 {C : CT} (X : cM C "QuestionTextModel" b_Mo_number 4 (some .int)) (Post : Int32 → FT → GT → Prop) {P_10 : Int32 → FT → GT → Prop} (x1 : Int32) (x2 : Int32) (f : FT) (g : GT)
    (m_10 : (f 6 < 0) → mI C.1 y_Mo_see (Cond.code y_Mo_see b_Mo_see 1 (some .int)) 1 [.ref (ad C.1 0)] f g P_10)
    (k_10 : (f 6 < 0) → ∀ (r : Int32) (f1 : FT) (g1 : GT), P_10 r f1 g1 → zn_number C Post 13 [(0, .ref (ad C.1 0)), (1, .int x1), (2, .int x2)] [.int r] f1 g1)
    (q_8 : (¬ f 6 < 0) → Post (x1) f g) : zn_number C Post 0 [(0, .ref (ad C.1 0)), (1, .int x1), (2, .int x2)] [] f g := by
  obtain ⟨⟨l, dC, dI, k, a⟩, p, e, s, m, args, below, meth, c, A⟩ := C
  obtain ⟨hx, hb, hr, htz, hown, hlocks, hml, hE, hK, hA⟩ := X
  intro H locs ls hl hP hD hS
  have hl : lv_has ls 4 [(0, .ref (a 0)), (1, .int x1), (2, .int x2)] := hl
  have hP : va_P (dC, dI) classes (mw k a f g) H := hP
  have hD : va_D A (mw k a f g) := hD
  show W p l e (z_rm 2 0 0) s m args below meth c H locs 0 0 _ (F0 m 0 ls [])
  refine lv_aload_n hx hb d_Mo_number_0 rfl (lv_at hl 0 rfl) ?_
  refine va_get (D := (dC, dI)) (ci := 4) (v := .int (f 6)) (C := R_Mo) (T := F_Mo) (N := 31) hx hb htz i_Mo hown hK hP 0 rfl rfl 19 (by decide) (htz _ kf_Mo_86) (fun _ h9 => h9) rfl d_Mo_number_1 ?_
  refine lv_if_lt (tgt := 9) hx hb d_Mo_number_4 (by decide) (fun c_4 => ?_) (fun c_4 => ?_)
  · refine lv_aload_n hx hb d_Mo_number_9 rfl (lv_at hl 0 rfl) ?_
    have hFc := va_free (wc := mw k a f g) hD hS hA [0, 1, 2, 3, 4, 5, 6, 7, 8, 9, 10, 11, 12, 13, 14, 15, 16, 17, 18] rfl
    refine va_calli (va_runV (As := []) (rest := []) ⟨hx, hb, hml, hown, htz⟩ ((m_10 c_4) H.size) (cwV 0 htz (z_gV (fun _ h => h) km_Mo_89 in_Mo_see se_Mo_see ini_Mo m_Mo_see) rfl rfl rfl (by decide +kernel) ⟨(Nat.le_of_ble_eq_true rfl), (Nat.le_of_ble_eq_true rfl)⟩) ⟨z_blind, va_recv hK hP (ci := 4) (q0 := 0) rfl rfl, fun U hU hW => ⟨rfl, by rw [hU], hE.call hS hFc hU hW, by rw [hU]; exact hP, va_K.moved hW.alike hK, hD.weaken (fun _ _ _ _ => trivial)⟩⟩ rfl rfl hl.1 rfl (lv_room (Nat.le_of_ble_eq_true rfl)) d_Mo_number_10 ⟨(Nat.le_of_ble_eq_true rfl), (Nat.le_of_ble_eq_true rfl)⟩) hS (fun q _ h => hFc q h) hFc (fun r u t H1 locs ht hvm hw hB hz1 hk1 hS => ?_)
    obtain ⟨hP1, hK1, hD1⟩ := hB
    rw [ht] at hP1
    exact (k_10 c_4) r _ _ hw H1 locs ls (lv_sub hl [0, 1, 2] rfl) hP1 (hD1.weaken (fun _ q _ h => hFc _ h)) hS
  · refine lv_iload_n hx hb d_Mo_number_7 rfl (lv_at hl 1 rfl) ?_
    exact W.iret (v := x1) hx hb hr (fun t ht hW => ⟨⟨_, (f, g), rfl, (q_8 c_4), by rw [ht]; exact hP, va_K.moved hW.alike hK, hD⟩, hS.F ht⟩) hS.2.2 d_Mo_number_8
set_option maxHeartbeats 1000000 in
set_option maxRecDepth 100000 in
theorem k_Mo_number_13 {C : CT} (X : cM C "QuestionTextModel" b_Mo_number 4 (some .int)) (Post : Int32 → FT → GT → Prop) {P_15 : Int32 → FT → GT → Prop} (x1 : Int32) (x2 : Int32) (y0 : Int32) (f : FT) (g : GT)
    (m_15 : mI C.1 y_Mo_isDigit (Cond.code y_Mo_isDigit b_Mo_isDigit 1 (some .boolean)) 1 [.ref (ad C.1 0)] f g P_15)
    (k_15 : ∀ (r : Int32) (f1 : FT) (g1 : GT), P_15 r f1 g1 → zn_number C Post 18 [(0, .ref (ad C.1 0)), (1, .int x1), (2, .int x2)] [.int r] f1 g1) : zn_number C Post 13 [(0, .ref (ad C.1 0)), (1, .int x1), (2, .int x2)] [.int y0] f g := by
  obtain ⟨⟨l, dC, dI, k, a⟩, p, e, s, m, args, below, meth, c, A⟩ := C
  obtain ⟨hx, hb, hr, htz, hown, hlocks, hml, hE, hK, hA⟩ := X
  intro H locs ls hl hP hD hS
  have hl : lv_has ls 4 [(0, .ref (a 0)), (1, .int x1), (2, .int x2)] := hl
  have hP : va_P (dC, dI) classes (mw k a f g) H := hP
  have hD : va_D A (mw k a f g) := hD
  show W p l e (z_rm 2 0 0) s m args below meth c H locs 0 0 _ (F0 m 13 ls [.int y0])
  refine lv_pop hx hb d_Mo_number_13 rfl ?_
  refine lv_aload_n hx hb d_Mo_number_14 rfl (lv_at hl 0 rfl) ?_
  have hFc := va_free (wc := mw k a f g) hD hS hA [0, 1, 2, 3, 4, 5, 6, 7, 8, 9, 10, 11, 12, 13, 14, 15, 16, 17, 18] rfl
  refine va_calli (va_runV (As := []) (rest := []) ⟨hx, hb, hml, hown, htz⟩ (m_15 H.size) (cwV 0 htz (z_gV (fun _ h => h) km_Mo_96 in_Mo_isDigit se_Mo_isDigit ini_Mo m_Mo_isDigit) rfl rfl rfl (by decide +kernel) ⟨(Nat.le_of_ble_eq_true rfl), (Nat.le_of_ble_eq_true rfl)⟩) ⟨z_blind, va_recv hK hP (ci := 4) (q0 := 0) rfl rfl, fun U hU hW => ⟨rfl, by rw [hU], hE.call hS hFc hU hW, by rw [hU]; exact hP, va_K.moved hW.alike hK, hD.weaken (fun _ _ _ _ => trivial)⟩⟩ rfl rfl hl.1 rfl (lv_room (Nat.le_of_ble_eq_true rfl)) d_Mo_number_15 ⟨(Nat.le_of_ble_eq_true rfl), (Nat.le_of_ble_eq_true rfl)⟩) hS (fun q _ h => hFc q h) hFc (fun r u t H1 locs ht hvm hw hB hz1 hk1 hS => ?_)
  obtain ⟨hP1, hK1, hD1⟩ := hB
  rw [ht] at hP1
  exact k_15 r _ _ hw H1 locs ls (lv_sub hl [0, 1, 2] rfl) hP1 (hD1.weaken (fun _ q _ h => hFc _ h)) hS
set_option maxHeartbeats 1000000 in
set_option maxRecDepth 100000 in
theorem k_Mo_number_18 {C : CT} (X : cM C "QuestionTextModel" b_Mo_number 4 (some .int)) (Post : Int32 → FT → GT → Prop) {P_26 : FT → GT → Prop} (x1 : Int32) (x2 : Int32) (y0 : Int32) (f : FT) (g : GT)
    (k_29 : (¬ y0 = 0) → zn_number C Post 29 [(0, .ref (ad C.1 0)), (1, .int x1), (2, .int x2)] [] f g)
    (m_26 : (y0 = 0) → mV C.1 y_Mo_fail (Cond.code y_Mo_fail b_Mo_fail 2 none) 0 [.ref (ad C.1 0), .int (f 5)] f g P_26)
    (k_26 : (y0 = 0) → ∀ (f1 : FT) (g1 : GT), P_26 f1 g1 → zn_number C Post 29 [(0, .ref (ad C.1 0)), (1, .int x1), (2, .int x2)] [] f1 g1) : zn_number C Post 18 [(0, .ref (ad C.1 0)), (1, .int x1), (2, .int x2)] [.int y0] f g := by
  obtain ⟨⟨l, dC, dI, k, a⟩, p, e, s, m, args, below, meth, c, A⟩ := C
  obtain ⟨hx, hb, hr, htz, hown, hlocks, hml, hE, hK, hA⟩ := X
  intro H locs ls hl hP hD hS
  have hl : lv_has ls 4 [(0, .ref (a 0)), (1, .int x1), (2, .int x2)] := hl
  have hP : va_P (dC, dI) classes (mw k a f g) H := hP
  have hD : va_D A (mw k a f g) := hD
  show W p l e (z_rm 2 0 0) s m args below meth c H locs 0 0 _ (F0 m 18 ls [.int y0])
  refine lv_if_ne (tgt := 29) hx hb d_Mo_number_18 (by decide) (fun c_18 => ?_) (fun c_18 => ?_)
  · exact (k_29 c_18) H locs ls (lv_sub hl [0, 1, 2] rfl) hP hD hS
  · refine lv_aload_n hx hb d_Mo_number_21 rfl (lv_at hl 0 rfl) ?_
    refine lv_aload_n hx hb d_Mo_number_22 rfl (lv_at hl 0 rfl) ?_
    refine va_get (D := (dC, dI)) (ci := 4) (v := .int (f 5)) (C := R_Mo) (T := F_Mo) (N := 31) hx hb htz i_Mo hown hK hP 0 rfl rfl 18 (by decide) (htz _ kf_Mo_79) (fun _ h9 => h9) rfl d_Mo_number_23 ?_
    have hFc := va_free (wc := mw k a f g) hD hS hA [0, 1, 2, 3, 4, 5, 6, 7, 8, 9, 10, 11, 12, 13, 14, 15, 16, 17, 18] rfl
    refine va_callv (va_runV (As := [.int (f 5)]) (rest := []) ⟨hx, hb, hml, hown, htz⟩ ((m_26 c_18) H.size) (cwV 1 htz (z_gV (fun _ h => h) km_Mo_92 in_Mo_fail se_Mo_fail ini_Mo m_Mo_fail) rfl rfl rfl (by decide +kernel) ⟨(Nat.le_of_ble_eq_true rfl), (Nat.le_of_ble_eq_true rfl)⟩) ⟨z_blind, va_recv hK hP (ci := 4) (q0 := 0) rfl rfl, fun U hU hW => ⟨rfl, by rw [hU], hE.call hS hFc hU hW, by rw [hU]; exact hP, va_K.moved hW.alike hK, hD.weaken (fun _ _ _ _ => trivial)⟩⟩ rfl rfl hl.1 rfl (lv_room (Nat.le_of_ble_eq_true rfl)) d_Mo_number_26 ⟨(Nat.le_of_ble_eq_true rfl), (Nat.le_of_ble_eq_true rfl)⟩) hS (fun q _ h => hFc q h) hFc (fun u t H1 locs ht hvm hw hB hz1 hk1 hS => ?_)
    obtain ⟨hP1, hK1, hD1⟩ := hB
    rw [ht] at hP1
    exact (k_26 c_18) _ _ hw H1 locs ls (lv_sub hl [0, 1, 2] rfl) hP1 (hD1.weaken (fun _ q _ h => hFc _ h)) hS
set_option maxHeartbeats 1000000 in
set_option maxRecDepth 100000 in
theorem k_Mo_number_29 {C : CT} (X : cM C "QuestionTextModel" b_Mo_number 4 (some .int)) (Post : Int32 → FT → GT → Prop) (x1 : Int32) (x2 : Int32) (f : FT) (g : GT)
    (k_36 : zn_number C Post 36 [(0, .ref (ad C.1 0)), (1, .int x1), (2, .int x2), (3, .int 0)] [] (va_up f 7 0) g) : zn_number C Post 29 [(0, .ref (ad C.1 0)), (1, .int x1), (2, .int x2)] [] f g := by
  obtain ⟨⟨l, dC, dI, k, a⟩, p, e, s, m, args, below, meth, c, A⟩ := C
  obtain ⟨hx, hb, hr, htz, hown, hlocks, hml, hE, hK, hA⟩ := X
  intro H locs ls hl hP hD hS
  have hl : lv_has ls 4 [(0, .ref (a 0)), (1, .int x1), (2, .int x2)] := hl
  have hP : va_P (dC, dI) classes (mw k a f g) H := hP
  have hD : va_D A (mw k a f g) := hD
  show W p l e (z_rm 2 0 0) s m args below meth c H locs 0 0 _ (F0 m 29 ls [])
  refine lv_iconst (v := 0) hx hb d_Mo_number_29 (by decide) ?_
  refine lv_istore_n (lv' := [(3, .int 0), (0, .ref (a 0)), (1, .int x1), (2, .int x2)]) hx hb d_Mo_number_30 rfl hl (by decide) rfl (fun ls hl => ?_)
  refine lv_aload_n hx hb d_Mo_number_31 rfl (lv_at hl 1 rfl) ?_
  refine lv_iconst (v := 0) hx hb d_Mo_number_32 (by decide) ?_
  refine va_put (D := (dC, dI)) (ci := 4) (v := .int 0) (ty := .int) (C := R_Mo) (T := F_Mo) (N := 31) hx hb htz i_Mo t_Mo o_Mo n_Mo hown hK hP hD hS 0 rfl rfl 20 (by decide) (htz _ kf_Mo_100) (fun _ h9 => h9) rfl (by decide +kernel) rfl rfl (Nat.le_of_ble_eq_true rfl) d_Mo_number_33 (fun H locs hP hD hS => ?_)
  have hP : va_P (dC, dI) classes (mw k a (va_up f 7 0) g) H := hP
  have hD : va_D A (mw k a (va_up f 7 0) g) := hD
  exact k_36 H locs ls (lv_sub hl [1, 2, 3, 0] rfl) hP hD hS
set_option maxHeartbeats 1000000 in
set_option maxRecDepth 100000 in
theorem k_Mo_number_36 {C : CT} (X : cM C "QuestionTextModel" b_Mo_number 4 (some .int)) (Post : Int32 → FT → GT → Prop) {P_37 : Int32 → FT → GT → Prop} (x1 : Int32) (x2 : Int32) (x3 : Int32) (f : FT) (g : GT)
    (m_37 : mI C.1 y_Mo_isDigit (Cond.code y_Mo_isDigit b_Mo_isDigit 1 (some .boolean)) 1 [.ref (ad C.1 0)] f g P_37)
    (k_37 : ∀ (r : Int32) (f1 : FT) (g1 : GT), P_37 r f1 g1 → zn_number C Post 40 [(0, .ref (ad C.1 0)), (1, .int x1), (2, .int x2), (3, .int x3)] [.int r] f1 g1) : zn_number C Post 36 [(0, .ref (ad C.1 0)), (1, .int x1), (2, .int x2), (3, .int x3)] [] f g := by
  obtain ⟨⟨l, dC, dI, k, a⟩, p, e, s, m, args, below, meth, c, A⟩ := C
  obtain ⟨hx, hb, hr, htz, hown, hlocks, hml, hE, hK, hA⟩ := X
  intro H locs ls hl hP hD hS
  have hl : lv_has ls 4 [(0, .ref (a 0)), (1, .int x1), (2, .int x2), (3, .int x3)] := hl
  have hP : va_P (dC, dI) classes (mw k a f g) H := hP
  have hD : va_D A (mw k a f g) := hD
  show W p l e (z_rm 2 0 0) s m args below meth c H locs 0 0 _ (F0 m 36 ls [])
  refine lv_aload_n hx hb d_Mo_number_36 rfl (lv_at hl 0 rfl) ?_
  have hFc := va_free (wc := mw k a f g) hD hS hA [0, 1, 2, 3, 4, 5, 6, 7, 8, 9, 10, 11, 12, 13, 14, 15, 16, 17, 18] rfl
  refine va_calli (va_runV (As := []) (rest := []) ⟨hx, hb, hml, hown, htz⟩ (m_37 H.size) (cwV 0 htz (z_gV (fun _ h => h) km_Mo_96 in_Mo_isDigit se_Mo_isDigit ini_Mo m_Mo_isDigit) rfl rfl rfl (by decide +kernel) ⟨(Nat.le_of_ble_eq_true rfl), (Nat.le_of_ble_eq_true rfl)⟩) ⟨z_blind, va_recv hK hP (ci := 4) (q0 := 0) rfl rfl, fun U hU hW => ⟨rfl, by rw [hU], hE.call hS hFc hU hW, by rw [hU]; exact hP, va_K.moved hW.alike hK, hD.weaken (fun _ _ _ _ => trivial)⟩⟩ rfl rfl hl.1 rfl (lv_room (Nat.le_of_ble_eq_true rfl)) d_Mo_number_37 ⟨(Nat.le_of_ble_eq_true rfl), (Nat.le_of_ble_eq_true rfl)⟩) hS (fun q _ h => hFc q h) hFc (fun r u t H1 locs ht hvm hw hB hz1 hk1 hS => ?_)
  obtain ⟨hP1, hK1, hD1⟩ := hB
  rw [ht] at hP1
  exact k_37 r _ _ hw H1 locs ls (lv_sub hl [0, 1, 2, 3] rfl) hP1 (hD1.weaken (fun _ q _ h => hFc _ h)) hS
set_option maxHeartbeats 1000000 in
set_option maxRecDepth 100000 in
theorem k_Mo_number_40 {C : CT} (X : cM C "QuestionTextModel" b_Mo_number 4 (some .int)) (Post : Int32 → FT → GT → Prop) (x1 : Int32) (x2 : Int32) (x3 : Int32) (y0 : Int32) (f : FT) (g : GT)
    (k_98 : (y0 = 0) → zn_number C Post 98 [(0, .ref (ad C.1 0)), (1, .int x1), (2, .int x2), (3, .int x3)] [] f g)
    (k_98_1 : (¬ y0 = 0) → (4 ≤ f 7) → zn_number C Post 98 [(0, .ref (ad C.1 0)), (1, .int x1), (2, .int x2), (3, .int x3)] [] f g)
    (k_62 : (¬ y0 = 0) → (¬ 4 ≤ f 7) → (f 7 = 0) → zn_number C Post 62 [(0, .ref (ad C.1 0)), (1, .int x1), (2, .int x2), (3, .int x3)] [] f g)
    (k_98_2 : (¬ y0 = 0) → (¬ 4 ≤ f 7) → (¬ f 7 = 0) → (x3 ≤ 0) → zn_number C Post 98 [(0, .ref (ad C.1 0)), (1, .int x1), (2, .int x2), (3, .int x3)] [] f g)
    (k_62_1 : (¬ y0 = 0) → (¬ 4 ≤ f 7) → (¬ f 7 = 0) → (¬ x3 ≤ 0) → zn_number C Post 62 [(0, .ref (ad C.1 0)), (1, .int x1), (2, .int x2), (3, .int x3)] [] f g) : zn_number C Post 40 [(0, .ref (ad C.1 0)), (1, .int x1), (2, .int x2), (3, .int x3)] [.int y0] f g := by
  obtain ⟨⟨l, dC, dI, k, a⟩, p, e, s, m, args, below, meth, c, A⟩ := C
  obtain ⟨hx, hb, hr, htz, hown, hlocks, hml, hE, hK, hA⟩ := X
  intro H locs ls hl hP hD hS
  have hl : lv_has ls 4 [(0, .ref (a 0)), (1, .int x1), (2, .int x2), (3, .int x3)] := hl
  have hP : va_P (dC, dI) classes (mw k a f g) H := hP
  have hD : va_D A (mw k a f g) := hD
  show W p l e (z_rm 2 0 0) s m args below meth c H locs 0 0 _ (F0 m 40 ls [.int y0])
  refine lv_if_eq (tgt := 98) hx hb d_Mo_number_40 (by decide) (fun c_40 => ?_) (fun c_40 => ?_)
  · exact (k_98 c_40) H locs ls (lv_sub hl [0, 1, 2, 3] rfl) hP hD hS
  · refine lv_aload_n hx hb d_Mo_number_43 rfl (lv_at hl 0 rfl) ?_
    refine va_get (D := (dC, dI)) (ci := 4) (v := .int (f 7)) (C := R_Mo) (T := F_Mo) (N := 31) hx hb htz i_Mo hown hK hP 0 rfl rfl 20 (by decide) (htz _ kf_Mo_100) (fun _ h9 => h9) rfl d_Mo_number_44 ?_
    refine lv_iconst (v := 4) hx hb d_Mo_number_47 (by decide) ?_
    refine lv_icmp_ge (tgt := 98) hx hb d_Mo_number_48 (by decide) (fun c_48 => ?_) (fun c_48 => ?_)
    · exact (k_98_1 c_40 c_48) H locs ls (lv_sub hl [0, 1, 2, 3] rfl) hP hD hS
    · refine lv_aload_n hx hb d_Mo_number_51 rfl (lv_at hl 0 rfl) ?_
      refine va_get (D := (dC, dI)) (ci := 4) (v := .int (f 7)) (C := R_Mo) (T := F_Mo) (N := 31) hx hb htz i_Mo hown hK hP 0 rfl rfl 20 (by decide) (htz _ kf_Mo_100) (fun _ h9 => h9) rfl d_Mo_number_52 ?_
      refine lv_if_eq (tgt := 62) hx hb d_Mo_number_55 (by decide) (fun c_55 => ?_) (fun c_55 => ?_)
      · exact (k_62 c_40 c_48 c_55) H locs ls (lv_sub hl [0, 1, 2, 3] rfl) hP hD hS
      · refine lv_iload_n hx hb d_Mo_number_58 rfl (lv_at hl 3 rfl) ?_
        refine lv_if_le (tgt := 98) hx hb d_Mo_number_59 (by decide) (fun c_59 => ?_) (fun c_59 => ?_)
        · exact (k_98_2 c_40 c_48 c_55 c_59) H locs ls (lv_sub hl [0, 1, 2, 3] rfl) hP hD hS
        · exact (k_62_1 c_40 c_48 c_55 c_59) H locs ls (lv_sub hl [0, 1, 2, 3] rfl) hP hD hS
set_option maxHeartbeats 1000000 in
set_option maxRecDepth 100000 in
theorem k_Mo_number_62 {C : CT} (X : cM C "QuestionTextModel" b_Mo_number 4 (some .int)) (Post : Int32 → FT → GT → Prop) {P_67 : Int32 → FT → GT → Prop} (x1 : Int32) (x2 : Int32) (x3 : Int32) (f : FT) (g : GT)
    (m_67 : mI C.1 y_Mo_here (Cond.code y_Mo_here b_Mo_here 1 (some .int)) 0 [.ref (ad C.1 0)] f g P_67)
    (k_67 : ∀ (r : Int32) (f1 : FT) (g1 : GT), P_67 r f1 g1 → zn_number C Post 70 [(0, .ref (ad C.1 0)), (1, .int x1), (2, .int x2), (3, .int x3)] [.int r, .int (10 * x3)] f1 g1) : zn_number C Post 62 [(0, .ref (ad C.1 0)), (1, .int x1), (2, .int x2), (3, .int x3)] [] f g := by
  obtain ⟨⟨l, dC, dI, k, a⟩, p, e, s, m, args, below, meth, c, A⟩ := C
  obtain ⟨hx, hb, hr, htz, hown, hlocks, hml, hE, hK, hA⟩ := X
  intro H locs ls hl hP hD hS
  have hl : lv_has ls 4 [(0, .ref (a 0)), (1, .int x1), (2, .int x2), (3, .int x3)] := hl
  have hP : va_P (dC, dI) classes (mw k a f g) H := hP
  have hD : va_D A (mw k a f g) := hD
  show W p l e (z_rm 2 0 0) s m args below meth c H locs 0 0 _ (F0 m 62 ls [])
  refine lv_bipush (v := 10) hx hb d_Mo_number_62 (by decide) ?_
  refine lv_iload_n hx hb d_Mo_number_64 rfl (lv_at hl 3 rfl) ?_
  refine lv_imul hx hb d_Mo_number_65 ?_
  refine lv_aload_n hx hb d_Mo_number_66 rfl (lv_at hl 0 rfl) ?_
  have hFc := va_free (wc := mw k a f g) hD hS hA [0, 1, 2, 3, 4, 5, 6, 7, 8, 9, 10, 11, 12, 13, 14, 15, 16, 17, 18] rfl
  refine va_calli (va_runV (As := []) (rest := [.int (10 * x3)]) ⟨hx, hb, hml, hown, htz⟩ (m_67 H.size) (cwV 0 htz (z_gV (fun _ h => h) km_Mo_82 in_Mo_here se_Mo_here ini_Mo m_Mo_here) rfl rfl rfl (by decide +kernel) ⟨(Nat.le_of_ble_eq_true rfl), (Nat.le_of_ble_eq_true rfl)⟩) ⟨z_blind, va_recv hK hP (ci := 4) (q0 := 0) rfl rfl, fun U hU hW => ⟨rfl, by rw [hU], hE.call hS hFc hU hW, by rw [hU]; exact hP, va_K.moved hW.alike hK, hD.weaken (fun _ _ _ _ => trivial)⟩⟩ rfl rfl hl.1 rfl (lv_room (Nat.le_of_ble_eq_true rfl)) d_Mo_number_67 ⟨(Nat.le_of_ble_eq_true rfl), (Nat.le_of_ble_eq_true rfl)⟩) hS (fun q _ h => hFc q h) hFc (fun r u t H1 locs ht hvm hw hB hz1 hk1 hS => ?_)
  obtain ⟨hP1, hK1, hD1⟩ := hB
  rw [ht] at hP1
  exact k_67 r _ _ hw H1 locs ls (lv_sub hl [0, 1, 2, 3] rfl) hP1 (hD1.weaken (fun _ q _ h => hFc _ h)) hS
set_option maxHeartbeats 1000000 in
set_option maxRecDepth 100000 in
theorem k_Mo_number_70 {C : CT} (X : cM C "QuestionTextModel" b_Mo_number 4 (some .int)) (Post : Int32 → FT → GT → Prop) (x1 : Int32) (x2 : Int32) (x3 : Int32) (y0 : Int32) (y1 : Int32) (f : FT) (g : GT)
    (k_36 : zn_number C Post 36 [(0, .ref (ad C.1 0)), (1, .int x1), (2, .int x2), (3, .int ((y1 + y0) - 48))] [] (va_up (va_up f 7 ((f 7) + 1)) 5 ((f 5) + 1)) g) : zn_number C Post 70 [(0, .ref (ad C.1 0)), (1, .int x1), (2, .int x2), (3, .int x3)] [.int y0, .int y1] f g := by
  obtain ⟨⟨l, dC, dI, k, a⟩, p, e, s, m, args, below, meth, c, A⟩ := C
  obtain ⟨hx, hb, hr, htz, hown, hlocks, hml, hE, hK, hA⟩ := X
  intro H locs ls hl hP hD hS
  have hl : lv_has ls 4 [(0, .ref (a 0)), (1, .int x1), (2, .int x2), (3, .int x3)] := hl
  have hP : va_P (dC, dI) classes (mw k a f g) H := hP
  have hD : va_D A (mw k a f g) := hD
  show W p l e (z_rm 2 0 0) s m args below meth c H locs 0 0 _ (F0 m 70 ls [.int y0, .int y1])
  refine lv_iadd hx hb d_Mo_number_70 ?_
  refine lv_bipush (v := 48) hx hb d_Mo_number_71 (by decide) ?_
  refine lv_isub hx hb d_Mo_number_73 ?_
  refine lv_istore_n (lv' := [(3, .int ((y1 + y0) - 48)), (0, .ref (a 0)), (1, .int x1), (2, .int x2)]) hx hb d_Mo_number_74 rfl hl (by decide) rfl (fun ls hl => ?_)
  refine lv_aload_n hx hb d_Mo_number_75 rfl (lv_at hl 1 rfl) ?_
  refine lv_dup hx hb d_Mo_number_76 rfl ?_
  refine va_get (D := (dC, dI)) (ci := 4) (v := .int (f 7)) (C := R_Mo) (T := F_Mo) (N := 31) hx hb htz i_Mo hown hK hP 0 rfl rfl 20 (by decide) (htz _ kf_Mo_100) (fun _ h9 => h9) rfl d_Mo_number_77 ?_
  refine lv_iconst (v := 1) hx hb d_Mo_number_80 (by decide) ?_
  refine lv_iadd hx hb d_Mo_number_81 ?_
  refine va_put (D := (dC, dI)) (ci := 4) (v := .int ((f 7) + 1)) (ty := .int) (C := R_Mo) (T := F_Mo) (N := 31) hx hb htz i_Mo t_Mo o_Mo n_Mo hown hK hP hD hS 0 rfl rfl 20 (by decide) (htz _ kf_Mo_100) (fun _ h9 => h9) rfl (by decide +kernel) rfl rfl (Nat.le_of_ble_eq_true rfl) d_Mo_number_82 (fun H locs hP hD hS => ?_)
  have hP : va_P (dC, dI) classes (mw k a (va_up f 7 ((f 7) + 1)) g) H := hP
  have hD : va_D A (mw k a (va_up f 7 ((f 7) + 1)) g) := hD
  refine lv_aload_n hx hb d_Mo_number_85 rfl (lv_at hl 1 rfl) ?_
  refine lv_dup hx hb d_Mo_number_86 rfl ?_
  refine va_get (D := (dC, dI)) (ci := 4) (v := .int (f 5)) (C := R_Mo) (T := F_Mo) (N := 31) hx hb htz i_Mo hown hK hP 0 rfl rfl 18 (by decide) (htz _ kf_Mo_79) (fun _ h9 => h9) rfl d_Mo_number_87 ?_
  refine lv_iconst (v := 1) hx hb d_Mo_number_90 (by decide) ?_
  refine lv_iadd hx hb d_Mo_number_91 ?_
  refine va_put (D := (dC, dI)) (ci := 4) (v := .int ((f 5) + 1)) (ty := .int) (C := R_Mo) (T := F_Mo) (N := 31) hx hb htz i_Mo t_Mo o_Mo n_Mo hown hK hP hD hS 0 rfl rfl 18 (by decide) (htz _ kf_Mo_79) (fun _ h9 => h9) rfl (by decide +kernel) rfl rfl (Nat.le_of_ble_eq_true rfl) d_Mo_number_92 (fun H locs hP hD hS => ?_)
  have hP : va_P (dC, dI) classes (mw k a (va_up (va_up f 7 ((f 7) + 1)) 5 ((f 5) + 1)) g) H := hP
  have hD : va_D A (mw k a (va_up (va_up f 7 ((f 7) + 1)) 5 ((f 5) + 1)) g) := hD
  refine lv_goto (tgt := 36) hx hb d_Mo_number_95 (by decide) ?_
  exact k_36 H locs ls (lv_sub hl [1, 2, 3, 0] rfl) hP hD hS
set_option maxHeartbeats 1000000 in
set_option maxRecDepth 100000 in
theorem k_Mo_number_98 {C : CT} (X : cM C "QuestionTextModel" b_Mo_number 4 (some .int)) (Post : Int32 → FT → GT → Prop) {P_107 : Int32 → FT → GT → Prop} (x1 : Int32) (x2 : Int32) (x3 : Int32) (f : FT) (g : GT)
    (k_121 : (¬ f 7 = 4) → zn_number C Post 121 [(0, .ref (ad C.1 0)), (1, .int x1), (2, .int x2), (3, .int x3)] [] f g)
    (m_107 : (f 7 = 4) → mI C.1 y_Mo_isDigit (Cond.code y_Mo_isDigit b_Mo_isDigit 1 (some .boolean)) 1 [.ref (ad C.1 0)] f g P_107)
    (k_107 : (f 7 = 4) → ∀ (r : Int32) (f1 : FT) (g1 : GT), P_107 r f1 g1 → zn_number C Post 110 [(0, .ref (ad C.1 0)), (1, .int x1), (2, .int x2), (3, .int x3)] [.int r] f1 g1) : zn_number C Post 98 [(0, .ref (ad C.1 0)), (1, .int x1), (2, .int x2), (3, .int x3)] [] f g := by
  obtain ⟨⟨l, dC, dI, k, a⟩, p, e, s, m, args, below, meth, c, A⟩ := C
  obtain ⟨hx, hb, hr, htz, hown, hlocks, hml, hE, hK, hA⟩ := X
  intro H locs ls hl hP hD hS
  have hl : lv_has ls 4 [(0, .ref (a 0)), (1, .int x1), (2, .int x2), (3, .int x3)] := hl
  have hP : va_P (dC, dI) classes (mw k a f g) H := hP
  have hD : va_D A (mw k a f g) := hD
  show W p l e (z_rm 2 0 0) s m args below meth c H locs 0 0 _ (F0 m 98 ls [])
  refine lv_aload_n hx hb d_Mo_number_98 rfl (lv_at hl 0 rfl) ?_
  refine va_get (D := (dC, dI)) (ci := 4) (v := .int (f 7)) (C := R_Mo) (T := F_Mo) (N := 31) hx hb htz i_Mo hown hK hP 0 rfl rfl 20 (by decide) (htz _ kf_Mo_100) (fun _ h9 => h9) rfl d_Mo_number_99 ?_
  refine lv_iconst (v := 4) hx hb d_Mo_number_102 (by decide) ?_
  refine lv_icmp_ne (tgt := 121) hx hb d_Mo_number_103 (by decide) (fun c_103 => ?_) (fun c_103 => ?_)
  · exact (k_121 c_103) H locs ls (lv_sub hl [0, 1, 2, 3] rfl) hP hD hS
  · refine lv_aload_n hx hb d_Mo_number_106 rfl (lv_at hl 0 rfl) ?_
    have hFc := va_free (wc := mw k a f g) hD hS hA [0, 1, 2, 3, 4, 5, 6, 7, 8, 9, 10, 11, 12, 13, 14, 15, 16, 17, 18] rfl
    refine va_calli (va_runV (As := []) (rest := []) ⟨hx, hb, hml, hown, htz⟩ ((m_107 c_103) H.size) (cwV 0 htz (z_gV (fun _ h => h) km_Mo_96 in_Mo_isDigit se_Mo_isDigit ini_Mo m_Mo_isDigit) rfl rfl rfl (by decide +kernel) ⟨(Nat.le_of_ble_eq_true rfl), (Nat.le_of_ble_eq_true rfl)⟩) ⟨z_blind, va_recv hK hP (ci := 4) (q0 := 0) rfl rfl, fun U hU hW => ⟨rfl, by rw [hU], hE.call hS hFc hU hW, by rw [hU]; exact hP, va_K.moved hW.alike hK, hD.weaken (fun _ _ _ _ => trivial)⟩⟩ rfl rfl hl.1 rfl (lv_room (Nat.le_of_ble_eq_true rfl)) d_Mo_number_107 ⟨(Nat.le_of_ble_eq_true rfl), (Nat.le_of_ble_eq_true rfl)⟩) hS (fun q _ h => hFc q h) hFc (fun r u t H1 locs ht hvm hw hB hz1 hk1 hS => ?_)
    obtain ⟨hP1, hK1, hD1⟩ := hB
    rw [ht] at hP1
    exact (k_107 c_103) r _ _ hw H1 locs ls (lv_sub hl [0, 1, 2, 3] rfl) hP1 (hD1.weaken (fun _ q _ h => hFc _ h)) hS
set_option maxHeartbeats 1000000 in
set_option maxRecDepth 100000 in
theorem k_Mo_number_110 {C : CT} (X : cM C "QuestionTextModel" b_Mo_number 4 (some .int)) (Post : Int32 → FT → GT → Prop) {P_118 : FT → GT → Prop} (x1 : Int32) (x2 : Int32) (x3 : Int32) (y0 : Int32) (f : FT) (g : GT)
    (k_121 : (y0 = 0) → zn_number C Post 121 [(0, .ref (ad C.1 0)), (1, .int x1), (2, .int x2), (3, .int x3)] [] f g)
    (m_118 : (¬ y0 = 0) → mV C.1 y_Mo_fail (Cond.code y_Mo_fail b_Mo_fail 2 none) 0 [.ref (ad C.1 0), .int (f 5)] f g P_118)
    (k_118 : (¬ y0 = 0) → ∀ (f1 : FT) (g1 : GT), P_118 f1 g1 → zn_number C Post 121 [(0, .ref (ad C.1 0)), (1, .int x1), (2, .int x2), (3, .int x3)] [] f1 g1) : zn_number C Post 110 [(0, .ref (ad C.1 0)), (1, .int x1), (2, .int x2), (3, .int x3)] [.int y0] f g := by
  obtain ⟨⟨l, dC, dI, k, a⟩, p, e, s, m, args, below, meth, c, A⟩ := C
  obtain ⟨hx, hb, hr, htz, hown, hlocks, hml, hE, hK, hA⟩ := X
  intro H locs ls hl hP hD hS
  have hl : lv_has ls 4 [(0, .ref (a 0)), (1, .int x1), (2, .int x2), (3, .int x3)] := hl
  have hP : va_P (dC, dI) classes (mw k a f g) H := hP
  have hD : va_D A (mw k a f g) := hD
  show W p l e (z_rm 2 0 0) s m args below meth c H locs 0 0 _ (F0 m 110 ls [.int y0])
  refine lv_if_eq (tgt := 121) hx hb d_Mo_number_110 (by decide) (fun c_110 => ?_) (fun c_110 => ?_)
  · exact (k_121 c_110) H locs ls (lv_sub hl [0, 1, 2, 3] rfl) hP hD hS
  · refine lv_aload_n hx hb d_Mo_number_113 rfl (lv_at hl 0 rfl) ?_
    refine lv_aload_n hx hb d_Mo_number_114 rfl (lv_at hl 0 rfl) ?_
    refine va_get (D := (dC, dI)) (ci := 4) (v := .int (f 5)) (C := R_Mo) (T := F_Mo) (N := 31) hx hb htz i_Mo hown hK hP 0 rfl rfl 18 (by decide) (htz _ kf_Mo_79) (fun _ h9 => h9) rfl d_Mo_number_115 ?_
    have hFc := va_free (wc := mw k a f g) hD hS hA [0, 1, 2, 3, 4, 5, 6, 7, 8, 9, 10, 11, 12, 13, 14, 15, 16, 17, 18] rfl
    refine va_callv (va_runV (As := [.int (f 5)]) (rest := []) ⟨hx, hb, hml, hown, htz⟩ ((m_118 c_110) H.size) (cwV 1 htz (z_gV (fun _ h => h) km_Mo_92 in_Mo_fail se_Mo_fail ini_Mo m_Mo_fail) rfl rfl rfl (by decide +kernel) ⟨(Nat.le_of_ble_eq_true rfl), (Nat.le_of_ble_eq_true rfl)⟩) ⟨z_blind, va_recv hK hP (ci := 4) (q0 := 0) rfl rfl, fun U hU hW => ⟨rfl, by rw [hU], hE.call hS hFc hU hW, by rw [hU]; exact hP, va_K.moved hW.alike hK, hD.weaken (fun _ _ _ _ => trivial)⟩⟩ rfl rfl hl.1 rfl (lv_room (Nat.le_of_ble_eq_true rfl)) d_Mo_number_118 ⟨(Nat.le_of_ble_eq_true rfl), (Nat.le_of_ble_eq_true rfl)⟩) hS (fun q _ h => hFc q h) hFc (fun u t H1 locs ht hvm hw hB hz1 hk1 hS => ?_)
    obtain ⟨hP1, hK1, hD1⟩ := hB
    rw [ht] at hP1
    exact (k_118 c_110) _ _ hw H1 locs ls (lv_sub hl [0, 1, 2, 3] rfl) hP1 (hD1.weaken (fun _ q _ h => hFc _ h)) hS
set_option maxHeartbeats 1000000 in
set_option maxRecDepth 100000 in
theorem k_Mo_number_121 {C : CT} (X : cM C "QuestionTextModel" b_Mo_number 4 (some .int)) (Post : Int32 → FT → GT → Prop) {P_124 : Int32 → FT → GT → Prop} (x1 : Int32) (x2 : Int32) (x3 : Int32) (f : FT) (g : GT)
    (m_124 : mI C.1 y_Mo_in (Cond.code y_Mo_in b_Mo_in 3 (some .boolean)) 0 [.int x3, .int x1, .int x2] f g P_124)
    (k_124 : ∀ (r : Int32) (f1 : FT) (g1 : GT), P_124 r f1 g1 → zn_number C Post 127 [(0, .ref (ad C.1 0)), (1, .int x1), (2, .int x2), (3, .int x3)] [.int r] f1 g1) : zn_number C Post 121 [(0, .ref (ad C.1 0)), (1, .int x1), (2, .int x2), (3, .int x3)] [] f g := by
  obtain ⟨⟨l, dC, dI, k, a⟩, p, e, s, m, args, below, meth, c, A⟩ := C
  obtain ⟨hx, hb, hr, htz, hown, hlocks, hml, hE, hK, hA⟩ := X
  intro H locs ls hl hP hD hS
  have hl : lv_has ls 4 [(0, .ref (a 0)), (1, .int x1), (2, .int x2), (3, .int x3)] := hl
  have hP : va_P (dC, dI) classes (mw k a f g) H := hP
  have hD : va_D A (mw k a f g) := hD
  show W p l e (z_rm 2 0 0) s m args below meth c H locs 0 0 _ (F0 m 121 ls [])
  refine lv_iload_n hx hb d_Mo_number_121 rfl (lv_at hl 3 rfl) ?_
  refine lv_iload_n hx hb d_Mo_number_122 rfl (lv_at hl 1 rfl) ?_
  refine lv_iload_n hx hb d_Mo_number_123 rfl (lv_at hl 2 rfl) ?_
  have hFc := va_free (wc := mw k a f g) hD hS hA [0, 1, 2, 3, 4, 5, 6, 7, 8, 9, 10, 11, 12, 13, 14, 15, 16, 17, 18] rfl
  refine va_calli (va_runS (As := [.int x3, .int x1, .int x2]) (rest := []) ⟨hx, hb, hml, hown, htz⟩ (m_124 H.size) (va_cwS 3 htz (z_gS (fun _ h => h) km_Mo_72 st_Mo_in ini_Mo m_Mo_in) rfl rfl rfl (by decide +kernel) ⟨(Nat.le_of_ble_eq_true rfl), (Nat.le_of_ble_eq_true rfl)⟩) ⟨z_blind, fun U hU hW => ⟨rfl, by rw [hU], hE.call hS hFc hU hW, by rw [hU]; exact hP, va_K.moved hW.alike hK, hD.weaken (fun _ _ _ _ => trivial)⟩⟩ rfl rfl hl.1 rfl (lv_room (Nat.le_of_ble_eq_true rfl)) d_Mo_number_124 ⟨(Nat.le_of_ble_eq_true rfl), (Nat.le_of_ble_eq_true rfl)⟩) hS (fun q _ h => hFc q h) hFc (fun r u t H1 locs ht hvm hw hB hz1 hk1 hS => ?_)
  obtain ⟨hP1, hK1, hD1⟩ := hB
  rw [ht] at hP1
  exact k_124 r _ _ hw H1 locs ls (lv_sub hl [0, 1, 2, 3] rfl) hP1 (hD1.weaken (fun _ q _ h => hFc _ h)) hS
set_option maxHeartbeats 1000000 in
set_option maxRecDepth 100000 in
theorem k_Mo_number_127 {C : CT} (X : cM C "QuestionTextModel" b_Mo_number 4 (some .int)) (Post : Int32 → FT → GT → Prop) {P_137 : FT → GT → Prop} (x1 : Int32) (x2 : Int32) (x3 : Int32) (y0 : Int32) (f : FT) (g : GT)
    (k_140 : (¬ y0 = 0) → zn_number C Post 140 [(0, .ref (ad C.1 0)), (1, .int x1), (2, .int x2), (3, .int x3)] [] f g)
    (m_137 : (y0 = 0) → mV C.1 y_Mo_fail (Cond.code y_Mo_fail b_Mo_fail 2 none) 0 [.ref (ad C.1 0), .int ((f 5) - 1)] f g P_137)
    (k_137 : (y0 = 0) → ∀ (f1 : FT) (g1 : GT), P_137 f1 g1 → zn_number C Post 140 [(0, .ref (ad C.1 0)), (1, .int x1), (2, .int x2), (3, .int x3)] [] f1 g1) : zn_number C Post 127 [(0, .ref (ad C.1 0)), (1, .int x1), (2, .int x2), (3, .int x3)] [.int y0] f g := by
  obtain ⟨⟨l, dC, dI, k, a⟩, p, e, s, m, args, below, meth, c, A⟩ := C
  obtain ⟨hx, hb, hr, htz, hown, hlocks, hml, hE, hK, hA⟩ := X
  intro H locs ls hl hP hD hS
  have hl : lv_has ls 4 [(0, .ref (a 0)), (1, .int x1), (2, .int x2), (3, .int x3)] := hl
  have hP : va_P (dC, dI) classes (mw k a f g) H := hP
  have hD : va_D A (mw k a f g) := hD
  show W p l e (z_rm 2 0 0) s m args below meth c H locs 0 0 _ (F0 m 127 ls [.int y0])
  refine lv_if_ne (tgt := 140) hx hb d_Mo_number_127 (by decide) (fun c_127 => ?_) (fun c_127 => ?_)
  · exact (k_140 c_127) H locs ls (lv_sub hl [0, 1, 2, 3] rfl) hP hD hS
  · refine lv_aload_n hx hb d_Mo_number_130 rfl (lv_at hl 0 rfl) ?_
    refine lv_aload_n hx hb d_Mo_number_131 rfl (lv_at hl 0 rfl) ?_
    refine va_get (D := (dC, dI)) (ci := 4) (v := .int (f 5)) (C := R_Mo) (T := F_Mo) (N := 31) hx hb htz i_Mo hown hK hP 0 rfl rfl 18 (by decide) (htz _ kf_Mo_79) (fun _ h9 => h9) rfl d_Mo_number_132 ?_
    refine lv_iconst (v := 1) hx hb d_Mo_number_135 (by decide) ?_
    refine lv_isub hx hb d_Mo_number_136 ?_
    have hFc := va_free (wc := mw k a f g) hD hS hA [0, 1, 2, 3, 4, 5, 6, 7, 8, 9, 10, 11, 12, 13, 14, 15, 16, 17, 18] rfl
    refine va_callv (va_runV (As := [.int ((f 5) - 1)]) (rest := []) ⟨hx, hb, hml, hown, htz⟩ ((m_137 c_127) H.size) (cwV 1 htz (z_gV (fun _ h => h) km_Mo_92 in_Mo_fail se_Mo_fail ini_Mo m_Mo_fail) rfl rfl rfl (by decide +kernel) ⟨(Nat.le_of_ble_eq_true rfl), (Nat.le_of_ble_eq_true rfl)⟩) ⟨z_blind, va_recv hK hP (ci := 4) (q0 := 0) rfl rfl, fun U hU hW => ⟨rfl, by rw [hU], hE.call hS hFc hU hW, by rw [hU]; exact hP, va_K.moved hW.alike hK, hD.weaken (fun _ _ _ _ => trivial)⟩⟩ rfl rfl hl.1 rfl (lv_room (Nat.le_of_ble_eq_true rfl)) d_Mo_number_137 ⟨(Nat.le_of_ble_eq_true rfl), (Nat.le_of_ble_eq_true rfl)⟩) hS (fun q _ h => hFc q h) hFc (fun u t H1 locs ht hvm hw hB hz1 hk1 hS => ?_)
    obtain ⟨hP1, hK1, hD1⟩ := hB
    rw [ht] at hP1
    exact (k_137 c_127) _ _ hw H1 locs ls (lv_sub hl [0, 1, 2, 3] rfl) hP1 (hD1.weaken (fun _ q _ h => hFc _ h)) hS
set_option maxHeartbeats 1000000 in
set_option maxRecDepth 100000 in
theorem k_Mo_number_140 {C : CT} (X : cM C "QuestionTextModel" b_Mo_number 4 (some .int)) (Post : Int32 → FT → GT → Prop) (x1 : Int32) (x2 : Int32) (x3 : Int32) (f : FT) (g : GT)
    (k_152 : (0 ≤ f 6) → zn_number C Post 152 [(0, .ref (ad C.1 0)), (1, .int x1), (2, .int x2), (3, .int x3)] [.int x1] f g)
    (k_152_1 : (¬ 0 ≤ f 6) → zn_number C Post 152 [(0, .ref (ad C.1 0)), (1, .int x1), (2, .int x2), (3, .int x3)] [.int x3] f g) : zn_number C Post 140 [(0, .ref (ad C.1 0)), (1, .int x1), (2, .int x2), (3, .int x3)] [] f g := by
  obtain ⟨⟨l, dC, dI, k, a⟩, p, e, s, m, args, below, meth, c, A⟩ := C
  obtain ⟨hx, hb, hr, htz, hown, hlocks, hml, hE, hK, hA⟩ := X
  intro H locs ls hl hP hD hS
  have hl : lv_has ls 4 [(0, .ref (a 0)), (1, .int x1), (2, .int x2), (3, .int x3)] := hl
  have hP : va_P (dC, dI) classes (mw k a f g) H := hP
  have hD : va_D A (mw k a f g) := hD
  show W p l e (z_rm 2 0 0) s m args below meth c H locs 0 0 _ (F0 m 140 ls [])
  refine lv_aload_n hx hb d_Mo_number_140 rfl (lv_at hl 0 rfl) ?_
  refine va_get (D := (dC, dI)) (ci := 4) (v := .int (f 6)) (C := R_Mo) (T := F_Mo) (N := 31) hx hb htz i_Mo hown hK hP 0 rfl rfl 19 (by decide) (htz _ kf_Mo_86) (fun _ h9 => h9) rfl d_Mo_number_141 ?_
  refine lv_if_ge (tgt := 151) hx hb d_Mo_number_144 (by decide) (fun c_144 => ?_) (fun c_144 => ?_)
  · refine lv_iload_n hx hb d_Mo_number_151 rfl (lv_at hl 1 rfl) ?_
    exact (k_152 c_144) H locs ls (lv_sub hl [0, 1, 2, 3] rfl) hP hD hS
  · refine lv_iload_n hx hb d_Mo_number_147 rfl (lv_at hl 3 rfl) ?_
    refine lv_goto (tgt := 152) hx hb d_Mo_number_148 (by decide) ?_
    exact (k_152_1 c_144) H locs ls (lv_sub hl [0, 1, 2, 3] rfl) hP hD hS
set_option maxHeartbeats 1000000 in
set_option maxRecDepth 100000 in
theorem k_Mo_number_152 {C : CT} (X : cM C "QuestionTextModel" b_Mo_number 4 (some .int)) (Post : Int32 → FT → GT → Prop) (x1 : Int32) (x2 : Int32) (x3 : Int32) (y0 : Int32) (f : FT) (g : GT)
    (q_152 : Post (y0) f g) : zn_number C Post 152 [(0, .ref (ad C.1 0)), (1, .int x1), (2, .int x2), (3, .int x3)] [.int y0] f g := by
  obtain ⟨⟨l, dC, dI, k, a⟩, p, e, s, m, args, below, meth, c, A⟩ := C
  obtain ⟨hx, hb, hr, htz, hown, hlocks, hml, hE, hK, hA⟩ := X
  intro H locs ls hl hP hD hS
  have hl : lv_has ls 4 [(0, .ref (a 0)), (1, .int x1), (2, .int x2), (3, .int x3)] := hl
  have hP : va_P (dC, dI) classes (mw k a f g) H := hP
  have hD : va_D A (mw k a f g) := hD
  show W p l e (z_rm 2 0 0) s m args below meth c H locs 0 0 _ (F0 m 152 ls [.int y0])
  exact W.iret (v := y0) hx hb hr (fun t ht hW => ⟨⟨_, (f, g), rfl, q_152, by rw [ht]; exact hP, va_K.moved hW.alike hK, hD⟩, hS.F ht⟩) hS.2.2 d_Mo_number_152
set_option maxHeartbeats 1000000 in
set_option maxRecDepth 100000 in
theorem e_Mo_number (T : ST) (Post : Int32 → FT → GT → Prop) (x1 : Int32) (x2 : Int32) (f : FT) (g : GT) (h : ∀ C : CT, C.1 = T → cM C "QuestionTextModel" b_Mo_number 4 (some .int) → zn_number C Post 0 [(0, .ref (ad C.1 0)), (1, .int x1), (2, .int x2)] [] f g) : mI T y_Mo_number (Cond.code y_Mo_number b_Mo_number 4 (some .int)) 2 [.ref (ad T 0), .int x1, .int x2] f g Post := by
  obtain ⟨l, dC, dI, k, a⟩ := T
  intro sz
  refine Met.ofW (cc := b_Mo_number) (maxL := 4) (ret := (some .int)) (by decide) rfl ?_
  intro p e s m args below meth c s₁ B hml hv
  obtain ⟨rfl, hsz, hE, hP, hK, hD0⟩ := hv
  have hts := atoms_spec (ws := (Cond.code y_Mo_number b_Mo_number 4 (some .int)) :: z_T) B.pre
  have htz : ∀ w ∈ z_T, w.before _ s = true := fun w h => hts w (z_cons w h)
  subst hsz
  have hD := hD0.self (sz := s.heap.size)
  generalize hAe : va_A (mw k a f g) s.heap.size = A at hD hE ⊢
  have hA : ∀ q : Nat, s.heap.size ≤ q → A q := fun q h => by rw [← hAe]; exact Or.inr h
  have hl := lv_entry ([.ref (a 0), .int x1, .int x2]) (n := 4) (Nat.le_of_ble_eq_true rfl)
  rw [lg_entry_eq]
  generalize (lg_sl ([.ref (a 0), .int x1, .int x2]) ++ List.replicate (4 - (lg_sl ([.ref (a 0), .int x1, .int x2])).length) Slot.unset).toArray = ls at hl ⊢
  exact h ((l, dC, dI, k, a), p, e, s, m, ([.ref (a 0), .int x1, .int x2] : List Value).toArray, below, meth, c, A) rfl ⟨B.exec, B.bytes, B.returns, htz, findClass_of_methodNamed B.named, B.notSynchronized, hml, hE, hK, hA⟩ s.heap [] ls hl hP hD va_S.rf
end
