-- what holds at the start
theorem z_str {args : Array Value} {s : State} {own text : String} {i : Nat} (h1 : (Cond.stringRef own i text).before args s = true) (h2 : (Cond.exactly (.string own i) "java/lang/String").before args s = true) : ∃ a : Nat, vk_R own i text a s := by
  obtain ⟨a, c, cell, k, h, -⟩ := Cond.exactly_spec h2
  exact ⟨a, vk_R.of h1 h⟩
theorem z_ak {args : Array Value} {s : State} {ty : FieldType} (hp : ∀ C, ty ≠ .object C) (h : (Cond.arrayClass ty).before args s = true) : ∃ cA : ClassId, ArrOfT s cA ty ∧ va_RA s cA ty := by
  obtain ⟨cA, kA, comp, h1, h2, h3⟩ := Cond.arrayClass_spec h
  refine ⟨cA, fun N z => ⟨(fun j h => by cases h), kA, h2, comp, h3⟩, ?_⟩
  cases ty with
  | object C => exact absurd rfl (hp C)
  | _ => exact h1
theorem z_ok {args : Array Value} {s : State} {C : String} (h : (Cond.arrayOver (.object C)).before args s = true) : ∃ cA : ClassId, ArrOfT s cA (.object C) ∧ va_RA s cA (.object C) := by
  obtain ⟨comp, cA, kA, h1, h2, h3, h4, h5⟩ := Cond.arrayOver_spec h
  exact ⟨cA, fun N z => ⟨(fun j h => by cases h), kA, h3, comp, h4⟩, kA, comp, h3, h4, h1, h5⟩
set_option maxHeartbeats 1000000 in
set_option maxRecDepth 100000 in
theorem z_startL {s : State} {b : Nat} {A : Nat → Prop} (hts : ∀ w ∈ lw_tbl, w.before #[Value.ref b] s = true) (hgv : (Jvm.Cond.and given_1 narrow_1).before #[Value.ref b] s = true) (hA9 : ∀ a : Nat, a < s.heap.size → ¬ A a) : ∃ t : Nat, z_L t A s := by
  have hs := flat_of_before _ hgv
  obtain ⟨t, ht, hT⟩ := va_Tof (tm := .static "java/util/ArrayList" "DEFAULTCAPACITY_EMPTY_ELEMENTDATA" "[Ljava/lang/Object;") (f := fun _ => Value.null) (A := A) (N := 0) (by decide) (hs (.arrayOf (.static "java/util/ArrayList" "DEFAULTCAPACITY_EMPTY_ELEMENTDATA" "[Ljava/lang/Object;") (.object "java/lang/Object")) (by decide +kernel)) (va_eqt (hs (.eq (.length (.static "java/util/ArrayList" "DEFAULTCAPACITY_EMPTY_ELEMENTDATA" "[Ljava/lang/Object;")) (.int 0)) (by decide +kernel))) (fun j hj => absurd hj (Nat.not_lt_zero j)) hA9
  refine ⟨t, ?_, va_Zof (hts (.laysStatic "java/util/ArrayList" "DEFAULTCAPACITY_EMPTY_ELEMENTDATA" "[Ljava/lang/Object;") (z_mem 639 (by decide +kernel))) (hts (.initialized "java/util/ArrayList") (z_mem 65 (by decide +kernel))) ht hA9, hT⟩
  intro q hq
  simp only [z_FW, List.mem_cons, List.not_mem_nil, or_false] at hq
  rcases hq with rfl | rfl | rfl
  · exact va_Fw.of (hts (.declares ⟨"java/util/List", "add", "(Ljava/lang/Object;)Z"⟩) (z_mem 679 (by decide +kernel))) (hts (.interfaceMethod "java/util/List" "java/util/List" "add" "(Ljava/lang/Object;)Z") (z_mem 678 (by decide +kernel))) (hts (.publicMethod ⟨"java/util/ArrayList", "add", "(Ljava/lang/Object;)Z"⟩) (z_mem 684 (by decide +kernel))) (hts (.unhidden "java/util/ArrayList" "add" "(Ljava/lang/Object;)Z") (z_mem 682 (by decide +kernel))) (hts (.castable "java/util/ArrayList" "java/util/List") (z_mem 680 (by decide +kernel)))
  · exact va_Fw.of (hts (.declares ⟨"java/util/List", "size", "()I"⟩) (z_mem 846 (by decide +kernel))) (hts (.interfaceMethod "java/util/List" "java/util/List" "size" "()I") (z_mem 845 (by decide +kernel))) (hts (.publicMethod ⟨"java/util/ArrayList", "size", "()I"⟩) (z_mem 850 (by decide +kernel))) (hts (.unhidden "java/util/ArrayList" "size" "()I") (z_mem 848 (by decide +kernel))) (hts (.castable "java/util/ArrayList" "java/util/List") (z_mem 680 (by decide +kernel)))
  · exact va_Fw.of (hts (.declares ⟨"java/util/List", "get", "(I)Ljava/lang/Object;"⟩) (z_mem 855 (by decide +kernel))) (hts (.interfaceMethod "java/util/List" "java/util/List" "get" "(I)Ljava/lang/Object;") (z_mem 854 (by decide +kernel))) (hts (.publicMethod ⟨"java/util/ArrayList", "get", "(I)Ljava/lang/Object;"⟩) (z_mem 859 (by decide +kernel))) (hts (.unhidden "java/util/ArrayList" "get" "(I)Ljava/lang/Object;") (z_mem 857 (by decide +kernel))) (hts (.castable "java/util/ArrayList" "java/util/List") (z_mem 680 (by decide +kernel)))
set_option maxHeartbeats 1000000 in
set_option maxRecDepth 100000 in
theorem z_start {s : State} {b : Nat} {A : Nat → Prop} {k : Nat → ClassId} (hts : ∀ w ∈ lw_tbl, w.before #[Value.ref b] s = true) (hgv : (Jvm.Cond.and given_1 narrow_1).before #[Value.ref b] s = true) (hA9 : ∀ a : Nat, a < s.heap.size → ¬ A a) (hL : z_L (k 7) A s) : z_E k A s := by
  have hs := flat_of_before _ hgv
  refine ⟨hL, fun w hw => va_Nw.of (z_tab (List.mem_filter.mp hw).2) (hts w (List.mem_filter.mp hw).1), ?_, ?_, ?_, ?_, ?_⟩
  · intro C hC
    simp only [z_AO, List.mem_cons, List.not_mem_nil, or_false] at hC
    rcases hC with rfl | rfl | rfl | rfl
    · exact va_AO.of (hts (.arrayOver (.object "QuestionText$Question")) (z_mem 87 (by decide +kernel)))
    · exact va_AO.of (hts (.arrayOver (.object "QuestionText$Kind")) (z_mem 89 (by decide +kernel)))
    · exact va_AO.of (hts (.arrayOver (.object "QuestionText$Edition")) (z_mem 111 (by decide +kernel)))
    · exact va_AO.of (hts (.arrayOver (.object "java/lang/Object")) (z_mem 726 (by decide +kernel)))
  · intro q hq
    simp only [z_ST, List.mem_cons, List.not_mem_nil, or_false] at hq
    rcases hq with rfl | rfl | rfl | rfl | rfl | rfl | rfl | rfl | rfl | rfl | rfl | rfl | rfl | rfl
    · exact z_str (hts (.stringRef "QuestionText" 43 "1 to 8 bytes at once") (z_mem 253 (by decide +kernel))) (hs (.exactly (.string "QuestionText" 43) "java/lang/String") (by decide +kernel))
    · exact z_str (hts (.stringRef "QuestionText" 53 "a text has at most 400 bytes") (z_mem 289 (by decide +kernel))) (hs (.exactly (.string "QuestionText" 53) "java/lang/String") (by decide +kernel))
    · exact z_str (hts (.stringRef "QuestionText$TextReader" 131 "wrong here") (z_mem 346 (by decide +kernel))) (hs (.exactly (.string "QuestionText$TextReader" 131) "java/lang/String") (by decide +kernel))
    · exact z_str (hts (.stringRef "java/util/Arrays" 337 " > ") (z_mem 505 (by decide +kernel))) (hs (.exactly (.string "java/util/Arrays" 337) "java/lang/String") (by decide +kernel))
    · exact z_str (hts (.stringRef "QuestionText" 67 "the text is wrong") (z_mem 817 (by decide +kernel))) (hs (.exactly (.string "QuestionText" 67) "java/lang/String") (by decide +kernel))
    · exact z_str (hts (.stringRef "QuestionText" 69 "there are 8 editions") (z_mem 818 (by decide +kernel))) (hs (.exactly (.string "QuestionText" 69) "java/lang/String") (by decide +kernel))
    · exact z_str (hts (.stringRef "QuestionText" 91 "no such edition") (z_mem 883 (by decide +kernel))) (hs (.exactly (.string "QuestionText" 91) "java/lang/String") (by decide +kernel))
    · exact z_str (hts (.stringRef "QuestionText" 97 "no such kind in the edition") (z_mem 895 (by decide +kernel))) (hs (.exactly (.string "QuestionText" 97) "java/lang/String") (by decide +kernel))
    · exact z_str (hts (.stringRef "QuestionText" 121 "no question is asked") (z_mem 909 (by decide +kernel))) (hs (.exactly (.string "QuestionText" 121) "java/lang/String") (by decide +kernel))
    · exact z_str (hts (.stringRef "QuestionText" 129 "not an answer to this question") (z_mem 918 (by decide +kernel))) (hs (.exactly (.string "QuestionText" 129) "java/lang/String") (by decide +kernel))
    · exact z_str (hts (.stringRef "QuestionText" 143 "40 questions were asked") (z_mem 928 (by decide +kernel))) (hs (.exactly (.string "QuestionText" 143) "java/lang/String") (by decide +kernel))
    · exact z_str (hts (.stringRef "QuestionText" 153 "there is no call") (z_mem 936 (by decide +kernel))) (hs (.exactly (.string "QuestionText" 153) "java/lang/String") (by decide +kernel))
    · exact z_str (hts (.stringRef "QuestionText" 159 "below 0") (z_mem 973 (by decide +kernel))) (hs (.exactly (.string "QuestionText" 159) "java/lang/String") (by decide +kernel))
    · exact z_str (hts (.stringRef "QuestionText" 178 "no such question, language or byte") (z_mem 1006 (by decide +kernel))) (hs (.exactly (.string "QuestionText" 178) "java/lang/String") (by decide +kernel))
  · exact vx_Zqof (hts (.laysStatic "java/lang/Throwable" "UNASSIGNED_STACK" "[Ljava/lang/StackTraceElement;") (z_mem 240 (by decide +kernel))) (hts (.initialized "java/lang/Throwable") (z_mem 46 (by decide +kernel))) (hs (.isRef (.static "java/lang/Throwable" "UNASSIGNED_STACK" "[Ljava/lang/StackTraceElement;")) (by decide +kernel)) hA9
  · exact vx_Zqof (hts (.laysStatic "java/lang/Throwable" "SUPPRESSED_SENTINEL" "Ljava/util/List;") (z_mem 242 (by decide +kernel))) (hts (.initialized "java/lang/Throwable") (z_mem 46 (by decide +kernel))) (hs (.isRef (.static "java/lang/Throwable" "SUPPRESSED_SENTINEL" "Ljava/util/List;")) (by decide +kernel)) hA9
  · exact va_Nc.of (hs (.not (.castable "java/lang/IllegalStateException" "java/lang/IllegalArgumentException")) (by decide +kernel))
set_option maxHeartbeats 1000000 in
theorem z_startK {s : State} {b : Nat} (t : Nat) (hts : ∀ w ∈ lw_tbl, w.before #[Value.ref b] s = true) : ∃ (dC : Nat → ClassId) (dI : Nat → Nat → Nat) (k : Nat → ClassId), k 7 = t ∧ va_K (dC, dI) classes (z_ty k) s := by
  have htz : ∀ w ∈ z_T, w.before #[Value.ref b] s = true := fun w h => hts w (z_lw h)
  obtain ⟨c0, s0, h0⟩ := u_known (C := R_Q) (T := F_Q) (N := 6) (n := 6) htz i_Q (htz _ mk_Q)
  obtain ⟨c1, s1, h1⟩ := u_known (C := R_TR) (T := F_TR) (N := 5) (n := 5) htz i_TR (htz _ mk_TR)
  obtain ⟨c2, s2, h2⟩ := u_known (C := R_Ca) (T := F_Ca) (N := 6) (n := 6) htz i_Ca (htz _ mk_Ca)
  obtain ⟨c3, s3, h3⟩ := u_known (C := R_Ed) (T := F_Ed) (N := 6) (n := 6) htz i_Ed (htz _ mk_Ed)
  obtain ⟨c4, s4, h4⟩ := u_known (C := R_Mo) (T := F_Mo) (N := 31) (n := 31) htz i_Mo (htz _ mk_Mo)
  obtain ⟨c5, s5, h5⟩ := u_known (C := R_Ki) (T := F_Ki) (N := 3) (n := 3) htz i_Ki (htz _ mk_Ki)
  obtain ⟨c6, s6, h6⟩ := u_known (C := R_Qu) (T := F_Qu) (N := 6) (n := 6) htz i_Qu (htz _ mk_Qu)
  obtain ⟨c7, s7, h7⟩ := u_known (C := R_Sp) (T := F_Sp) (N := 2) (n := 2) htz i_Sp (htz _ mk_Sp)
  obtain ⟨c8, s8, h8⟩ := u_known (C := R_Ju) (T := F_Ju) (N := 3) (n := 3) htz i_Ju (htz _ mk_Ju)
  obtain ⟨c9, s9, h9⟩ := u_known (C := R_Te) (T := F_Te) (N := 3) (n := 3) htz i_Te (htz _ mk_Te)
  obtain ⟨c10, s10, h10⟩ := u_known (C := R_Co) (T := F_Co) (N := 2) (n := 2) htz i_Co (htz _ mk_Co)
  obtain ⟨c11, s11, h11⟩ := u_known (C := R_AL) (T := F_AL) (N := 3) (n := 3) htz i_AL (htz _ mk_AL)
  obtain ⟨k0, g0⟩ := z_ak (by intro C h; cases h) (htz (.arrayClass .int) az_int)
  obtain ⟨k1, g1⟩ := z_ak (by intro C h; cases h) (htz (.arrayClass .long) az_long)
  obtain ⟨k2, g2⟩ := z_ak (by intro C h; cases h) (htz (.arrayClass .boolean) az_boolean)
  obtain ⟨k3, g3⟩ := z_ok (hts (.arrayOver (.object "QuestionText$Question")) (z_mem 87 (by decide +kernel)))
  obtain ⟨k4, g4⟩ := z_ok (hts (.arrayOver (.object "QuestionText$Kind")) (z_mem 89 (by decide +kernel)))
  obtain ⟨k5, g5⟩ := z_ok (hts (.arrayOver (.object "QuestionText$Edition")) (z_mem 111 (by decide +kernel)))
  obtain ⟨k6, g6⟩ := z_ok (hts (.arrayOver (.object "java/lang/Object")) (z_mem 726 (by decide +kernel)))
  refine ⟨(fun j => match j with | 0 => c0 | 1 => c1 | 2 => c2 | 3 => c3 | 4 => c4 | 5 => c5 | 6 => c6 | 7 => c7 | 8 => c8 | 9 => c9 | 10 => c10 | _ => c11), (fun j => match j with | 0 => s0 | 1 => s1 | 2 => s2 | 3 => s3 | 4 => s4 | 5 => s5 | 6 => s6 | 7 => s7 | 8 => s8 | 9 => s9 | 10 => s10 | _ => s11), (fun j => match j with | 0 => k0 | 1 => k1 | 2 => k2 | 3 => k3 | 4 => k4 | 5 => k5 | 6 => k6 | _ => t), rfl, ?_, ?_⟩
  · intro j q hq
    match j, hq with
    | 0, hq => cases hq; exact h0
    | 1, hq => cases hq; exact h1
    | 2, hq => cases hq; exact h2
    | 3, hq => cases hq; exact h3
    | 4, hq => cases hq; exact h4
    | 5, hq => cases hq; exact h5
    | 6, hq => cases hq; exact h6
    | 7, hq => cases hq; exact h7
    | 8, hq => cases hq; exact h8
    | 9, hq => cases hq; exact h9
    | 10, hq => cases hq; exact h10
    | 11, hq => cases hq; exact h11
    | j + 12, hq => simp [classes] at hq
  · intro j q hq
    match j, hq with
    | 0, hq => cases hq; exact g0
    | 1, hq => cases hq; exact g1
    | 2, hq => cases hq; exact g2
    | 3, hq => cases hq; exact g3
    | 4, hq => cases hq; exact g4
    | 5, hq => cases hq; exact g5
    | 6, hq => cases hq; exact g6
    | j + 7, hq => simp [z_ty] at hq
