-- names: classes, their fields, methods, the places of the words (printed by wip/whole/names.py)
def R_Q : String := "QuestionText"
def F_Q : u_T := fun k => match k with
  | 0 => ("QuestionText", "reader", "LQuestionText$TextReader;", true)
  | 1 => ("QuestionText", "editions", "[LQuestionText$Edition;", true)
  | 2 => ("QuestionText", "call", "LQuestionText$Call;", true)
  | 3 => ("QuestionText", "chosen", "LQuestionText$Edition;", false)
  | 4 => ("QuestionText", "made", "I", false)
  | _ => ("QuestionText", "wrongPlace", "I", false)
def t_Q : Nat → FieldType := fun k => match k with
  | 0 => .object "QuestionText$TextReader"
  | 1 => .array (.object "QuestionText$Edition")
  | 2 => .object "QuestionText$Call"
  | 3 => .object "QuestionText$Edition"
  | 4 => .int
  | _ => .int
theorem n_Q : ∀ a, a < 6 → ∀ b, b < 6 → a ≠ b → (F_Q a).2.1 ≠ (F_Q b).2.1 := by decide +kernel
theorem o_Q : ∀ k, k < 6 → parseFieldDescriptor (F_Q k).2.2.1 = some (t_Q k) := by decide +kernel
theorem i_Q : ∀ w ∈ u_ws R_Q F_Q 6, w ∈ z_T := by
  intro w hw
  obtain ⟨k, hk, rfl⟩ := List.mem_map.mp hw
  have hk := List.mem_range.mp hk
  match k, hk with
  | 0, _ => exact z_in (z_mem 183 (by decide +kernel)) rfl
  | 1, _ => exact z_in (z_mem 185 (by decide +kernel)) rfl
  | 2, _ => exact z_in (z_mem 187 (by decide +kernel)) rfl
  | 3, _ => exact z_in (z_mem 189 (by decide +kernel)) rfl
  | 4, _ => exact z_in (z_mem 191 (by decide +kernel)) rfl
  | 5, _ => exact z_in (z_mem 193 (by decide +kernel)) rfl
  | k + 6, h => exact absurd h (by omega)
def R_TR : String := "QuestionText$TextReader"
def F_TR : u_T := fun k => match k with
  | 0 => ("QuestionText$TextReader", "tape", "[I", true)
  | 1 => ("QuestionText$TextReader", "questions", "[LQuestionText$Question;", true)
  | 2 => ("QuestionText$TextReader", "kinds", "[LQuestionText$Kind;", true)
  | 3 => ("QuestionText$TextReader", "length", "I", false)
  | _ => ("QuestionText$TextReader", "at", "I", false)
def t_TR : Nat → FieldType := fun k => match k with
  | 0 => .array .int
  | 1 => .array (.object "QuestionText$Question")
  | 2 => .array (.object "QuestionText$Kind")
  | 3 => .int
  | _ => .int
theorem n_TR : ∀ a, a < 5 → ∀ b, b < 5 → a ≠ b → (F_TR a).2.1 ≠ (F_TR b).2.1 := by decide +kernel
theorem o_TR : ∀ k, k < 5 → parseFieldDescriptor (F_TR k).2.2.1 = some (t_TR k) := by decide +kernel
theorem i_TR : ∀ w ∈ u_ws R_TR F_TR 5, w ∈ z_T := by
  intro w hw
  obtain ⟨k, hk, rfl⟩ := List.mem_map.mp hw
  have hk := List.mem_range.mp hk
  match k, hk with
  | 0, _ => exact z_in (z_mem 98 (by decide +kernel)) rfl
  | 1, _ => exact z_in (z_mem 100 (by decide +kernel)) rfl
  | 2, _ => exact z_in (z_mem 102 (by decide +kernel)) rfl
  | 3, _ => exact z_in (z_mem 104 (by decide +kernel)) rfl
  | 4, _ => exact z_in (z_mem 106 (by decide +kernel)) rfl
  | k + 5, h => exact absurd h (by omega)
def R_Ca : String := "QuestionText$Call"
def F_Ca : u_T := fun k => match k with
  | 0 => ("QuestionText$Call", "asked", "[I", true)
  | 1 => ("QuestionText$Call", "latest", "[I", true)
  | 2 => ("QuestionText$Call", "count", "I", false)
  | 3 => ("QuestionText$Call", "now", "I", false)
  | 4 => ("QuestionText$Call", "points", "I", false)
  | _ => ("QuestionText$Call", "kind", "I", false)
def t_Ca : Nat → FieldType := fun k => match k with
  | 0 => .array .int
  | 1 => .array .int
  | 2 => .int
  | 3 => .int
  | 4 => .int
  | _ => .int
theorem n_Ca : ∀ a, a < 6 → ∀ b, b < 6 → a ≠ b → (F_Ca a).2.1 ≠ (F_Ca b).2.1 := by decide +kernel
theorem o_Ca : ∀ k, k < 6 → parseFieldDescriptor (F_Ca k).2.2.1 = some (t_Ca k) := by decide +kernel
theorem i_Ca : ∀ w ∈ u_ws R_Ca F_Ca 6, w ∈ z_T := by
  intro w hw
  obtain ⟨k, hk, rfl⟩ := List.mem_map.mp hw
  have hk := List.mem_range.mp hk
  match k, hk with
  | 0, _ => exact z_in (z_mem 132 (by decide +kernel)) rfl
  | 1, _ => exact z_in (z_mem 134 (by decide +kernel)) rfl
  | 2, _ => exact z_in (z_mem 136 (by decide +kernel)) rfl
  | 3, _ => exact z_in (z_mem 138 (by decide +kernel)) rfl
  | 4, _ => exact z_in (z_mem 140 (by decide +kernel)) rfl
  | 5, _ => exact z_in (z_mem 142 (by decide +kernel)) rfl
  | k + 6, h => exact absurd h (by omega)
def R_Ed : String := "QuestionText$Edition"
def F_Ed : u_T := fun k => match k with
  | 0 => ("QuestionText$Edition", "questions", "[LQuestionText$Question;", true)
  | 1 => ("QuestionText$Edition", "kinds", "[LQuestionText$Kind;", true)
  | 2 => ("QuestionText$Edition", "size", "I", false)
  | 3 => ("QuestionText$Edition", "onLoop", "J", false)
  | 4 => ("QuestionText$Edition", "unreached", "J", false)
  | _ => ("QuestionText$Edition", "withoutEnd", "J", false)
def t_Ed : Nat → FieldType := fun k => match k with
  | 0 => .array (.object "QuestionText$Question")
  | 1 => .array (.object "QuestionText$Kind")
  | 2 => .int
  | 3 => .long
  | 4 => .long
  | _ => .long
theorem n_Ed : ∀ a, a < 6 → ∀ b, b < 6 → a ≠ b → (F_Ed a).2.1 ≠ (F_Ed b).2.1 := by decide +kernel
theorem o_Ed : ∀ k, k < 6 → parseFieldDescriptor (F_Ed k).2.2.1 = some (t_Ed k) := by decide +kernel
theorem i_Ed : ∀ w ∈ u_ws R_Ed F_Ed 6, w ∈ z_T := by
  intro w hw
  obtain ⟨k, hk, rfl⟩ := List.mem_map.mp hw
  have hk := List.mem_range.mp hk
  match k, hk with
  | 0, _ => exact z_in (z_mem 164 (by decide +kernel)) rfl
  | 1, _ => exact z_in (z_mem 166 (by decide +kernel)) rfl
  | 2, _ => exact z_in (z_mem 168 (by decide +kernel)) rfl
  | 3, _ => exact z_in (z_mem 170 (by decide +kernel)) rfl
  | 4, _ => exact z_in (z_mem 172 (by decide +kernel)) rfl
  | 5, _ => exact z_in (z_mem 174 (by decide +kernel)) rfl
  | k + 6, h => exact absurd h (by omega)
def R_Mo : String := "QuestionTextModel"
def F_Mo : u_T := fun k => match k with
  | 0 => ("QuestionTextModel", "thrown", "I", false)
  | 1 => ("QuestionTextModel", "taped", "I", false)
  | 2 => ("QuestionTextModel", "tape", "[I", true)
  | 3 => ("QuestionTextModel", "place", "I", false)
  | 4 => ("QuestionTextModel", "editions", "I", false)
  | 5 => ("QuestionTextModel", "chosen", "I", false)
  | 6 => ("QuestionTextModel", "is", "[Z", true)
  | 7 => ("QuestionTextModel", "must", "[Z", true)
  | 8 => ("QuestionTextModel", "low", "[I", true)
  | 9 => ("QuestionTextModel", "high", "[I", true)
  | 10 => ("QuestionTextModel", "length", "[I", true)
  | 11 => ("QuestionTextModel", "letter", "[I", true)
  | 12 => ("QuestionTextModel", "jumps", "[I", true)
  | 13 => ("QuestionTextModel", "jump", "[I", true)
  | 14 => ("QuestionTextModel", "begins", "[I", true)
  | 15 => ("QuestionTextModel", "base", "[I", true)
  | 16 => ("QuestionTextModel", "conditions", "[I", true)
  | 17 => ("QuestionTextModel", "condition", "[I", true)
  | 18 => ("QuestionTextModel", "at", "I", false)
  | 19 => ("QuestionTextModel", "wrong", "I", false)
  | 20 => ("QuestionTextModel", "digits", "I", false)
  | 21 => ("QuestionTextModel", "into", "I", false)
  | 22 => ("QuestionTextModel", "toldQuestion", "[Z", true)
  | 23 => ("QuestionTextModel", "toldKind", "[Z", true)
  | 24 => ("QuestionTextModel", "kind", "I", false)
  | 25 => ("QuestionTextModel", "now", "I", false)
  | 26 => ("QuestionTextModel", "points", "I", false)
  | 27 => ("QuestionTextModel", "many", "I", false)
  | 28 => ("QuestionTextModel", "asked", "[I", true)
  | 29 => ("QuestionTextModel", "answer", "[I", true)
  | _ => ("QuestionTextModel", "mark", "[Z", true)
def t_Mo : Nat → FieldType := fun k => match k with
  | 0 => .int
  | 1 => .int
  | 2 => .array .int
  | 3 => .int
  | 4 => .int
  | 5 => .int
  | 6 => .array .boolean
  | 7 => .array .boolean
  | 8 => .array .int
  | 9 => .array .int
  | 10 => .array .int
  | 11 => .array .int
  | 12 => .array .int
  | 13 => .array .int
  | 14 => .array .int
  | 15 => .array .int
  | 16 => .array .int
  | 17 => .array .int
  | 18 => .int
  | 19 => .int
  | 20 => .int
  | 21 => .int
  | 22 => .array .boolean
  | 23 => .array .boolean
  | 24 => .int
  | 25 => .int
  | 26 => .int
  | 27 => .int
  | 28 => .array .int
  | 29 => .array .int
  | _ => .array .boolean
theorem n_Mo : ∀ a, a < 31 → ∀ b, b < 31 → a ≠ b → (F_Mo a).2.1 ≠ (F_Mo b).2.1 := by decide +kernel
theorem o_Mo : ∀ k, k < 31 → parseFieldDescriptor (F_Mo k).2.2.1 = some (t_Mo k) := by decide +kernel
theorem i_Mo : ∀ w ∈ u_ws R_Mo F_Mo 31, w ∈ z_T := by
  intro w hw
  obtain ⟨k, hk, rfl⟩ := List.mem_map.mp hw
  have hk := List.mem_range.mp hk
  match k, hk with
  | 0, _ => exact z_in (z_mem 1044 (by decide +kernel)) rfl
  | 1, _ => exact z_in (z_mem 1046 (by decide +kernel)) rfl
  | 2, _ => exact z_in (z_mem 1048 (by decide +kernel)) rfl
  | 3, _ => exact z_in (z_mem 1050 (by decide +kernel)) rfl
  | 4, _ => exact z_in (z_mem 1052 (by decide +kernel)) rfl
  | 5, _ => exact z_in (z_mem 1054 (by decide +kernel)) rfl
  | 6, _ => exact z_in (z_mem 1056 (by decide +kernel)) rfl
  | 7, _ => exact z_in (z_mem 1058 (by decide +kernel)) rfl
  | 8, _ => exact z_in (z_mem 1060 (by decide +kernel)) rfl
  | 9, _ => exact z_in (z_mem 1062 (by decide +kernel)) rfl
  | 10, _ => exact z_in (z_mem 1064 (by decide +kernel)) rfl
  | 11, _ => exact z_in (z_mem 1066 (by decide +kernel)) rfl
  | 12, _ => exact z_in (z_mem 1068 (by decide +kernel)) rfl
  | 13, _ => exact z_in (z_mem 1070 (by decide +kernel)) rfl
  | 14, _ => exact z_in (z_mem 1072 (by decide +kernel)) rfl
  | 15, _ => exact z_in (z_mem 1074 (by decide +kernel)) rfl
  | 16, _ => exact z_in (z_mem 1076 (by decide +kernel)) rfl
  | 17, _ => exact z_in (z_mem 1078 (by decide +kernel)) rfl
  | 18, _ => exact z_in (z_mem 1080 (by decide +kernel)) rfl
  | 19, _ => exact z_in (z_mem 1082 (by decide +kernel)) rfl
  | 20, _ => exact z_in (z_mem 1084 (by decide +kernel)) rfl
  | 21, _ => exact z_in (z_mem 1086 (by decide +kernel)) rfl
  | 22, _ => exact z_in (z_mem 1088 (by decide +kernel)) rfl
  | 23, _ => exact z_in (z_mem 1090 (by decide +kernel)) rfl
  | 24, _ => exact z_in (z_mem 1092 (by decide +kernel)) rfl
  | 25, _ => exact z_in (z_mem 1094 (by decide +kernel)) rfl
  | 26, _ => exact z_in (z_mem 1096 (by decide +kernel)) rfl
  | 27, _ => exact z_in (z_mem 1098 (by decide +kernel)) rfl
  | 28, _ => exact z_in (z_mem 1100 (by decide +kernel)) rfl
  | 29, _ => exact z_in (z_mem 1102 (by decide +kernel)) rfl
  | 30, _ => exact z_in (z_mem 1104 (by decide +kernel)) rfl
  | k + 31, h => exact absurd h (by omega)
def R_Ki : String := "QuestionText$Kind"
def F_Ki : u_T := fun k => match k with
  | 0 => ("QuestionText$Kind", "first", "I", true)
  | 1 => ("QuestionText$Kind", "priority", "I", true)
  | _ => ("QuestionText$Kind", "conditions", "Ljava/util/List;", true)
def t_Ki : Nat → FieldType := fun k => match k with
  | 0 => .int
  | 1 => .int
  | _ => .object "java/util/List"
theorem n_Ki : ∀ a, a < 3 → ∀ b, b < 3 → a ≠ b → (F_Ki a).2.1 ≠ (F_Ki b).2.1 := by decide +kernel
theorem o_Ki : ∀ k, k < 3 → parseFieldDescriptor (F_Ki k).2.2.1 = some (t_Ki k) := by decide +kernel
theorem i_Ki : ∀ w ∈ u_ws R_Ki F_Ki 3, w ∈ z_T := by
  intro w hw
  obtain ⟨k, hk, rfl⟩ := List.mem_map.mp hw
  have hk := List.mem_range.mp hk
  match k, hk with
  | 0, _ => exact z_in (z_mem 810 (by decide +kernel)) rfl
  | 1, _ => exact z_in (z_mem 812 (by decide +kernel)) rfl
  | 2, _ => exact z_in (z_mem 814 (by decide +kernel)) rfl
  | k + 3, h => exact absurd h (by omega)
def R_Qu : String := "QuestionText$Question"
def F_Qu : u_T := fun k => match k with
  | 0 => ("QuestionText$Question", "must", "Z", true)
  | 1 => ("QuestionText$Question", "span", "LQuestionText$Span;", true)
  | 2 => ("QuestionText$Question", "words", "[I", true)
  | 3 => ("QuestionText$Question", "otherWords", "[I", true)
  | 4 => ("QuestionText$Question", "jumps", "Ljava/util/List;", true)
  | _ => ("QuestionText$Question", "lastJump", "LQuestionText$Jump;", true)
def t_Qu : Nat → FieldType := fun k => match k with
  | 0 => .boolean
  | 1 => .object "QuestionText$Span"
  | 2 => .array .int
  | 3 => .array .int
  | 4 => .object "java/util/List"
  | _ => .object "QuestionText$Jump"
theorem n_Qu : ∀ a, a < 6 → ∀ b, b < 6 → a ≠ b → (F_Qu a).2.1 ≠ (F_Qu b).2.1 := by decide +kernel
theorem o_Qu : ∀ k, k < 6 → parseFieldDescriptor (F_Qu k).2.2.1 = some (t_Qu k) := by decide +kernel
theorem i_Qu : ∀ w ∈ u_ws R_Qu F_Qu 6, w ∈ z_T := by
  intro w hw
  obtain ⟨k, hk, rfl⟩ := List.mem_map.mp hw
  have hk := List.mem_range.mp hk
  match k, hk with
  | 0, _ => exact z_in (z_mem 745 (by decide +kernel)) rfl
  | 1, _ => exact z_in (z_mem 747 (by decide +kernel)) rfl
  | 2, _ => exact z_in (z_mem 749 (by decide +kernel)) rfl
  | 3, _ => exact z_in (z_mem 751 (by decide +kernel)) rfl
  | 4, _ => exact z_in (z_mem 753 (by decide +kernel)) rfl
  | 5, _ => exact z_in (z_mem 755 (by decide +kernel)) rfl
  | k + 6, h => exact absurd h (by omega)
def R_Sp : String := "QuestionText$Span"
def F_Sp : u_T := fun k => match k with
  | 0 => ("QuestionText$Span", "low", "I", true)
  | _ => ("QuestionText$Span", "high", "I", true)
def t_Sp : Nat → FieldType := fun k => match k with
  | 0 => .int
  | _ => .int
theorem n_Sp : ∀ a, a < 2 → ∀ b, b < 2 → a ≠ b → (F_Sp a).2.1 ≠ (F_Sp b).2.1 := by decide +kernel
theorem o_Sp : ∀ k, k < 2 → parseFieldDescriptor (F_Sp k).2.2.1 = some (t_Sp k) := by decide +kernel
theorem i_Sp : ∀ w ∈ u_ws R_Sp F_Sp 2, w ∈ z_T := by
  intro w hw
  obtain ⟨k, hk, rfl⟩ := List.mem_map.mp hw
  have hk := List.mem_range.mp hk
  match k, hk with
  | 0, _ => exact z_in (z_mem 364 (by decide +kernel)) rfl
  | 1, _ => exact z_in (z_mem 366 (by decide +kernel)) rfl
  | k + 2, h => exact absurd h (by omega)
def R_Ju : String := "QuestionText$Jump"
def F_Ju : u_T := fun k => match k with
  | 0 => ("QuestionText$Jump", "span", "LQuestionText$Span;", true)
  | 1 => ("QuestionText$Jump", "target", "I", true)
  | _ => ("QuestionText$Jump", "points", "I", true)
def t_Ju : Nat → FieldType := fun k => match k with
  | 0 => .object "QuestionText$Span"
  | 1 => .int
  | _ => .int
theorem n_Ju : ∀ a, a < 3 → ∀ b, b < 3 → a ≠ b → (F_Ju a).2.1 ≠ (F_Ju b).2.1 := by decide +kernel
theorem o_Ju : ∀ k, k < 3 → parseFieldDescriptor (F_Ju k).2.2.1 = some (t_Ju k) := by decide +kernel
theorem i_Ju : ∀ w ∈ u_ws R_Ju F_Ju 3, w ∈ z_T := by
  intro w hw
  obtain ⟨k, hk, rfl⟩ := List.mem_map.mp hw
  have hk := List.mem_range.mp hk
  match k, hk with
  | 0, _ => exact z_in (z_mem 669 (by decide +kernel)) rfl
  | 1, _ => exact z_in (z_mem 671 (by decide +kernel)) rfl
  | 2, _ => exact z_in (z_mem 673 (by decide +kernel)) rfl
  | k + 3, h => exact absurd h (by omega)
def R_Te : String := "QuestionText$Term"
def F_Te : u_T := fun k => match k with
  | 0 => ("QuestionText$Term", "about", "I", true)
  | 1 => ("QuestionText$Term", "relation", "I", true)
  | _ => ("QuestionText$Term", "value", "I", true)
def t_Te : Nat → FieldType := fun k => match k with
  | 0 => .int
  | 1 => .int
  | _ => .int
theorem n_Te : ∀ a, a < 3 → ∀ b, b < 3 → a ≠ b → (F_Te a).2.1 ≠ (F_Te b).2.1 := by decide +kernel
theorem o_Te : ∀ k, k < 3 → parseFieldDescriptor (F_Te k).2.2.1 = some (t_Te k) := by decide +kernel
theorem i_Te : ∀ w ∈ u_ws R_Te F_Te 3, w ∈ z_T := by
  intro w hw
  obtain ⟨k, hk, rfl⟩ := List.mem_map.mp hw
  have hk := List.mem_range.mp hk
  match k, hk with
  | 0, _ => exact z_in (z_mem 779 (by decide +kernel)) rfl
  | 1, _ => exact z_in (z_mem 781 (by decide +kernel)) rfl
  | 2, _ => exact z_in (z_mem 783 (by decide +kernel)) rfl
  | k + 3, h => exact absurd h (by omega)
def R_Co : String := "QuestionText$Condition"
def F_Co : u_T := fun k => match k with
  | 0 => ("QuestionText$Condition", "terms", "Ljava/util/List;", true)
  | _ => ("QuestionText$Condition", "priority", "I", true)
def t_Co : Nat → FieldType := fun k => match k with
  | 0 => .object "java/util/List"
  | _ => .int
theorem n_Co : ∀ a, a < 2 → ∀ b, b < 2 → a ≠ b → (F_Co a).2.1 ≠ (F_Co b).2.1 := by decide +kernel
theorem o_Co : ∀ k, k < 2 → parseFieldDescriptor (F_Co k).2.2.1 = some (t_Co k) := by decide +kernel
theorem i_Co : ∀ w ∈ u_ws R_Co F_Co 2, w ∈ z_T := by
  intro w hw
  obtain ⟨k, hk, rfl⟩ := List.mem_map.mp hw
  have hk := List.mem_range.mp hk
  match k, hk with
  | 0, _ => exact z_in (z_mem 795 (by decide +kernel)) rfl
  | 1, _ => exact z_in (z_mem 797 (by decide +kernel)) rfl
  | k + 2, h => exact absurd h (by omega)
def R_AL : String := "java/util/ArrayList"
def F_AL : u_T := fun k => match k with
  | 0 => ("java/util/AbstractList", "modCount", "I", false)
  | 1 => ("java/util/ArrayList", "elementData", "[Ljava/lang/Object;", false)
  | _ => ("java/util/ArrayList", "size", "I", false)
def t_AL : Nat → FieldType := fun k => match k with
  | 0 => .int
  | 1 => .array (.object "java/lang/Object")
  | _ => .int
theorem n_AL : ∀ a, a < 3 → ∀ b, b < 3 → a ≠ b → (F_AL a).2.1 ≠ (F_AL b).2.1 := by decide +kernel
theorem o_AL : ∀ k, k < 3 → parseFieldDescriptor (F_AL k).2.2.1 = some (t_AL k) := by decide +kernel
theorem i_AL : ∀ w ∈ u_ws R_AL F_AL 3, w ∈ z_T := by
  intro w hw
  obtain ⟨k, hk, rfl⟩ := List.mem_map.mp hw
  have hk := List.mem_range.mp hk
  match k, hk with
  | 0, _ => exact z_in (z_mem 649 (by decide +kernel)) rfl
  | 1, _ => exact z_in (z_mem 645 (by decide +kernel)) rfl
  | 2, _ => exact z_in (z_mem 647 (by decide +kernel)) rfl
  | k + 3, h => exact absurd h (by omega)
abbrev classes : List vw_C := [(R_Q, F_Q, 6), (R_TR, F_TR, 5), (R_Ca, F_Ca, 6), (R_Ed, F_Ed, 6), (R_Mo, F_Mo, 31), (R_Ki, F_Ki, 3), (R_Qu, F_Qu, 6), (R_Sp, F_Sp, 2), (R_Ju, F_Ju, 3), (R_Te, F_Te, 3), (R_Co, F_Co, 2), (R_AL, F_AL, 3)]
