theorem th_TR_133 : ∀ w ∈ vx_atS "QuestionText$TextReader" 133 "java/lang/IllegalArgumentException" ["java/lang/RuntimeException", "java/lang/Exception"], w ∈ lw_tbl ∧ (goodWord w || z_isN w) = true := by decide +kernel
theorem tg_TR_55_133 : ∀ w ∈ Cond.classLink "QuestionText$TextReader" 55 "java/lang/IllegalArgumentException" :: Cond.initialized "java/lang/IllegalArgumentException" :: vx_atS "QuestionText$TextReader" 133 "java/lang/IllegalArgumentException" ["java/lang/RuntimeException", "java/lang/Exception"], vx_ot w = true := by decide +kernel
def zc_TR_isDigit (C : CT) (Post : Int32 → va_W → Prop) (c0 s0 pc : Nat) (loc : List (Nat × Value)) (st : List Value) (ws : va_W) : Prop := zW C (z_rm 0 0 0) 1 (oI C 0 0 Post) c0 s0 pc loc st ws
set_option maxHeartbeats 1000000 in
set_option maxRecDepth 100000 in
theorem k_TR_isDigit_0 {C : CT} (X : cM C "QuestionText$TextReader" b_TR_isDigit 1 (some .boolean)) (Post : Int32 → va_W → Prop) (x0 : Int32) (c0 s0 : Nat)
    (k_16 : (x0 < 48) → zc_TR_isDigit C Post c0 s0 16 [(0, .int x0)] [] ([]))
    (k_16_1 : (¬ x0 < 48) → (57 < x0) → zc_TR_isDigit C Post c0 s0 16 [(0, .int x0)] [] ([]))
    (k_17 : (¬ x0 < 48) → (¬ 57 < x0) → zc_TR_isDigit C Post c0 s0 17 [(0, .int x0)] [.int 1] ([])) : zc_TR_isDigit C Post c0 s0 0 [(0, .int x0)] [] ([]) := by
  obtain ⟨⟨l, dC, dI, k, a⟩, p, e, s, m, args, below, meth, c, A⟩ := C
  obtain ⟨hx, hb, hr, htz, hown, hlocks, hml, hE, hK, hA⟩ := X
  intro H locs ls hl hP hD hS
  have hl : lv_has ls 1 [(0, .int x0)] := hl
  have hP : va_P (dC, dI) classes ([]) H := hP
  have hD : va_D A ([]) := hD
  show W p l e (z_rm 0 0 0) s m args below meth c H locs c0 s0 _ (F0 m 0 ls [])
  refine lv_iload_n hx hb d_TR_isDigit_0 rfl (lv_at hl 0 rfl) ?_
  refine lv_bipush (v := 48) hx hb d_TR_isDigit_1 (by decide) ?_
  refine lv_icmp_lt (tgt := 16) hx hb d_TR_isDigit_3 (by decide) (fun c_3 => ?_) (fun c_3 => ?_)
  · exact (k_16 c_3) H locs ls (lv_sub hl [0] rfl) hP hD hS
  · refine lv_iload_n hx hb d_TR_isDigit_6 rfl (lv_at hl 0 rfl) ?_
    refine lv_bipush (v := 57) hx hb d_TR_isDigit_7 (by decide) ?_
    refine lv_icmp_gt (tgt := 16) hx hb d_TR_isDigit_9 (by decide) (fun c_9 => ?_) (fun c_9 => ?_)
    · exact (k_16_1 c_3 c_9) H locs ls (lv_sub hl [0] rfl) hP hD hS
    · refine lv_iconst (v := 1) hx hb d_TR_isDigit_12 (by decide) ?_
      refine lv_goto (tgt := 17) hx hb d_TR_isDigit_13 (by decide) ?_
      exact (k_17 c_3 c_9) H locs ls (lv_sub hl [0] rfl) hP hD hS
set_option maxHeartbeats 1000000 in
set_option maxRecDepth 100000 in
theorem k_TR_isDigit_16 {C : CT} (X : cM C "QuestionText$TextReader" b_TR_isDigit 1 (some .boolean)) (Post : Int32 → va_W → Prop) (x0 : Int32) (c0 s0 : Nat)
    (k_17 : zc_TR_isDigit C Post c0 s0 17 [(0, .int x0)] [.int 0] ([])) : zc_TR_isDigit C Post c0 s0 16 [(0, .int x0)] [] ([]) := by
  obtain ⟨⟨l, dC, dI, k, a⟩, p, e, s, m, args, below, meth, c, A⟩ := C
  obtain ⟨hx, hb, hr, htz, hown, hlocks, hml, hE, hK, hA⟩ := X
  intro H locs ls hl hP hD hS
  have hl : lv_has ls 1 [(0, .int x0)] := hl
  have hP : va_P (dC, dI) classes ([]) H := hP
  have hD : va_D A ([]) := hD
  show W p l e (z_rm 0 0 0) s m args below meth c H locs c0 s0 _ (F0 m 16 ls [])
  refine lv_iconst (v := 0) hx hb d_TR_isDigit_16 (by decide) ?_
  exact k_17 H locs ls (lv_sub hl [0] rfl) hP hD hS
set_option maxHeartbeats 1000000 in
set_option maxRecDepth 100000 in
theorem k_TR_isDigit_17 {C : CT} (X : cM C "QuestionText$TextReader" b_TR_isDigit 1 (some .boolean)) (Post : Int32 → va_W → Prop) (x0 : Int32) (y0 : Int32) (c0 s0 : Nat)
    (b_17 : c0 ≤ 0 ∧ s0 ≤ 0)
    (q_17 : Post (y0) ([]))
    (z_17 : narrow .boolean (.int (y0)) = .int (y0)) : zc_TR_isDigit C Post c0 s0 17 [(0, .int x0)] [.int y0] ([]) := by
  obtain ⟨⟨l, dC, dI, k, a⟩, p, e, s, m, args, below, meth, c, A⟩ := C
  obtain ⟨hx, hb, hr, htz, hown, hlocks, hml, hE, hK, hA⟩ := X
  intro H locs ls hl hP hD hS
  have hl : lv_has ls 1 [(0, .int x0)] := hl
  have hP : va_P (dC, dI) classes ([]) H := hP
  have hD : va_D A ([]) := hD
  show W p l e (z_rm 0 0 0) s m args below meth c H locs c0 s0 _ (F0 m 17 ls [.int y0])
  refine W.widen (k := 0) (n := 0) b_17.1 b_17.2 ?_
  exact W.zret (v := y0) (ty := .boolean) hx hb hr z_17 (fun t ht hW => ⟨⟨_, ([]), rfl, q_17, by rw [ht]; exact hP, va_K.moved hW.alike hK, hD⟩, hS.F ht⟩) hS.2.2 d_TR_isDigit_17
set_option maxHeartbeats 1000000 in
set_option maxRecDepth 100000 in
theorem e_TR_isDigit (T : ST) (Post : Int32 → va_W → Prop) (x0 : Int32) (h : ∀ C : CT, C.1 = T → cM C "QuestionText$TextReader" b_TR_isDigit 1 (some .boolean) → zc_TR_isDigit C Post 0 0 0 [(0, .int x0)] [] ([])) : uI T y_TR_isDigit (Cond.code y_TR_isDigit b_TR_isDigit 1 (some .boolean)) 0 0 0 [.int x0] ([]) Post := by
  obtain ⟨l, dC, dI, k, a⟩ := T
  intro sz
  refine Met.ofW (cc := b_TR_isDigit) (maxL := 1) (ret := (some .boolean)) (by decide) rfl ?_
  intro p e s m args below meth c s₁ B hml hv
  obtain ⟨rfl, hsz, hE, hP, hK, hD0⟩ := hv
  have hts := atoms_spec (ws := (Cond.code y_TR_isDigit b_TR_isDigit 1 (some .boolean)) :: z_T) B.pre
  have htz : ∀ w ∈ z_T, w.before _ s = true := fun w h => hts w (z_cons w h)
  subst hsz
  have hD := hD0.self (sz := s.heap.size)
  generalize hAe : va_A ([]) s.heap.size = A at hD hE ⊢
  have hA : ∀ q : Nat, s.heap.size ≤ q → A q := fun q h => by rw [← hAe]; exact Or.inr h
  have hl := lv_entry ([.int x0]) (n := 1) (Nat.le_of_ble_eq_true rfl)
  rw [lg_entry_eq]
  generalize (lg_sl ([.int x0]) ++ List.replicate (1 - (lg_sl ([.int x0])).length) Slot.unset).toArray = ls at hl ⊢
  exact h ((l, dC, dI, k, a), p, e, s, m, ([.int x0] : List Value).toArray, below, meth, c, A) rfl ⟨B.exec, B.bytes, B.returns, htz, findClass_of_methodNamed B.named, B.notSynchronized, hml, hE, hK, hA⟩ s.heap [] ls hl hP hD va_S.rf
def zc_TR_isWordByte (C : CT) (Post : Int32 → va_W → Prop) (c0 s0 pc : Nat) (loc : List (Nat × Value)) (st : List Value) (ws : va_W) : Prop := zW C (z_rm 0 0 0) 1 (oI C 0 0 Post) c0 s0 pc loc st ws
set_option maxHeartbeats 1000000 in
set_option maxRecDepth 100000 in
theorem k_TR_isWordByte_0 {C : CT} (X : cM C "QuestionText$TextReader" b_TR_isWordByte 1 (some .boolean)) (Post : Int32 → va_W → Prop) (x0 : Int32) (c0 s0 : Nat)
    (k_22 : (x0 < 32) → zc_TR_isWordByte C Post c0 s0 22 [(0, .int x0)] [] ([]))
    (k_22_1 : (¬ x0 < 32) → (126 < x0) → zc_TR_isWordByte C Post c0 s0 22 [(0, .int x0)] [] ([]))
    (k_22_2 : (¬ x0 < 32) → (¬ 126 < x0) → (x0 = 34) → zc_TR_isWordByte C Post c0 s0 22 [(0, .int x0)] [] ([]))
    (k_23 : (¬ x0 < 32) → (¬ 126 < x0) → (¬ x0 = 34) → zc_TR_isWordByte C Post c0 s0 23 [(0, .int x0)] [.int 1] ([])) : zc_TR_isWordByte C Post c0 s0 0 [(0, .int x0)] [] ([]) := by
  obtain ⟨⟨l, dC, dI, k, a⟩, p, e, s, m, args, below, meth, c, A⟩ := C
  obtain ⟨hx, hb, hr, htz, hown, hlocks, hml, hE, hK, hA⟩ := X
  intro H locs ls hl hP hD hS
  have hl : lv_has ls 1 [(0, .int x0)] := hl
  have hP : va_P (dC, dI) classes ([]) H := hP
  have hD : va_D A ([]) := hD
  show W p l e (z_rm 0 0 0) s m args below meth c H locs c0 s0 _ (F0 m 0 ls [])
  refine lv_iload_n hx hb d_TR_isWordByte_0 rfl (lv_at hl 0 rfl) ?_
  refine lv_bipush (v := 32) hx hb d_TR_isWordByte_1 (by decide) ?_
  refine lv_icmp_lt (tgt := 22) hx hb d_TR_isWordByte_3 (by decide) (fun c_3 => ?_) (fun c_3 => ?_)
  · exact (k_22 c_3) H locs ls (lv_sub hl [0] rfl) hP hD hS
  · refine lv_iload_n hx hb d_TR_isWordByte_6 rfl (lv_at hl 0 rfl) ?_
    refine lv_bipush (v := 126) hx hb d_TR_isWordByte_7 (by decide) ?_
    refine lv_icmp_gt (tgt := 22) hx hb d_TR_isWordByte_9 (by decide) (fun c_9 => ?_) (fun c_9 => ?_)
    · exact (k_22_1 c_3 c_9) H locs ls (lv_sub hl [0] rfl) hP hD hS
    · refine lv_iload_n hx hb d_TR_isWordByte_12 rfl (lv_at hl 0 rfl) ?_
      refine lv_bipush (v := 34) hx hb d_TR_isWordByte_13 (by decide) ?_
      refine lv_icmp_eq (tgt := 22) hx hb d_TR_isWordByte_15 (by decide) (fun c_15 => ?_) (fun c_15 => ?_)
      · exact (k_22_2 c_3 c_9 c_15) H locs ls (lv_sub hl [0] rfl) hP hD hS
      · refine lv_iconst (v := 1) hx hb d_TR_isWordByte_18 (by decide) ?_
        refine lv_goto (tgt := 23) hx hb d_TR_isWordByte_19 (by decide) ?_
        exact (k_23 c_3 c_9 c_15) H locs ls (lv_sub hl [0] rfl) hP hD hS
set_option maxHeartbeats 1000000 in
set_option maxRecDepth 100000 in
theorem k_TR_isWordByte_22 {C : CT} (X : cM C "QuestionText$TextReader" b_TR_isWordByte 1 (some .boolean)) (Post : Int32 → va_W → Prop) (x0 : Int32) (c0 s0 : Nat)
    (k_23 : zc_TR_isWordByte C Post c0 s0 23 [(0, .int x0)] [.int 0] ([])) : zc_TR_isWordByte C Post c0 s0 22 [(0, .int x0)] [] ([]) := by
  obtain ⟨⟨l, dC, dI, k, a⟩, p, e, s, m, args, below, meth, c, A⟩ := C
  obtain ⟨hx, hb, hr, htz, hown, hlocks, hml, hE, hK, hA⟩ := X
  intro H locs ls hl hP hD hS
  have hl : lv_has ls 1 [(0, .int x0)] := hl
  have hP : va_P (dC, dI) classes ([]) H := hP
  have hD : va_D A ([]) := hD
  show W p l e (z_rm 0 0 0) s m args below meth c H locs c0 s0 _ (F0 m 22 ls [])
  refine lv_iconst (v := 0) hx hb d_TR_isWordByte_22 (by decide) ?_
  exact k_23 H locs ls (lv_sub hl [0] rfl) hP hD hS
set_option maxHeartbeats 1000000 in
set_option maxRecDepth 100000 in
theorem k_TR_isWordByte_23 {C : CT} (X : cM C "QuestionText$TextReader" b_TR_isWordByte 1 (some .boolean)) (Post : Int32 → va_W → Prop) (x0 : Int32) (y0 : Int32) (c0 s0 : Nat)
    (b_23 : c0 ≤ 0 ∧ s0 ≤ 0)
    (q_23 : Post (y0) ([]))
    (z_23 : narrow .boolean (.int (y0)) = .int (y0)) : zc_TR_isWordByte C Post c0 s0 23 [(0, .int x0)] [.int y0] ([]) := by
  obtain ⟨⟨l, dC, dI, k, a⟩, p, e, s, m, args, below, meth, c, A⟩ := C
  obtain ⟨hx, hb, hr, htz, hown, hlocks, hml, hE, hK, hA⟩ := X
  intro H locs ls hl hP hD hS
  have hl : lv_has ls 1 [(0, .int x0)] := hl
  have hP : va_P (dC, dI) classes ([]) H := hP
  have hD : va_D A ([]) := hD
  show W p l e (z_rm 0 0 0) s m args below meth c H locs c0 s0 _ (F0 m 23 ls [.int y0])
  refine W.widen (k := 0) (n := 0) b_23.1 b_23.2 ?_
  exact W.zret (v := y0) (ty := .boolean) hx hb hr z_23 (fun t ht hW => ⟨⟨_, ([]), rfl, q_23, by rw [ht]; exact hP, va_K.moved hW.alike hK, hD⟩, hS.F ht⟩) hS.2.2 d_TR_isWordByte_23
set_option maxHeartbeats 1000000 in
set_option maxRecDepth 100000 in
theorem e_TR_isWordByte (T : ST) (Post : Int32 → va_W → Prop) (x0 : Int32) (h : ∀ C : CT, C.1 = T → cM C "QuestionText$TextReader" b_TR_isWordByte 1 (some .boolean) → zc_TR_isWordByte C Post 0 0 0 [(0, .int x0)] [] ([])) : uI T y_TR_isWordByte (Cond.code y_TR_isWordByte b_TR_isWordByte 1 (some .boolean)) 0 0 0 [.int x0] ([]) Post := by
  obtain ⟨l, dC, dI, k, a⟩ := T
  intro sz
  refine Met.ofW (cc := b_TR_isWordByte) (maxL := 1) (ret := (some .boolean)) (by decide) rfl ?_
  intro p e s m args below meth c s₁ B hml hv
  obtain ⟨rfl, hsz, hE, hP, hK, hD0⟩ := hv
  have hts := atoms_spec (ws := (Cond.code y_TR_isWordByte b_TR_isWordByte 1 (some .boolean)) :: z_T) B.pre
  have htz : ∀ w ∈ z_T, w.before _ s = true := fun w h => hts w (z_cons w h)
  subst hsz
  have hD := hD0.self (sz := s.heap.size)
  generalize hAe : va_A ([]) s.heap.size = A at hD hE ⊢
  have hA : ∀ q : Nat, s.heap.size ≤ q → A q := fun q h => by rw [← hAe]; exact Or.inr h
  have hl := lv_entry ([.int x0]) (n := 1) (Nat.le_of_ble_eq_true rfl)
  rw [lg_entry_eq]
  generalize (lg_sl ([.int x0]) ++ List.replicate (1 - (lg_sl ([.int x0])).length) Slot.unset).toArray = ls at hl ⊢
  exact h ((l, dC, dI, k, a), p, e, s, m, ([.int x0] : List Value).toArray, below, meth, c, A) rfl ⟨B.exec, B.bytes, B.returns, htz, findClass_of_methodNamed B.named, B.notSynchronized, hml, hE, hK, hA⟩ s.heap [] ls hl hP hD va_S.rf
def zc_TR_nextSign (C : CT) (Post : Int32 → va_W → Prop) (c0 s0 pc : Nat) (loc : List (Nat × Value)) (st : List Value) (ws : va_W) : Prop := zW C (z_rm 0 0 0) 1 (oI C 0 0 Post) c0 s0 pc loc st ws
set_option maxHeartbeats 1000000 in
set_option maxRecDepth 100000 in
theorem k_TR_nextSign_0 {C : CT} (X : cM C "QuestionText$TextReader" b_TR_nextSign 1 (some .int)) (Post : Int32 → va_W → Prop) (f_t : FT) (g_t : GT) (c0 s0 : Nat)
    (k_38 : (f_t 0 ≤ f_t 1) → zc_TR_nextSign C Post c0 s0 38 [(0, .ref (ad C.1 20))] [] (s_t C.1.2.2.2.1 C.1.2.2.2.2 f_t g_t))
    (h_19 : (¬ f_t 0 ≤ f_t 1) → vp_in (f_t 1) 400)
    (k_38_1 : (¬ f_t 0 ≤ f_t 1) → (¬ (g_t 0) (f_t 1 : Int32).toNatClampNeg = 32) → zc_TR_nextSign C Post c0 s0 38 [(0, .ref (ad C.1 20))] [] (s_t C.1.2.2.2.1 C.1.2.2.2.2 f_t g_t))
    (k_0 : (¬ f_t 0 ≤ f_t 1) → ((g_t 0) (f_t 1 : Int32).toNatClampNeg = 32) → zc_TR_nextSign C Post c0 s0 0 [(0, .ref (ad C.1 20))] [] (s_t C.1.2.2.2.1 C.1.2.2.2.2 (va_up f_t 1 ((f_t 1) + 1)) g_t)) : zc_TR_nextSign C Post c0 s0 0 [(0, .ref (ad C.1 20))] [] (s_t C.1.2.2.2.1 C.1.2.2.2.2 f_t g_t) := by
  obtain ⟨⟨l, dC, dI, k, a⟩, p, e, s, m, args, below, meth, c, A⟩ := C
  obtain ⟨hx, hb, hr, htz, hown, hlocks, hml, hE, hK, hA⟩ := X
  intro H locs ls hl hP hD hS
  have hl : lv_has ls 1 [(0, .ref (a 20))] := hl
  have hP : va_P (dC, dI) classes (s_t k a f_t g_t) H := hP
  have hD : va_D A (s_t k a f_t g_t) := hD
  show W p l e (z_rm 0 0 0) s m args below meth c H locs c0 s0 _ (F0 m 0 ls [])
  refine lv_aload_n hx hb d_TR_nextSign_0 rfl (lv_at hl 0 rfl) ?_
  refine va_get (D := (dC, dI)) (ci := 1) (v := .int (f_t 1)) (C := R_TR) (T := F_TR) (N := 5) hx hb htz i_TR hown hK hP 0 rfl rfl 4 (by decide) (htz _ kf_TR_31) (fun _ h9 => h9) rfl d_TR_nextSign_1 ?_
  refine lv_aload_n hx hb d_TR_nextSign_4 rfl (lv_at hl 0 rfl) ?_
  refine va_get (D := (dC, dI)) (ci := 1) (v := .int (f_t 0)) (C := R_TR) (T := F_TR) (N := 5) hx hb htz i_TR hown hK hP 0 rfl rfl 3 (by decide) (htz _ kf_TR_27) (fun _ h9 => h9) rfl d_TR_nextSign_5 ?_
  refine lv_icmp_ge (tgt := 38) hx hb d_TR_nextSign_8 (by decide) (fun c_8 => ?_) (fun c_8 => ?_)
  · exact (k_38 c_8) H locs ls (lv_sub hl [0] rfl) hP hD hS
  · refine lv_aload_n hx hb d_TR_nextSign_11 rfl (lv_at hl 0 rfl) ?_
    refine va_get (D := (dC, dI)) (ci := 1) (v := .ref (a 21)) (C := R_TR) (T := F_TR) (N := 5) hx hb htz i_TR hown hK hP 0 rfl rfl 0 (by decide) (htz _ kf_TR_9) (fun _ h9 => h9) rfl d_TR_nextSign_12 ?_
    refine lv_aload_n hx hb d_TR_nextSign_15 rfl (lv_at hl 0 rfl) ?_
    refine va_get (D := (dC, dI)) (ci := 1) (v := .int (f_t 1)) (C := R_TR) (T := F_TR) (N := 5) hx hb htz i_TR hown hK hP 0 rfl rfl 4 (by decide) (htz _ kf_TR_31) (fun _ h9 => h9) rfl d_TR_nextSign_16 ?_
    refine va_iald hx hb hK hP 1 0 rfl rfl (h_19 c_8) d_TR_nextSign_19 ?_
    refine lv_bipush (v := 32) hx hb d_TR_nextSign_20 (by decide) ?_
    refine lv_icmp_ne (tgt := 38) hx hb d_TR_nextSign_22 (by decide) (fun c_22 => ?_) (fun c_22 => ?_)
    · exact (k_38_1 c_8 c_22) H locs ls (lv_sub hl [0] rfl) hP hD hS
    · refine lv_aload_n hx hb d_TR_nextSign_25 rfl (lv_at hl 0 rfl) ?_
      refine lv_dup hx hb d_TR_nextSign_26 rfl ?_
      refine va_get (D := (dC, dI)) (ci := 1) (v := .int (f_t 1)) (C := R_TR) (T := F_TR) (N := 5) hx hb htz i_TR hown hK hP 0 rfl rfl 4 (by decide) (htz _ kf_TR_31) (fun _ h9 => h9) rfl d_TR_nextSign_27 ?_
      refine lv_iconst (v := 1) hx hb d_TR_nextSign_30 (by decide) ?_
      refine lv_iadd hx hb d_TR_nextSign_31 ?_
      refine va_put (D := (dC, dI)) (ci := 1) (v := .int ((f_t 1) + 1)) (ty := .int) (C := R_TR) (T := F_TR) (N := 5) hx hb htz i_TR t_TR o_TR n_TR hown hK hP hD hS 0 rfl rfl 4 (by decide) (htz _ kf_TR_31) (fun _ h9 => h9) rfl (by decide +kernel) rfl rfl (Nat.le_of_ble_eq_true rfl) d_TR_nextSign_32 (fun H locs hP hD hS => ?_)
      have hP : va_P (dC, dI) classes (s_t k a (va_up f_t 1 ((f_t 1) + 1)) g_t) H := hP
      have hD : va_D A (s_t k a (va_up f_t 1 ((f_t 1) + 1)) g_t) := hD
      refine lv_goto (tgt := 0) hx hb d_TR_nextSign_35 (by decide) ?_
      exact (k_0 c_8 c_22) H locs ls (lv_sub hl [0] rfl) hP hD hS
set_option maxHeartbeats 1000000 in
set_option maxRecDepth 100000 in
theorem k_TR_nextSign_38 {C : CT} (X : cM C "QuestionText$TextReader" b_TR_nextSign 1 (some .int)) (Post : Int32 → va_W → Prop) (f_t : FT) (g_t : GT) (c0 s0 : Nat)
    (k_62 : (f_t 0 ≤ f_t 1) → zc_TR_nextSign C Post c0 s0 62 [(0, .ref (ad C.1 20))] [.int (-1)] (s_t C.1.2.2.2.1 C.1.2.2.2.2 f_t g_t))
    (h_57 : (¬ f_t 0 ≤ f_t 1) → vp_in (f_t 1) 400)
    (k_62_1 : (¬ f_t 0 ≤ f_t 1) → zc_TR_nextSign C Post c0 s0 62 [(0, .ref (ad C.1 20))] [.int ((g_t 0) (f_t 1 : Int32).toNatClampNeg)] (s_t C.1.2.2.2.1 C.1.2.2.2.2 f_t g_t)) : zc_TR_nextSign C Post c0 s0 38 [(0, .ref (ad C.1 20))] [] (s_t C.1.2.2.2.1 C.1.2.2.2.2 f_t g_t) := by
  obtain ⟨⟨l, dC, dI, k, a⟩, p, e, s, m, args, below, meth, c, A⟩ := C
  obtain ⟨hx, hb, hr, htz, hown, hlocks, hml, hE, hK, hA⟩ := X
  intro H locs ls hl hP hD hS
  have hl : lv_has ls 1 [(0, .ref (a 20))] := hl
  have hP : va_P (dC, dI) classes (s_t k a f_t g_t) H := hP
  have hD : va_D A (s_t k a f_t g_t) := hD
  show W p l e (z_rm 0 0 0) s m args below meth c H locs c0 s0 _ (F0 m 38 ls [])
  refine lv_aload_n hx hb d_TR_nextSign_38 rfl (lv_at hl 0 rfl) ?_
  refine va_get (D := (dC, dI)) (ci := 1) (v := .int (f_t 1)) (C := R_TR) (T := F_TR) (N := 5) hx hb htz i_TR hown hK hP 0 rfl rfl 4 (by decide) (htz _ kf_TR_31) (fun _ h9 => h9) rfl d_TR_nextSign_39 ?_
  refine lv_aload_n hx hb d_TR_nextSign_42 rfl (lv_at hl 0 rfl) ?_
  refine va_get (D := (dC, dI)) (ci := 1) (v := .int (f_t 0)) (C := R_TR) (T := F_TR) (N := 5) hx hb htz i_TR hown hK hP 0 rfl rfl 3 (by decide) (htz _ kf_TR_27) (fun _ h9 => h9) rfl d_TR_nextSign_43 ?_
  refine lv_icmp_ge (tgt := 61) hx hb d_TR_nextSign_46 (by decide) (fun c_46 => ?_) (fun c_46 => ?_)
  · refine lv_iconst (v := -1) hx hb d_TR_nextSign_61 (by decide) ?_
    exact (k_62 c_46) H locs ls (lv_sub hl [0] rfl) hP hD hS
  · refine lv_aload_n hx hb d_TR_nextSign_49 rfl (lv_at hl 0 rfl) ?_
    refine va_get (D := (dC, dI)) (ci := 1) (v := .ref (a 21)) (C := R_TR) (T := F_TR) (N := 5) hx hb htz i_TR hown hK hP 0 rfl rfl 0 (by decide) (htz _ kf_TR_9) (fun _ h9 => h9) rfl d_TR_nextSign_50 ?_
    refine lv_aload_n hx hb d_TR_nextSign_53 rfl (lv_at hl 0 rfl) ?_
    refine va_get (D := (dC, dI)) (ci := 1) (v := .int (f_t 1)) (C := R_TR) (T := F_TR) (N := 5) hx hb htz i_TR hown hK hP 0 rfl rfl 4 (by decide) (htz _ kf_TR_31) (fun _ h9 => h9) rfl d_TR_nextSign_54 ?_
    refine va_iald hx hb hK hP 1 0 rfl rfl (h_57 c_46) d_TR_nextSign_57 ?_
    refine lv_goto (tgt := 62) hx hb d_TR_nextSign_58 (by decide) ?_
    exact (k_62_1 c_46) H locs ls (lv_sub hl [0] rfl) hP hD hS
set_option maxHeartbeats 1000000 in
set_option maxRecDepth 100000 in
theorem k_TR_nextSign_62 {C : CT} (X : cM C "QuestionText$TextReader" b_TR_nextSign 1 (some .int)) (Post : Int32 → va_W → Prop) (y0 : Int32) (f_t : FT) (g_t : GT) (c0 s0 : Nat)
    (b_62 : c0 ≤ 0 ∧ s0 ≤ 0)
    (q_62 : Post (y0) (s_t C.1.2.2.2.1 C.1.2.2.2.2 f_t g_t)) : zc_TR_nextSign C Post c0 s0 62 [(0, .ref (ad C.1 20))] [.int y0] (s_t C.1.2.2.2.1 C.1.2.2.2.2 f_t g_t) := by
  obtain ⟨⟨l, dC, dI, k, a⟩, p, e, s, m, args, below, meth, c, A⟩ := C
  obtain ⟨hx, hb, hr, htz, hown, hlocks, hml, hE, hK, hA⟩ := X
  intro H locs ls hl hP hD hS
  have hl : lv_has ls 1 [(0, .ref (a 20))] := hl
  have hP : va_P (dC, dI) classes (s_t k a f_t g_t) H := hP
  have hD : va_D A (s_t k a f_t g_t) := hD
  show W p l e (z_rm 0 0 0) s m args below meth c H locs c0 s0 _ (F0 m 62 ls [.int y0])
  refine W.widen (k := 0) (n := 0) b_62.1 b_62.2 ?_
  exact W.iret (v := y0) hx hb hr (fun t ht hW => ⟨⟨_, (s_t k a f_t g_t), rfl, q_62, by rw [ht]; exact hP, va_K.moved hW.alike hK, hD⟩, hS.F ht⟩) hS.2.2 d_TR_nextSign_62
set_option maxHeartbeats 1000000 in
set_option maxRecDepth 100000 in
theorem e_TR_nextSign (T : ST) (Post : Int32 → va_W → Prop) (f_t : FT) (g_t : GT) (h : ∀ C : CT, C.1 = T → cM C "QuestionText$TextReader" b_TR_nextSign 1 (some .int) → zc_TR_nextSign C Post 0 0 0 [(0, .ref (ad C.1 20))] [] (s_t C.1.2.2.2.1 C.1.2.2.2.2 f_t g_t)) : uI T y_TR_nextSign (Cond.code y_TR_nextSign b_TR_nextSign 1 (some .int)) 0 0 0 [.ref (ad T 20)] (s_t T.2.2.2.1 T.2.2.2.2 f_t g_t) Post := by
  obtain ⟨l, dC, dI, k, a⟩ := T
  intro sz
  refine Met.ofW (cc := b_TR_nextSign) (maxL := 1) (ret := (some .int)) (by decide) rfl ?_
  intro p e s m args below meth c s₁ B hml hv
  obtain ⟨rfl, hsz, hE, hP, hK, hD0⟩ := hv
  have hts := atoms_spec (ws := (Cond.code y_TR_nextSign b_TR_nextSign 1 (some .int)) :: z_T) B.pre
  have htz : ∀ w ∈ z_T, w.before _ s = true := fun w h => hts w (z_cons w h)
  subst hsz
  have hD := hD0.self (sz := s.heap.size)
  generalize hAe : va_A (s_t k a f_t g_t) s.heap.size = A at hD hE ⊢
  have hA : ∀ q : Nat, s.heap.size ≤ q → A q := fun q h => by rw [← hAe]; exact Or.inr h
  have hl := lv_entry ([.ref (a 20)]) (n := 1) (Nat.le_of_ble_eq_true rfl)
  rw [lg_entry_eq]
  generalize (lg_sl ([.ref (a 20)]) ++ List.replicate (1 - (lg_sl ([.ref (a 20)])).length) Slot.unset).toArray = ls at hl ⊢
  exact h ((l, dC, dI, k, a), p, e, s, m, ([.ref (a 20)] : List Value).toArray, below, meth, c, A) rfl ⟨B.exec, B.bytes, B.returns, htz, findClass_of_methodNamed B.named, B.notSynchronized, hml, hE, hK, hA⟩ s.heap [] ls hl hP hD va_S.rf
def zc_TR_fail (C : CT) (Post : va_W → Prop) (PX : String → va_W → Prop) (c0 s0 pc : Nat) (loc : List (Nat × Value)) (st : List Value) (ws : va_W) : Prop := zW C (z_rm 0 1 6) 2 (yV C 1 6 Post PX) c0 s0 pc loc st ws
set_option maxHeartbeats 1000000 in
set_option maxRecDepth 100000 in
theorem k_TR_fail_0 {C : CT} (X : cX C "QuestionText$TextReader" b_TR_fail 2 none) (Post : va_W → Prop) (PX : String → va_W → Prop) (x1 : Int32) (f_t : FT) (g_t : GT) (c0 s0 : Nat)
    (b_5 : c0 + 1 ≤ 1 ∧ s0 + 6 ≤ 6)
    (t_5 : PX "java/lang/IllegalArgumentException" (s_t C.1.2.2.2.1 C.1.2.2.2.2 (va_up f_t 1 x1) g_t)) : zc_TR_fail C Post PX c0 s0 0 [(0, .ref (ad C.1 20)), (1, .int x1)] [] (s_t C.1.2.2.2.1 C.1.2.2.2.2 f_t g_t) := by
  obtain ⟨⟨l, dC, dI, k, a⟩, p, e, s, m, args, below, meth, c, A⟩ := C
  obtain ⟨⟨hx, hb, hr, htz, hown, hlocks, hml, hE, hK, hA⟩, hno, hlt⟩ := X
  intro H locs ls hl hP hD hS
  have hl : lv_has ls 2 [(0, .ref (a 20)), (1, .int x1)] := hl
  have hP : va_P (dC, dI) classes (s_t k a f_t g_t) H := hP
  have hD : va_D A (s_t k a f_t g_t) := hD
  show W p l e (z_rm 0 1 6) s m args below meth c H locs c0 s0 _ (F0 m 0 ls [])
  refine lv_aload_n hx hb d_TR_fail_0 rfl (lv_at hl 0 rfl) ?_
  refine lv_iload_n hx hb d_TR_fail_1 rfl (lv_at hl 1 rfl) ?_
  refine va_put (D := (dC, dI)) (ci := 1) (v := .int x1) (ty := .int) (C := R_TR) (T := F_TR) (N := 5) hx hb htz i_TR t_TR o_TR n_TR hown hK hP hD hS 0 rfl rfl 4 (by decide) (htz _ kf_TR_31) (fun _ h9 => h9) rfl (by decide +kernel) rfl rfl (Nat.le_of_ble_eq_true rfl) d_TR_fail_2 (fun H locs hP hD hS => ?_)
  have hP : va_P (dC, dI) classes (s_t k a (va_up f_t 1 x1) g_t) H := hP
  have hD : va_D A (s_t k a (va_up f_t 1 x1) g_t) := hD
  obtain ⟨sa, hstr⟩ := hE.2.2.2.1 ("QuestionText$TextReader", 131, "wrong here") (by decide)
  have hB9 := z_thr (dC := dC) (dI := dI) (k := k) hP hK hD hS
  exact vx_throwS (own := "QuestionText$TextReader") (cls := "java/lang/IllegalArgumentException") (text := "wrong here") (names := ["java/lang/RuntimeException", "java/lang/Exception"]) (ik := 55) (is := 131) (ic := 133) hx hb hlt hown (by decide +kernel) (by decide +kernel) (htz _ kc_TR_55) (htz _ ini_IAE) hstr (z_hat th_TR_133 htz hE.2.1) tg_TR_55_133 hE.2.2.2.2.1 hE.2.2.2.2.2.1 hS (hl.1.trans hml.symm) d_TR_fail_5 d_TR_fail_8 d_TR_fail_9 d_TR_fail_11 d_TR_fail_14 (fun x hx9 => (hno x hx9).elim) (Nat.le_of_ble_eq_true rfl) (Nat.le_of_ble_eq_true rfl) b_5.1 b_5.2 hlocks (fun t h1 h2 h3 => ⟨(s_t k a (va_up f_t 1 x1) g_t), trivial, ⟨t_5, (hB9 t h1 h2 h3).1⟩, (hB9 t h1 h2 h3).2⟩) hS.2.2 b_5.1 b_5.2
set_option maxHeartbeats 1000000 in
set_option maxRecDepth 100000 in
theorem e_TR_fail (T : ST) (hlt : T.1.stackTraces = false) (Post : va_W → Prop) (PX : String → va_W → Prop) (x1 : Int32) (f_t : FT) (g_t : GT) (h : ∀ C : CT, C.1 = T → cX C "QuestionText$TextReader" b_TR_fail 2 none → zc_TR_fail C Post PX 0 0 0 [(0, .ref (ad C.1 20)), (1, .int x1)] [] (s_t C.1.2.2.2.1 C.1.2.2.2.2 f_t g_t)) : xV T y_TR_fail (Cond.code y_TR_fail b_TR_fail 2 none) 0 1 6 [.ref (ad T 20), .int x1] (s_t T.2.2.2.1 T.2.2.2.2 f_t g_t) Post PX := by
  obtain ⟨l, dC, dI, k, a⟩ := T
  intro sz
  refine vx_ofW (cc := b_TR_fail) (maxL := 2) (ret := none) (by decide) rfl ?_
  intro p e s m args below meth c s₁ B hml hno hv
  obtain ⟨rfl, hsz, hE, hP, hK, hD0⟩ := hv
  have hts := atoms_spec (ws := (Cond.code y_TR_fail b_TR_fail 2 none) :: z_T) B.pre
  have htz : ∀ w ∈ z_T, w.before _ s = true := fun w h => hts w (z_cons w h)
  subst hsz
  have hD := hD0.self (sz := s.heap.size)
  generalize hAe : va_A (s_t k a f_t g_t) s.heap.size = A at hD hE ⊢
  have hA : ∀ q : Nat, s.heap.size ≤ q → A q := fun q h => by rw [← hAe]; exact Or.inr h
  have hl := lv_entry ([.ref (a 20), .int x1]) (n := 2) (Nat.le_of_ble_eq_true rfl)
  rw [lg_entry_eq]
  generalize (lg_sl ([.ref (a 20), .int x1]) ++ List.replicate (2 - (lg_sl ([.ref (a 20), .int x1])).length) Slot.unset).toArray = ls at hl ⊢
  exact h ((l, dC, dI, k, a), p, e, s, m, ([.ref (a 20), .int x1] : List Value).toArray, below, meth, c, A) rfl ⟨⟨B.exec, B.bytes, B.returns, htz, findClass_of_methodNamed B.named, B.notSynchronized, hml, hE, hK, hA⟩, hno, hlt⟩ s.heap [] ls hl hP hD va_S.rf
def zc_TR_took (C : CT) (Post : Int32 → va_W → Prop) (c0 s0 pc : Nat) (loc : List (Nat × Value)) (st : List Value) (ws : va_W) : Prop := zW C (z_rm 1 0 0) 2 (oI C 0 0 Post) c0 s0 pc loc st ws
set_option maxHeartbeats 1000000 in
set_option maxRecDepth 100000 in
theorem k_TR_took_0 {C : CT} (X : cM C "QuestionText$TextReader" b_TR_took 2 (some .boolean)) (Post : Int32 → va_W → Prop) {P_1 : Int32 → va_W → Prop} (x1 : Int32) (f_t : FT) (g_t : GT) (c0 s0 : Nat)
    (b_1 : c0 ≤ 0 ∧ s0 ≤ 0)
    (m_1 : uI C.1 y_TR_nextSign (Cond.code y_TR_nextSign b_TR_nextSign 1 (some .int)) 0 0 0 [.ref (ad C.1 20)] (s_t C.1.2.2.2.1 C.1.2.2.2.2 f_t g_t) P_1)
    (k_1 : ∀ (r : Int32) (u : va_W), P_1 r u → zc_TR_took C Post c0 s0 4 [(0, .ref (ad C.1 20)), (1, .int x1)] [.int r] (u)) : zc_TR_took C Post c0 s0 0 [(0, .ref (ad C.1 20)), (1, .int x1)] [] (s_t C.1.2.2.2.1 C.1.2.2.2.2 f_t g_t) := by
  obtain ⟨⟨l, dC, dI, k, a⟩, p, e, s, m, args, below, meth, c, A⟩ := C
  obtain ⟨hx, hb, hr, htz, hown, hlocks, hml, hE, hK, hA⟩ := X
  intro H locs ls hl hP hD hS
  have hl : lv_has ls 2 [(0, .ref (a 20)), (1, .int x1)] := hl
  have hP : va_P (dC, dI) classes (s_t k a f_t g_t) H := hP
  have hD : va_D A (s_t k a f_t g_t) := hD
  show W p l e (z_rm 1 0 0) s m args below meth c H locs c0 s0 _ (F0 m 0 ls [])
  refine lv_aload_n hx hb d_TR_took_0 rfl (lv_at hl 0 rfl) ?_
  have hFc : ∀ q, va_A (s_t k a f_t g_t) H.size q → A q := fun q h => h.elim (fun z => by obtain ⟨i9, e9, h9⟩ := z; exact hD.2 i9 _ h9) (fun z => hA q (Nat.le_trans hS.1 z))
  refine va_calli (va_runV (As := []) (rest := []) ⟨hx, hb, hml, hown, htz⟩ (m_1 H.size) (cwV 0 htz (z_gV (fun _ h => h) km_TR_37 in_TR_nextSign se_TR_nextSign ini_TR m_TR_nextSign) rfl rfl rfl (by decide +kernel) ⟨(Nat.le_of_ble_eq_true rfl), (Nat.le_of_ble_eq_true rfl)⟩) ⟨z_blind, va_recv hK hP (ci := 1) (q0 := 0) rfl rfl, fun U hU hW => ⟨rfl, by rw [hU], hE.call hS hFc hU hW, by rw [hU]; exact hP, va_K.moved hW.alike hK, (hD.weaken (fun _ _ _ _ => trivial))⟩⟩ rfl rfl hl.1 rfl (lv_room (Nat.le_of_ble_eq_true rfl)) d_TR_took_1 b_1) hS (fun q _ h => hFc q h) hFc (fun r u t H1 locs ht hvm hw hB hz1 hk1 hS => ?_)
  obtain ⟨hP1, hK1, hD1⟩ := hB
  rw [ht] at hP1
  have hP := hP1
  have hD := hD1.weaken (fun _ q _ h => hFc _ h)
  exact k_1 r _ hw H1 locs ls (lv_sub hl [0, 1] rfl) hP hD hS
set_option maxHeartbeats 1000000 in
set_option maxRecDepth 100000 in
theorem k_TR_took_4 {C : CT} (X : cM C "QuestionText$TextReader" b_TR_took 2 (some .boolean)) (Post : Int32 → va_W → Prop) (x1 : Int32) (y0 : Int32) (f_t : FT) (g_t : GT) (c0 s0 : Nat)
    (b_21 : (y0 = x1) → c0 ≤ 0 ∧ s0 ≤ 0)
    (q_21 : (y0 = x1) → Post (1) (s_t C.1.2.2.2.1 C.1.2.2.2.2 (va_up f_t 1 ((f_t 1) + 1)) g_t))
    (b_9 : (¬ y0 = x1) → c0 ≤ 0 ∧ s0 ≤ 0)
    (q_9 : (¬ y0 = x1) → Post (0) (s_t C.1.2.2.2.1 C.1.2.2.2.2 f_t g_t)) : zc_TR_took C Post c0 s0 4 [(0, .ref (ad C.1 20)), (1, .int x1)] [.int y0] (s_t C.1.2.2.2.1 C.1.2.2.2.2 f_t g_t) := by
  obtain ⟨⟨l, dC, dI, k, a⟩, p, e, s, m, args, below, meth, c, A⟩ := C
  obtain ⟨hx, hb, hr, htz, hown, hlocks, hml, hE, hK, hA⟩ := X
  intro H locs ls hl hP hD hS
  have hl : lv_has ls 2 [(0, .ref (a 20)), (1, .int x1)] := hl
  have hP : va_P (dC, dI) classes (s_t k a f_t g_t) H := hP
  have hD : va_D A (s_t k a f_t g_t) := hD
  show W p l e (z_rm 1 0 0) s m args below meth c H locs c0 s0 _ (F0 m 4 ls [.int y0])
  refine lv_iload_n hx hb d_TR_took_4 rfl (lv_at hl 1 rfl) ?_
  refine lv_icmp_eq (tgt := 10) hx hb d_TR_took_5 (by decide) (fun c_5 => ?_) (fun c_5 => ?_)
  · refine lv_aload_n hx hb d_TR_took_10 rfl (lv_at hl 0 rfl) ?_
    refine lv_dup hx hb d_TR_took_11 rfl ?_
    refine va_get (D := (dC, dI)) (ci := 1) (v := .int (f_t 1)) (C := R_TR) (T := F_TR) (N := 5) hx hb htz i_TR hown hK hP 0 rfl rfl 4 (by decide) (htz _ kf_TR_31) (fun _ h9 => h9) rfl d_TR_took_12 ?_
    refine lv_iconst (v := 1) hx hb d_TR_took_15 (by decide) ?_
    refine lv_iadd hx hb d_TR_took_16 ?_
    refine va_put (D := (dC, dI)) (ci := 1) (v := .int ((f_t 1) + 1)) (ty := .int) (C := R_TR) (T := F_TR) (N := 5) hx hb htz i_TR t_TR o_TR n_TR hown hK hP hD hS 0 rfl rfl 4 (by decide) (htz _ kf_TR_31) (fun _ h9 => h9) rfl (by decide +kernel) rfl rfl (Nat.le_of_ble_eq_true rfl) d_TR_took_17 (fun H locs hP hD hS => ?_)
    have hP : va_P (dC, dI) classes (s_t k a (va_up f_t 1 ((f_t 1) + 1)) g_t) H := hP
    have hD : va_D A (s_t k a (va_up f_t 1 ((f_t 1) + 1)) g_t) := hD
    refine lv_iconst (v := 1) hx hb d_TR_took_20 (by decide) ?_
    refine W.widen (k := 0) (n := 0) (b_21 c_5).1 (b_21 c_5).2 ?_
    exact W.zret (v := 1) (ty := .boolean) hx hb hr rfl (fun t ht hW => ⟨⟨_, (s_t k a (va_up f_t 1 ((f_t 1) + 1)) g_t), rfl, (q_21 c_5), by rw [ht]; exact hP, va_K.moved hW.alike hK, hD⟩, hS.F ht⟩) hS.2.2 d_TR_took_21
  · refine lv_iconst (v := 0) hx hb d_TR_took_8 (by decide) ?_
    refine W.widen (k := 0) (n := 0) (b_9 c_5).1 (b_9 c_5).2 ?_
    exact W.zret (v := 0) (ty := .boolean) hx hb hr rfl (fun t ht hW => ⟨⟨_, (s_t k a f_t g_t), rfl, (q_9 c_5), by rw [ht]; exact hP, va_K.moved hW.alike hK, hD⟩, hS.F ht⟩) hS.2.2 d_TR_took_9
set_option maxHeartbeats 1000000 in
set_option maxRecDepth 100000 in
theorem e_TR_took (T : ST) (Post : Int32 → va_W → Prop) (x1 : Int32) (f_t : FT) (g_t : GT) (h : ∀ C : CT, C.1 = T → cM C "QuestionText$TextReader" b_TR_took 2 (some .boolean) → zc_TR_took C Post 0 0 0 [(0, .ref (ad C.1 20)), (1, .int x1)] [] (s_t C.1.2.2.2.1 C.1.2.2.2.2 f_t g_t)) : uI T y_TR_took (Cond.code y_TR_took b_TR_took 2 (some .boolean)) 1 0 0 [.ref (ad T 20), .int x1] (s_t T.2.2.2.1 T.2.2.2.2 f_t g_t) Post := by
  obtain ⟨l, dC, dI, k, a⟩ := T
  intro sz
  refine Met.ofW (cc := b_TR_took) (maxL := 2) (ret := (some .boolean)) (by decide) rfl ?_
  intro p e s m args below meth c s₁ B hml hv
  obtain ⟨rfl, hsz, hE, hP, hK, hD0⟩ := hv
  have hts := atoms_spec (ws := (Cond.code y_TR_took b_TR_took 2 (some .boolean)) :: z_T) B.pre
  have htz : ∀ w ∈ z_T, w.before _ s = true := fun w h => hts w (z_cons w h)
  subst hsz
  have hD := hD0.self (sz := s.heap.size)
  generalize hAe : va_A (s_t k a f_t g_t) s.heap.size = A at hD hE ⊢
  have hA : ∀ q : Nat, s.heap.size ≤ q → A q := fun q h => by rw [← hAe]; exact Or.inr h
  have hl := lv_entry ([.ref (a 20), .int x1]) (n := 2) (Nat.le_of_ble_eq_true rfl)
  rw [lg_entry_eq]
  generalize (lg_sl ([.ref (a 20), .int x1]) ++ List.replicate (2 - (lg_sl ([.ref (a 20), .int x1])).length) Slot.unset).toArray = ls at hl ⊢
  exact h ((l, dC, dI, k, a), p, e, s, m, ([.ref (a 20), .int x1] : List Value).toArray, below, meth, c, A) rfl ⟨B.exec, B.bytes, B.returns, htz, findClass_of_methodNamed B.named, B.notSynchronized, hml, hE, hK, hA⟩ s.heap [] ls hl hP hD va_S.rf
def zc_TR_take (C : CT) (Post : va_W → Prop) (PX : String → va_W → Prop) (c0 s0 pc : Nat) (loc : List (Nat × Value)) (st : List Value) (ws : va_W) : Prop := zW C (z_rm 1 1 6) 2 (yV C 1 6 Post PX) c0 s0 pc loc st ws
set_option maxHeartbeats 1000000 in
set_option maxRecDepth 100000 in
theorem k_TR_take_0 {C : CT} (X : cX C "QuestionText$TextReader" b_TR_take 2 none) (Post : va_W → Prop) (PX : String → va_W → Prop) {P_1 : Int32 → va_W → Prop} (x1 : Int32) (f_t : FT) (g_t : GT) (c0 s0 : Nat)
    (b_1 : c0 ≤ 1 ∧ s0 ≤ 6)
    (m_1 : uI C.1 y_TR_nextSign (Cond.code y_TR_nextSign b_TR_nextSign 1 (some .int)) 0 0 0 [.ref (ad C.1 20)] (s_t C.1.2.2.2.1 C.1.2.2.2.2 f_t g_t) P_1)
    (k_1 : ∀ (r : Int32) (u : va_W), P_1 r u → zc_TR_take C Post PX c0 s0 4 [(0, .ref (ad C.1 20)), (1, .int x1)] [.int r] (u)) : zc_TR_take C Post PX c0 s0 0 [(0, .ref (ad C.1 20)), (1, .int x1)] [] (s_t C.1.2.2.2.1 C.1.2.2.2.2 f_t g_t) := by
  obtain ⟨⟨l, dC, dI, k, a⟩, p, e, s, m, args, below, meth, c, A⟩ := C
  obtain ⟨⟨hx, hb, hr, htz, hown, hlocks, hml, hE, hK, hA⟩, hno, hlt⟩ := X
  intro H locs ls hl hP hD hS
  have hl : lv_has ls 2 [(0, .ref (a 20)), (1, .int x1)] := hl
  have hP : va_P (dC, dI) classes (s_t k a f_t g_t) H := hP
  have hD : va_D A (s_t k a f_t g_t) := hD
  show W p l e (z_rm 1 1 6) s m args below meth c H locs c0 s0 _ (F0 m 0 ls [])
  refine lv_aload_n hx hb d_TR_take_0 rfl (lv_at hl 0 rfl) ?_
  have hFc : ∀ q, va_A (s_t k a f_t g_t) H.size q → A q := fun q h => h.elim (fun z => by obtain ⟨i9, e9, h9⟩ := z; exact hD.2 i9 _ h9) (fun z => hA q (Nat.le_trans hS.1 z))
  refine va_calli (va_runV (As := []) (rest := []) ⟨hx, hb, hml, hown, htz⟩ (m_1 H.size) (cwV 0 htz (z_gV (fun _ h => h) km_TR_37 in_TR_nextSign se_TR_nextSign ini_TR m_TR_nextSign) rfl rfl rfl (by decide +kernel) ⟨(Nat.le_of_ble_eq_true rfl), (Nat.le_of_ble_eq_true rfl)⟩) ⟨z_blind, va_recv hK hP (ci := 1) (q0 := 0) rfl rfl, fun U hU hW => ⟨rfl, by rw [hU], hE.call hS hFc hU hW, by rw [hU]; exact hP, va_K.moved hW.alike hK, (hD.weaken (fun _ _ _ _ => trivial))⟩⟩ rfl rfl hl.1 rfl (lv_room (Nat.le_of_ble_eq_true rfl)) d_TR_take_1 b_1) hS (fun q _ h => hFc q h) hFc (fun r u t H1 locs ht hvm hw hB hz1 hk1 hS => ?_)
  obtain ⟨hP1, hK1, hD1⟩ := hB
  rw [ht] at hP1
  have hP := hP1
  have hD := hD1.weaken (fun _ q _ h => hFc _ h)
  exact k_1 r _ hw H1 locs ls (lv_sub hl [0, 1] rfl) hP hD hS
set_option maxHeartbeats 1000000 in
set_option maxRecDepth 100000 in
theorem k_TR_take_4 {C : CT} (X : cX C "QuestionText$TextReader" b_TR_take 2 none) (Post : va_W → Prop) (PX : String → va_W → Prop) {P_13 : va_W → Prop} {X_13 : String → va_W → Prop} (x1 : Int32) (y0 : Int32) (f_t : FT) (g_t : GT) (c0 s0 : Nat)
    (k_16 : (y0 = x1) → zc_TR_take C Post PX c0 s0 16 [(0, .ref (ad C.1 20)), (1, .int x1)] [] (s_t C.1.2.2.2.1 C.1.2.2.2.2 f_t g_t))
    (b_13 : (¬ y0 = x1) → c0 + 1 ≤ 1 ∧ s0 + 6 ≤ 6)
    (m_13 : (¬ y0 = x1) → xV C.1 y_TR_fail (Cond.code y_TR_fail b_TR_fail 2 none) 0 1 6 [.ref (ad C.1 20), .int (f_t 1)] (s_t C.1.2.2.2.1 C.1.2.2.2.2 f_t g_t) P_13 X_13)
    (k_13 : (¬ y0 = x1) → ∀ (u : va_W), P_13 u → zc_TR_take C Post PX (c0 + 1) (s0 + 6) 16 [(0, .ref (ad C.1 20)), (1, .int x1)] [] (u))
    (x_13 : (¬ y0 = x1) → ∀ (E : String) (u : va_W), X_13 E u → PX E (u)) : zc_TR_take C Post PX c0 s0 4 [(0, .ref (ad C.1 20)), (1, .int x1)] [.int y0] (s_t C.1.2.2.2.1 C.1.2.2.2.2 f_t g_t) := by
  obtain ⟨⟨l, dC, dI, k, a⟩, p, e, s, m, args, below, meth, c, A⟩ := C
  obtain ⟨⟨hx, hb, hr, htz, hown, hlocks, hml, hE, hK, hA⟩, hno, hlt⟩ := X
  intro H locs ls hl hP hD hS
  have hl : lv_has ls 2 [(0, .ref (a 20)), (1, .int x1)] := hl
  have hP : va_P (dC, dI) classes (s_t k a f_t g_t) H := hP
  have hD : va_D A (s_t k a f_t g_t) := hD
  show W p l e (z_rm 1 1 6) s m args below meth c H locs c0 s0 _ (F0 m 4 ls [.int y0])
  refine lv_iload_n hx hb d_TR_take_4 rfl (lv_at hl 1 rfl) ?_
  refine lv_icmp_eq (tgt := 16) hx hb d_TR_take_5 (by decide) (fun c_5 => ?_) (fun c_5 => ?_)
  · exact (k_16 c_5) H locs ls (lv_sub hl [0, 1] rfl) hP hD hS
  · refine lv_aload_n hx hb d_TR_take_8 rfl (lv_at hl 0 rfl) ?_
    refine lv_aload_n hx hb d_TR_take_9 rfl (lv_at hl 0 rfl) ?_
    refine va_get (D := (dC, dI)) (ci := 1) (v := .int (f_t 1)) (C := R_TR) (T := F_TR) (N := 5) hx hb htz i_TR hown hK hP 0 rfl rfl 4 (by decide) (htz _ kf_TR_31) (fun _ h9 => h9) rfl d_TR_take_10 ?_
    have hFc : ∀ q, va_A (s_t k a f_t g_t) H.size q → A q := fun q h => h.elim (fun z => by obtain ⟨i9, e9, h9⟩ := z; exact hD.2 i9 _ h9) (fun z => hA q (Nat.le_trans hS.1 z))
    refine vx_callv (vx_runV (As := [.int (f_t 1)]) (rest := []) ⟨hx, hb, hml, hown, htz⟩ ((m_13 c_5) H.size) (cwV 1 htz (z_gV (fun _ h => h) km_TR_61 in_TR_fail se_TR_fail ini_TR m_TR_fail) rfl rfl rfl (by decide +kernel) ⟨(Nat.le_of_ble_eq_true rfl), (Nat.le_of_ble_eq_true rfl)⟩) ⟨z_blind, va_recv hK hP (ci := 1) (q0 := 0) rfl rfl, fun U hU hW => ⟨rfl, by rw [hU], hE.call hS hFc hU hW, by rw [hU]; exact hP, va_K.moved hW.alike hK, (hD.weaken (fun _ _ _ _ => trivial))⟩⟩ rfl rfl hl.1 rfl (lv_room (Nat.le_of_ble_eq_true rfl)) d_TR_take_13 (b_13 c_5)) hS (fun q _ h => hFc q h) hFc (fun q _ h => hFc q h) (fun E ce q9 u t H1 locs ht hvm hw hB hz1 hk1 hS hce hcv hcl => ?_) (fun u t H1 locs ht hvm hw hB hz1 hk1 hS => ?_)
    · obtain ⟨hxe, hP1, hK1, hD1⟩ := hB
      rw [ht] at hP1
      have hP := hP1
      have hD := hD1.weaken (fun _ q _ h => hFc _ h)
      exact vx_out (fun x hx9 => (hno x hx9).elim) hlocks hce hcv hcl (fun t9 h9 h8 => ⟨_, trivial, ⟨(x_13 c_5) E u hxe, by rw [h9]; exact hP, va_K.moved h8 hK, hD⟩, hS.F h9⟩) hS.2.2 (b_13 c_5).1 (b_13 c_5).2
    · obtain ⟨hP1, hK1, hD1⟩ := hB
      rw [ht] at hP1
      have hP := hP1
      have hD := hD1.weaken (fun _ q _ h => hFc _ h)
      exact (k_13 c_5) _ hw H1 locs ls (lv_sub hl [0, 1] rfl) hP hD hS
set_option maxHeartbeats 1000000 in
set_option maxRecDepth 100000 in
theorem k_TR_take_16 {C : CT} (X : cX C "QuestionText$TextReader" b_TR_take 2 none) (Post : va_W → Prop) (PX : String → va_W → Prop) (x1 : Int32) (f_t : FT) (g_t : GT) (c0 s0 : Nat)
    (b_26 : c0 ≤ 1 ∧ s0 ≤ 6)
    (q_26 : Post (s_t C.1.2.2.2.1 C.1.2.2.2.2 (va_up f_t 1 ((f_t 1) + 1)) g_t)) : zc_TR_take C Post PX c0 s0 16 [(0, .ref (ad C.1 20)), (1, .int x1)] [] (s_t C.1.2.2.2.1 C.1.2.2.2.2 f_t g_t) := by
  obtain ⟨⟨l, dC, dI, k, a⟩, p, e, s, m, args, below, meth, c, A⟩ := C
  obtain ⟨⟨hx, hb, hr, htz, hown, hlocks, hml, hE, hK, hA⟩, hno, hlt⟩ := X
  intro H locs ls hl hP hD hS
  have hl : lv_has ls 2 [(0, .ref (a 20)), (1, .int x1)] := hl
  have hP : va_P (dC, dI) classes (s_t k a f_t g_t) H := hP
  have hD : va_D A (s_t k a f_t g_t) := hD
  show W p l e (z_rm 1 1 6) s m args below meth c H locs c0 s0 _ (F0 m 16 ls [])
  refine lv_aload_n hx hb d_TR_take_16 rfl (lv_at hl 0 rfl) ?_
  refine lv_dup hx hb d_TR_take_17 rfl ?_
  refine va_get (D := (dC, dI)) (ci := 1) (v := .int (f_t 1)) (C := R_TR) (T := F_TR) (N := 5) hx hb htz i_TR hown hK hP 0 rfl rfl 4 (by decide) (htz _ kf_TR_31) (fun _ h9 => h9) rfl d_TR_take_18 ?_
  refine lv_iconst (v := 1) hx hb d_TR_take_21 (by decide) ?_
  refine lv_iadd hx hb d_TR_take_22 ?_
  refine va_put (D := (dC, dI)) (ci := 1) (v := .int ((f_t 1) + 1)) (ty := .int) (C := R_TR) (T := F_TR) (N := 5) hx hb htz i_TR t_TR o_TR n_TR hown hK hP hD hS 0 rfl rfl 4 (by decide) (htz _ kf_TR_31) (fun _ h9 => h9) rfl (by decide +kernel) rfl rfl (Nat.le_of_ble_eq_true rfl) d_TR_take_23 (fun H locs hP hD hS => ?_)
  have hP : va_P (dC, dI) classes (s_t k a (va_up f_t 1 ((f_t 1) + 1)) g_t) H := hP
  have hD : va_D A (s_t k a (va_up f_t 1 ((f_t 1) + 1)) g_t) := hD
  refine W.widen (k := 1) (n := 6) b_26.1 b_26.2 ?_
  refine vx_ret ?_
  exact W.vret hx hb hr (fun t ht hW => ⟨⟨(s_t k a (va_up f_t 1 ((f_t 1) + 1)) g_t), rfl, q_26, by rw [ht]; exact hP, va_K.moved hW.alike hK, hD⟩, hS.F ht⟩) hS.2.2 d_TR_take_26
set_option maxHeartbeats 1000000 in
set_option maxRecDepth 100000 in
theorem e_TR_take (T : ST) (hlt : T.1.stackTraces = false) (Post : va_W → Prop) (PX : String → va_W → Prop) (x1 : Int32) (f_t : FT) (g_t : GT) (h : ∀ C : CT, C.1 = T → cX C "QuestionText$TextReader" b_TR_take 2 none → zc_TR_take C Post PX 0 0 0 [(0, .ref (ad C.1 20)), (1, .int x1)] [] (s_t C.1.2.2.2.1 C.1.2.2.2.2 f_t g_t)) : xV T y_TR_take (Cond.code y_TR_take b_TR_take 2 none) 1 1 6 [.ref (ad T 20), .int x1] (s_t T.2.2.2.1 T.2.2.2.2 f_t g_t) Post PX := by
  obtain ⟨l, dC, dI, k, a⟩ := T
  intro sz
  refine vx_ofW (cc := b_TR_take) (maxL := 2) (ret := none) (by decide) rfl ?_
  intro p e s m args below meth c s₁ B hml hno hv
  obtain ⟨rfl, hsz, hE, hP, hK, hD0⟩ := hv
  have hts := atoms_spec (ws := (Cond.code y_TR_take b_TR_take 2 none) :: z_T) B.pre
  have htz : ∀ w ∈ z_T, w.before _ s = true := fun w h => hts w (z_cons w h)
  subst hsz
  have hD := hD0.self (sz := s.heap.size)
  generalize hAe : va_A (s_t k a f_t g_t) s.heap.size = A at hD hE ⊢
  have hA : ∀ q : Nat, s.heap.size ≤ q → A q := fun q h => by rw [← hAe]; exact Or.inr h
  have hl := lv_entry ([.ref (a 20), .int x1]) (n := 2) (Nat.le_of_ble_eq_true rfl)
  rw [lg_entry_eq]
  generalize (lg_sl ([.ref (a 20), .int x1]) ++ List.replicate (2 - (lg_sl ([.ref (a 20), .int x1])).length) Slot.unset).toArray = ls at hl ⊢
  exact h ((l, dC, dI, k, a), p, e, s, m, ([.ref (a 20), .int x1] : List Value).toArray, below, meth, c, A) rfl ⟨⟨B.exec, B.bytes, B.returns, htz, findClass_of_methodNamed B.named, B.notSynchronized, hml, hE, hK, hA⟩, hno, hlt⟩ s.heap [] ls hl hP hD va_S.rf
def zc_TR_readNumber (C : CT) (Post : Int32 → va_W → Prop) (PX : String → va_W → Prop) (c0 s0 pc : Nat) (loc : List (Nat × Value)) (st : List Value) (ws : va_W) : Prop := zW C (z_rm 1 3 18) 6 (yI C 3 18 Post PX) c0 s0 pc loc st ws
set_option maxHeartbeats 1000000 in
set_option maxRecDepth 100000 in
theorem k_TR_readNumber_0 {C : CT} (X : cX C "QuestionText$TextReader" b_TR_readNumber 6 (some .int)) (Post : Int32 → va_W → Prop) (PX : String → va_W → Prop) {P_1 : Int32 → va_W → Prop} (x1 : Int32) (x2 : Int32) (f_t : FT) (g_t : GT) (c0 s0 : Nat)
    (b_1 : c0 ≤ 3 ∧ s0 ≤ 18)
    (m_1 : uI C.1 y_TR_nextSign (Cond.code y_TR_nextSign b_TR_nextSign 1 (some .int)) 0 0 0 [.ref (ad C.1 20)] (s_t C.1.2.2.2.1 C.1.2.2.2.2 f_t g_t) P_1)
    (k_1 : ∀ (r : Int32) (u : va_W), P_1 r u → zc_TR_readNumber C Post PX c0 s0 4 [(0, .ref (ad C.1 20)), (1, .int x1), (2, .int x2)] [.int r] (u)) : zc_TR_readNumber C Post PX c0 s0 0 [(0, .ref (ad C.1 20)), (1, .int x1), (2, .int x2)] [] (s_t C.1.2.2.2.1 C.1.2.2.2.2 f_t g_t) := by
  obtain ⟨⟨l, dC, dI, k, a⟩, p, e, s, m, args, below, meth, c, A⟩ := C
  obtain ⟨⟨hx, hb, hr, htz, hown, hlocks, hml, hE, hK, hA⟩, hno, hlt⟩ := X
  intro H locs ls hl hP hD hS
  have hl : lv_has ls 6 [(0, .ref (a 20)), (1, .int x1), (2, .int x2)] := hl
  have hP : va_P (dC, dI) classes (s_t k a f_t g_t) H := hP
  have hD : va_D A (s_t k a f_t g_t) := hD
  show W p l e (z_rm 1 3 18) s m args below meth c H locs c0 s0 _ (F0 m 0 ls [])
  refine lv_aload_n hx hb d_TR_readNumber_0 rfl (lv_at hl 0 rfl) ?_
  have hFc : ∀ q, va_A (s_t k a f_t g_t) H.size q → A q := fun q h => h.elim (fun z => by obtain ⟨i9, e9, h9⟩ := z; exact hD.2 i9 _ h9) (fun z => hA q (Nat.le_trans hS.1 z))
  refine va_calli (va_runV (As := []) (rest := []) ⟨hx, hb, hml, hown, htz⟩ (m_1 H.size) (cwV 0 htz (z_gV (fun _ h => h) km_TR_37 in_TR_nextSign se_TR_nextSign ini_TR m_TR_nextSign) rfl rfl rfl (by decide +kernel) ⟨(Nat.le_of_ble_eq_true rfl), (Nat.le_of_ble_eq_true rfl)⟩) ⟨z_blind, va_recv hK hP (ci := 1) (q0 := 0) rfl rfl, fun U hU hW => ⟨rfl, by rw [hU], hE.call hS hFc hU hW, by rw [hU]; exact hP, va_K.moved hW.alike hK, (hD.weaken (fun _ _ _ _ => trivial))⟩⟩ rfl rfl hl.1 rfl (lv_room (Nat.le_of_ble_eq_true rfl)) d_TR_readNumber_1 b_1) hS (fun q _ h => hFc q h) hFc (fun r u t H1 locs ht hvm hw hB hz1 hk1 hS => ?_)
  obtain ⟨hP1, hK1, hD1⟩ := hB
  rw [ht] at hP1
  have hP := hP1
  have hD := hD1.weaken (fun _ q _ h => hFc _ h)
  exact k_1 r _ hw H1 locs ls (lv_sub hl [0, 1, 2] rfl) hP hD hS
set_option maxHeartbeats 1000000 in
set_option maxRecDepth 100000 in
theorem k_TR_readNumber_4 {C : CT} (X : cX C "QuestionText$TextReader" b_TR_readNumber 6 (some .int)) (Post : Int32 → va_W → Prop) (PX : String → va_W → Prop) {P_6 : Int32 → va_W → Prop} (x1 : Int32) (x2 : Int32) (y0 : Int32) (f_t : FT) (g_t : GT) (c0 s0 : Nat)
    (b_6 : c0 ≤ 3 ∧ s0 ≤ 18)
    (m_6 : uI C.1 y_TR_isDigit (Cond.code y_TR_isDigit b_TR_isDigit 1 (some .boolean)) 0 0 0 [.int y0] ([]) P_6)
    (k_6 : ∀ (r : Int32) (u : va_W), P_6 r u → zc_TR_readNumber C Post PX c0 s0 9 [(0, .ref (ad C.1 20)), (1, .int x1), (2, .int x2), (3, .int y0)] [.int r] (s_t C.1.2.2.2.1 C.1.2.2.2.2 f_t g_t)) : zc_TR_readNumber C Post PX c0 s0 4 [(0, .ref (ad C.1 20)), (1, .int x1), (2, .int x2)] [.int y0] (s_t C.1.2.2.2.1 C.1.2.2.2.2 f_t g_t) := by
  obtain ⟨⟨l, dC, dI, k, a⟩, p, e, s, m, args, below, meth, c, A⟩ := C
  obtain ⟨⟨hx, hb, hr, htz, hown, hlocks, hml, hE, hK, hA⟩, hno, hlt⟩ := X
  intro H locs ls hl hP hD hS
  have hl : lv_has ls 6 [(0, .ref (a 20)), (1, .int x1), (2, .int x2)] := hl
  have hP : va_P (dC, dI) classes (s_t k a f_t g_t) H := hP
  have hD : va_D A (s_t k a f_t g_t) := hD
  show W p l e (z_rm 1 3 18) s m args below meth c H locs c0 s0 _ (F0 m 4 ls [.int y0])
  refine lv_istore_n (lv' := [(3, .int y0), (0, .ref (a 20)), (1, .int x1), (2, .int x2)]) hx hb d_TR_readNumber_4 rfl hl (by decide) rfl (fun ls hl => ?_)
  refine lv_iload_n hx hb d_TR_readNumber_5 rfl (lv_at hl 0 rfl) ?_
  have hFc : ∀ q, va_A [] H.size q → A q := fun q h => h.elim (fun z => by obtain ⟨i9, e9, h9⟩ := z; cases h9) (fun z => hA q (Nat.le_trans hS.1 z))
  refine va_calli (va_runS (As := [.int y0]) (rest := []) ⟨hx, hb, hml, hown, htz⟩ (m_6 H.size) (va_cwS 1 htz (z_gS (fun _ h => h) km_TR_75 st_TR_isDigit ini_TR m_TR_isDigit) rfl rfl rfl (by decide +kernel) ⟨(Nat.le_of_ble_eq_true rfl), (Nat.le_of_ble_eq_true rfl)⟩) ⟨z_blind, fun U hU hW => ⟨rfl, by rw [hU], hE.call hS hFc hU hW, by rw [hU]; exact zP0, va_K.moved hW.alike hK, zD0⟩⟩ rfl rfl hl.1 rfl (lv_room (Nat.le_of_ble_eq_true rfl)) d_TR_readNumber_6 b_6) hS (fun q _ h => hFc q h) hFc (fun r u t H1 locs ht hvm hw hB hz1 hk1 hS => ?_)
  obtain ⟨hP1, hK1, hD1⟩ := hB
  rw [ht] at hP1
  have hP : va_P (dC, dI) classes (s_t k a f_t g_t) H1 := hP.kept (fun j q hq => hk1 q.1 (hP j q hq).lt (fun z => z.elim (fun z => by obtain ⟨i9, e9, h9⟩ := z; cases h9) (fun z => absurd z (Nat.not_le.mpr (hP j q hq).lt))))
  exact k_6 r _ hw H1 locs ls (lv_sub hl [1, 2, 3, 0] rfl) hP hD hS
set_option maxHeartbeats 1000000 in
set_option maxRecDepth 100000 in
theorem k_TR_readNumber_9 {C : CT} (X : cX C "QuestionText$TextReader" b_TR_readNumber 6 (some .int)) (Post : Int32 → va_W → Prop) (PX : String → va_W → Prop) {P_17 : va_W → Prop} {X_17 : String → va_W → Prop} (x1 : Int32) (x2 : Int32) (x3 : Int32) (y0 : Int32) (f_t : FT) (g_t : GT) (c0 s0 : Nat)
    (k_20 : (¬ y0 = 0) → zc_TR_readNumber C Post PX c0 s0 20 [(0, .ref (ad C.1 20)), (1, .int x1), (2, .int x2), (3, .int x3)] [] (s_t C.1.2.2.2.1 C.1.2.2.2.2 f_t g_t))
    (b_17 : (y0 = 0) → c0 + 1 ≤ 3 ∧ s0 + 6 ≤ 18)
    (m_17 : (y0 = 0) → xV C.1 y_TR_fail (Cond.code y_TR_fail b_TR_fail 2 none) 0 1 6 [.ref (ad C.1 20), .int (f_t 1)] (s_t C.1.2.2.2.1 C.1.2.2.2.2 f_t g_t) P_17 X_17)
    (k_17 : (y0 = 0) → ∀ (u : va_W), P_17 u → zc_TR_readNumber C Post PX (c0 + 1) (s0 + 6) 20 [(0, .ref (ad C.1 20)), (1, .int x1), (2, .int x2), (3, .int x3)] [] (u))
    (x_17 : (y0 = 0) → ∀ (E : String) (u : va_W), X_17 E u → PX E (u)) : zc_TR_readNumber C Post PX c0 s0 9 [(0, .ref (ad C.1 20)), (1, .int x1), (2, .int x2), (3, .int x3)] [.int y0] (s_t C.1.2.2.2.1 C.1.2.2.2.2 f_t g_t) := by
  obtain ⟨⟨l, dC, dI, k, a⟩, p, e, s, m, args, below, meth, c, A⟩ := C
  obtain ⟨⟨hx, hb, hr, htz, hown, hlocks, hml, hE, hK, hA⟩, hno, hlt⟩ := X
  intro H locs ls hl hP hD hS
  have hl : lv_has ls 6 [(0, .ref (a 20)), (1, .int x1), (2, .int x2), (3, .int x3)] := hl
  have hP : va_P (dC, dI) classes (s_t k a f_t g_t) H := hP
  have hD : va_D A (s_t k a f_t g_t) := hD
  show W p l e (z_rm 1 3 18) s m args below meth c H locs c0 s0 _ (F0 m 9 ls [.int y0])
  refine lv_if_ne (tgt := 20) hx hb d_TR_readNumber_9 (by decide) (fun c_9 => ?_) (fun c_9 => ?_)
  · exact (k_20 c_9) H locs ls (lv_sub hl [0, 1, 2, 3] rfl) hP hD hS
  · refine lv_aload_n hx hb d_TR_readNumber_12 rfl (lv_at hl 0 rfl) ?_
    refine lv_aload_n hx hb d_TR_readNumber_13 rfl (lv_at hl 0 rfl) ?_
    refine va_get (D := (dC, dI)) (ci := 1) (v := .int (f_t 1)) (C := R_TR) (T := F_TR) (N := 5) hx hb htz i_TR hown hK hP 0 rfl rfl 4 (by decide) (htz _ kf_TR_31) (fun _ h9 => h9) rfl d_TR_readNumber_14 ?_
    have hFc : ∀ q, va_A (s_t k a f_t g_t) H.size q → A q := fun q h => h.elim (fun z => by obtain ⟨i9, e9, h9⟩ := z; exact hD.2 i9 _ h9) (fun z => hA q (Nat.le_trans hS.1 z))
    refine vx_callv (vx_runV (As := [.int (f_t 1)]) (rest := []) ⟨hx, hb, hml, hown, htz⟩ ((m_17 c_9) H.size) (cwV 1 htz (z_gV (fun _ h => h) km_TR_61 in_TR_fail se_TR_fail ini_TR m_TR_fail) rfl rfl rfl (by decide +kernel) ⟨(Nat.le_of_ble_eq_true rfl), (Nat.le_of_ble_eq_true rfl)⟩) ⟨z_blind, va_recv hK hP (ci := 1) (q0 := 0) rfl rfl, fun U hU hW => ⟨rfl, by rw [hU], hE.call hS hFc hU hW, by rw [hU]; exact hP, va_K.moved hW.alike hK, (hD.weaken (fun _ _ _ _ => trivial))⟩⟩ rfl rfl hl.1 rfl (lv_room (Nat.le_of_ble_eq_true rfl)) d_TR_readNumber_17 (b_17 c_9)) hS (fun q _ h => hFc q h) hFc (fun q _ h => hFc q h) (fun E ce q9 u t H1 locs ht hvm hw hB hz1 hk1 hS hce hcv hcl => ?_) (fun u t H1 locs ht hvm hw hB hz1 hk1 hS => ?_)
    · obtain ⟨hxe, hP1, hK1, hD1⟩ := hB
      rw [ht] at hP1
      have hP := hP1
      have hD := hD1.weaken (fun _ q _ h => hFc _ h)
      exact vx_out (fun x hx9 => (hno x hx9).elim) hlocks hce hcv hcl (fun t9 h9 h8 => ⟨_, trivial, ⟨(x_17 c_9) E u hxe, by rw [h9]; exact hP, va_K.moved h8 hK, hD⟩, hS.F h9⟩) hS.2.2 (b_17 c_9).1 (b_17 c_9).2
    · obtain ⟨hP1, hK1, hD1⟩ := hB
      rw [ht] at hP1
      have hP := hP1
      have hD := hD1.weaken (fun _ q _ h => hFc _ h)
      exact (k_17 c_9) _ hw H1 locs ls (lv_sub hl [0, 1, 2, 3] rfl) hP hD hS
set_option maxHeartbeats 1000000 in
set_option maxRecDepth 100000 in
theorem k_TR_readNumber_20 {C : CT} (X : cX C "QuestionText$TextReader" b_TR_readNumber 6 (some .int)) (Post : Int32 → va_W → Prop) (PX : String → va_W → Prop) (x1 : Int32) (x2 : Int32) (x3 : Int32) (f_t : FT) (g_t : GT) (c0 s0 : Nat)
    (k_39 : zc_TR_readNumber C Post PX c0 s0 39 [(0, .ref (ad C.1 20)), (1, .int x1), (2, .int x2), (3, .int x3), (4, .int (x3 - 48)), (5, .int 1)] [] (s_t C.1.2.2.2.1 C.1.2.2.2.2 (va_up f_t 1 ((f_t 1) + 1)) g_t)) : zc_TR_readNumber C Post PX c0 s0 20 [(0, .ref (ad C.1 20)), (1, .int x1), (2, .int x2), (3, .int x3)] [] (s_t C.1.2.2.2.1 C.1.2.2.2.2 f_t g_t) := by
  obtain ⟨⟨l, dC, dI, k, a⟩, p, e, s, m, args, below, meth, c, A⟩ := C
  obtain ⟨⟨hx, hb, hr, htz, hown, hlocks, hml, hE, hK, hA⟩, hno, hlt⟩ := X
  intro H locs ls hl hP hD hS
  have hl : lv_has ls 6 [(0, .ref (a 20)), (1, .int x1), (2, .int x2), (3, .int x3)] := hl
  have hP : va_P (dC, dI) classes (s_t k a f_t g_t) H := hP
  have hD : va_D A (s_t k a f_t g_t) := hD
  show W p l e (z_rm 1 3 18) s m args below meth c H locs c0 s0 _ (F0 m 20 ls [])
  refine lv_iload_n hx hb d_TR_readNumber_20 rfl (lv_at hl 3 rfl) ?_
  refine lv_bipush (v := 48) hx hb d_TR_readNumber_21 (by decide) ?_
  refine lv_isub hx hb d_TR_readNumber_23 ?_
  refine lv_istore (lv' := [(4, .int (x3 - 48)), (0, .ref (a 20)), (1, .int x1), (2, .int x2), (3, .int x3)]) hx hb d_TR_readNumber_24 hl (by decide) rfl (fun ls hl => ?_)
  refine lv_aload_n hx hb d_TR_readNumber_26 rfl (lv_at hl 1 rfl) ?_
  refine lv_dup hx hb d_TR_readNumber_27 rfl ?_
  refine va_get (D := (dC, dI)) (ci := 1) (v := .int (f_t 1)) (C := R_TR) (T := F_TR) (N := 5) hx hb htz i_TR hown hK hP 0 rfl rfl 4 (by decide) (htz _ kf_TR_31) (fun _ h9 => h9) rfl d_TR_readNumber_28 ?_
  refine lv_iconst (v := 1) hx hb d_TR_readNumber_31 (by decide) ?_
  refine lv_iadd hx hb d_TR_readNumber_32 ?_
  refine va_put (D := (dC, dI)) (ci := 1) (v := .int ((f_t 1) + 1)) (ty := .int) (C := R_TR) (T := F_TR) (N := 5) hx hb htz i_TR t_TR o_TR n_TR hown hK hP hD hS 0 rfl rfl 4 (by decide) (htz _ kf_TR_31) (fun _ h9 => h9) rfl (by decide +kernel) rfl rfl (Nat.le_of_ble_eq_true rfl) d_TR_readNumber_33 (fun H locs hP hD hS => ?_)
  have hP : va_P (dC, dI) classes (s_t k a (va_up f_t 1 ((f_t 1) + 1)) g_t) H := hP
  have hD : va_D A (s_t k a (va_up f_t 1 ((f_t 1) + 1)) g_t) := hD
  refine lv_iconst (v := 1) hx hb d_TR_readNumber_36 (by decide) ?_
  refine lv_istore (lv' := [(5, .int 1), (4, .int (x3 - 48)), (0, .ref (a 20)), (1, .int x1), (2, .int x2), (3, .int x3)]) hx hb d_TR_readNumber_37 hl (by decide) rfl (fun ls hl => ?_)
  exact k_39 H locs ls (lv_sub hl [2, 3, 4, 5, 1, 0] rfl) hP hD hS
set_option maxHeartbeats 1000000 in
set_option maxRecDepth 100000 in
theorem k_TR_readNumber_39 {C : CT} (X : cX C "QuestionText$TextReader" b_TR_readNumber 6 (some .int)) (Post : Int32 → va_W → Prop) (PX : String → va_W → Prop) {P_70 : Int32 → va_W → Prop} (x1 : Int32) (x2 : Int32) (x3 : Int32) (x4 : Int32) (x5 : Int32) (f_t : FT) (g_t : GT) (c0 s0 : Nat)
    (k_112 : (4 ≤ x5) → zc_TR_readNumber C Post PX c0 s0 112 [(0, .ref (ad C.1 20)), (1, .int x1), (2, .int x2), (3, .int x3), (4, .int x4), (5, .int x5)] [] (s_t C.1.2.2.2.1 C.1.2.2.2.2 f_t g_t))
    (k_112_1 : (¬ 4 ≤ x5) → (x4 = 0) → zc_TR_readNumber C Post PX c0 s0 112 [(0, .ref (ad C.1 20)), (1, .int x1), (2, .int x2), (3, .int x3), (4, .int x4), (5, .int x5)] [] (s_t C.1.2.2.2.1 C.1.2.2.2.2 f_t g_t))
    (k_112_2 : (¬ 4 ≤ x5) → (¬ x4 = 0) → (f_t 0 ≤ f_t 1) → zc_TR_readNumber C Post PX c0 s0 112 [(0, .ref (ad C.1 20)), (1, .int x1), (2, .int x2), (3, .int x3), (4, .int x4), (5, .int x5)] [] (s_t C.1.2.2.2.1 C.1.2.2.2.2 f_t g_t))
    (h_69 : (¬ 4 ≤ x5) → (¬ x4 = 0) → (¬ f_t 0 ≤ f_t 1) → vp_in (f_t 1) 400)
    (b_70 : (¬ 4 ≤ x5) → (¬ x4 = 0) → (¬ f_t 0 ≤ f_t 1) → c0 ≤ 3 ∧ s0 ≤ 18)
    (m_70 : (¬ 4 ≤ x5) → (¬ x4 = 0) → (¬ f_t 0 ≤ f_t 1) → uI C.1 y_TR_isDigit (Cond.code y_TR_isDigit b_TR_isDigit 1 (some .boolean)) 0 0 0 [.int ((g_t 0) (f_t 1 : Int32).toNatClampNeg)] ([]) P_70)
    (k_70 : (¬ 4 ≤ x5) → (¬ x4 = 0) → (¬ f_t 0 ≤ f_t 1) → ∀ (r : Int32) (u : va_W), P_70 r u → zc_TR_readNumber C Post PX c0 s0 73 [(0, .ref (ad C.1 20)), (1, .int x1), (2, .int x2), (3, .int x3), (4, .int x4), (5, .int x5)] [.int r] (s_t C.1.2.2.2.1 C.1.2.2.2.2 f_t g_t)) : zc_TR_readNumber C Post PX c0 s0 39 [(0, .ref (ad C.1 20)), (1, .int x1), (2, .int x2), (3, .int x3), (4, .int x4), (5, .int x5)] [] (s_t C.1.2.2.2.1 C.1.2.2.2.2 f_t g_t) := by
  obtain ⟨⟨l, dC, dI, k, a⟩, p, e, s, m, args, below, meth, c, A⟩ := C
  obtain ⟨⟨hx, hb, hr, htz, hown, hlocks, hml, hE, hK, hA⟩, hno, hlt⟩ := X
  intro H locs ls hl hP hD hS
  have hl : lv_has ls 6 [(0, .ref (a 20)), (1, .int x1), (2, .int x2), (3, .int x3), (4, .int x4), (5, .int x5)] := hl
  have hP : va_P (dC, dI) classes (s_t k a f_t g_t) H := hP
  have hD : va_D A (s_t k a f_t g_t) := hD
  show W p l e (z_rm 1 3 18) s m args below meth c H locs c0 s0 _ (F0 m 39 ls [])
  refine lv_iload hx hb d_TR_readNumber_39 (lv_at hl 5 rfl) ?_
  refine lv_iconst (v := 4) hx hb d_TR_readNumber_41 (by decide) ?_
  refine lv_icmp_ge (tgt := 112) hx hb d_TR_readNumber_42 (by decide) (fun c_42 => ?_) (fun c_42 => ?_)
  · exact (k_112 c_42) H locs ls (lv_sub hl [0, 1, 2, 3, 4, 5] rfl) hP hD hS
  · refine lv_iload hx hb d_TR_readNumber_45 (lv_at hl 4 rfl) ?_
    refine lv_if_eq (tgt := 112) hx hb d_TR_readNumber_47 (by decide) (fun c_47 => ?_) (fun c_47 => ?_)
    · exact (k_112_1 c_42 c_47) H locs ls (lv_sub hl [0, 1, 2, 3, 4, 5] rfl) hP hD hS
    · refine lv_aload_n hx hb d_TR_readNumber_50 rfl (lv_at hl 0 rfl) ?_
      refine va_get (D := (dC, dI)) (ci := 1) (v := .int (f_t 1)) (C := R_TR) (T := F_TR) (N := 5) hx hb htz i_TR hown hK hP 0 rfl rfl 4 (by decide) (htz _ kf_TR_31) (fun _ h9 => h9) rfl d_TR_readNumber_51 ?_
      refine lv_aload_n hx hb d_TR_readNumber_54 rfl (lv_at hl 0 rfl) ?_
      refine va_get (D := (dC, dI)) (ci := 1) (v := .int (f_t 0)) (C := R_TR) (T := F_TR) (N := 5) hx hb htz i_TR hown hK hP 0 rfl rfl 3 (by decide) (htz _ kf_TR_27) (fun _ h9 => h9) rfl d_TR_readNumber_55 ?_
      refine lv_icmp_ge (tgt := 112) hx hb d_TR_readNumber_58 (by decide) (fun c_58 => ?_) (fun c_58 => ?_)
      · exact (k_112_2 c_42 c_47 c_58) H locs ls (lv_sub hl [0, 1, 2, 3, 4, 5] rfl) hP hD hS
      · refine lv_aload_n hx hb d_TR_readNumber_61 rfl (lv_at hl 0 rfl) ?_
        refine va_get (D := (dC, dI)) (ci := 1) (v := .ref (a 21)) (C := R_TR) (T := F_TR) (N := 5) hx hb htz i_TR hown hK hP 0 rfl rfl 0 (by decide) (htz _ kf_TR_9) (fun _ h9 => h9) rfl d_TR_readNumber_62 ?_
        refine lv_aload_n hx hb d_TR_readNumber_65 rfl (lv_at hl 0 rfl) ?_
        refine va_get (D := (dC, dI)) (ci := 1) (v := .int (f_t 1)) (C := R_TR) (T := F_TR) (N := 5) hx hb htz i_TR hown hK hP 0 rfl rfl 4 (by decide) (htz _ kf_TR_31) (fun _ h9 => h9) rfl d_TR_readNumber_66 ?_
        refine va_iald hx hb hK hP 1 0 rfl rfl (h_69 c_42 c_47 c_58) d_TR_readNumber_69 ?_
        have hFc : ∀ q, va_A [] H.size q → A q := fun q h => h.elim (fun z => by obtain ⟨i9, e9, h9⟩ := z; cases h9) (fun z => hA q (Nat.le_trans hS.1 z))
        refine va_calli (va_runS (As := [.int ((g_t 0) (f_t 1 : Int32).toNatClampNeg)]) (rest := []) ⟨hx, hb, hml, hown, htz⟩ ((m_70 c_42 c_47 c_58) H.size) (va_cwS 1 htz (z_gS (fun _ h => h) km_TR_75 st_TR_isDigit ini_TR m_TR_isDigit) rfl rfl rfl (by decide +kernel) ⟨(Nat.le_of_ble_eq_true rfl), (Nat.le_of_ble_eq_true rfl)⟩) ⟨z_blind, fun U hU hW => ⟨rfl, by rw [hU], hE.call hS hFc hU hW, by rw [hU]; exact zP0, va_K.moved hW.alike hK, zD0⟩⟩ rfl rfl hl.1 rfl (lv_room (Nat.le_of_ble_eq_true rfl)) d_TR_readNumber_70 (b_70 c_42 c_47 c_58)) hS (fun q _ h => hFc q h) hFc (fun r u t H1 locs ht hvm hw hB hz1 hk1 hS => ?_)
        obtain ⟨hP1, hK1, hD1⟩ := hB
        rw [ht] at hP1
        have hP : va_P (dC, dI) classes (s_t k a f_t g_t) H1 := hP.kept (fun j q hq => hk1 q.1 (hP j q hq).lt (fun z => z.elim (fun z => by obtain ⟨i9, e9, h9⟩ := z; cases h9) (fun z => absurd z (Nat.not_le.mpr (hP j q hq).lt))))
        exact (k_70 c_42 c_47 c_58) r _ hw H1 locs ls (lv_sub hl [0, 1, 2, 3, 4, 5] rfl) hP hD hS
set_option maxHeartbeats 1000000 in
set_option maxRecDepth 100000 in
theorem k_TR_readNumber_73 {C : CT} (X : cX C "QuestionText$TextReader" b_TR_readNumber 6 (some .int)) (Post : Int32 → va_W → Prop) (PX : String → va_W → Prop) (x1 : Int32) (x2 : Int32) (x3 : Int32) (x4 : Int32) (x5 : Int32) (y0 : Int32) (f_t : FT) (g_t : GT) (c0 s0 : Nat)
    (k_112 : (y0 = 0) → zc_TR_readNumber C Post PX c0 s0 112 [(0, .ref (ad C.1 20)), (1, .int x1), (2, .int x2), (3, .int x3), (4, .int x4), (5, .int x5)] [] (s_t C.1.2.2.2.1 C.1.2.2.2.2 f_t g_t))
    (h_89 : (¬ y0 = 0) → vp_in (f_t 1) 400)
    (k_39 : (¬ y0 = 0) → zc_TR_readNumber C Post PX c0 s0 39 [(0, .ref (ad C.1 20)), (1, .int x1), (2, .int x2), (3, .int x3), (4, .int (((x4 * 10) + ((g_t 0) (f_t 1 : Int32).toNatClampNeg)) - 48)), (5, .int (x5 + 1))] [] (s_t C.1.2.2.2.1 C.1.2.2.2.2 (va_up f_t 1 ((f_t 1) + 1)) g_t)) : zc_TR_readNumber C Post PX c0 s0 73 [(0, .ref (ad C.1 20)), (1, .int x1), (2, .int x2), (3, .int x3), (4, .int x4), (5, .int x5)] [.int y0] (s_t C.1.2.2.2.1 C.1.2.2.2.2 f_t g_t) := by
  obtain ⟨⟨l, dC, dI, k, a⟩, p, e, s, m, args, below, meth, c, A⟩ := C
  obtain ⟨⟨hx, hb, hr, htz, hown, hlocks, hml, hE, hK, hA⟩, hno, hlt⟩ := X
  intro H locs ls hl hP hD hS
  have hl : lv_has ls 6 [(0, .ref (a 20)), (1, .int x1), (2, .int x2), (3, .int x3), (4, .int x4), (5, .int x5)] := hl
  have hP : va_P (dC, dI) classes (s_t k a f_t g_t) H := hP
  have hD : va_D A (s_t k a f_t g_t) := hD
  show W p l e (z_rm 1 3 18) s m args below meth c H locs c0 s0 _ (F0 m 73 ls [.int y0])
  refine lv_if_eq (tgt := 112) hx hb d_TR_readNumber_73 (by decide) (fun c_73 => ?_) (fun c_73 => ?_)
  · exact (k_112 c_73) H locs ls (lv_sub hl [0, 1, 2, 3, 4, 5] rfl) hP hD hS
  · refine lv_iload hx hb d_TR_readNumber_76 (lv_at hl 4 rfl) ?_
    refine lv_bipush (v := 10) hx hb d_TR_readNumber_78 (by decide) ?_
    refine lv_imul hx hb d_TR_readNumber_80 ?_
    refine lv_aload_n hx hb d_TR_readNumber_81 rfl (lv_at hl 0 rfl) ?_
    refine va_get (D := (dC, dI)) (ci := 1) (v := .ref (a 21)) (C := R_TR) (T := F_TR) (N := 5) hx hb htz i_TR hown hK hP 0 rfl rfl 0 (by decide) (htz _ kf_TR_9) (fun _ h9 => h9) rfl d_TR_readNumber_82 ?_
    refine lv_aload_n hx hb d_TR_readNumber_85 rfl (lv_at hl 0 rfl) ?_
    refine va_get (D := (dC, dI)) (ci := 1) (v := .int (f_t 1)) (C := R_TR) (T := F_TR) (N := 5) hx hb htz i_TR hown hK hP 0 rfl rfl 4 (by decide) (htz _ kf_TR_31) (fun _ h9 => h9) rfl d_TR_readNumber_86 ?_
    refine va_iald hx hb hK hP 1 0 rfl rfl (h_89 c_73) d_TR_readNumber_89 ?_
    refine lv_iadd hx hb d_TR_readNumber_90 ?_
    refine lv_bipush (v := 48) hx hb d_TR_readNumber_91 (by decide) ?_
    refine lv_isub hx hb d_TR_readNumber_93 ?_
    refine lv_istore (lv' := [(4, .int (((x4 * 10) + ((g_t 0) (f_t 1 : Int32).toNatClampNeg)) - 48)), (0, .ref (a 20)), (1, .int x1), (2, .int x2), (3, .int x3), (5, .int x5)]) hx hb d_TR_readNumber_94 hl (by decide) rfl (fun ls hl => ?_)
    refine lv_aload_n hx hb d_TR_readNumber_96 rfl (lv_at hl 1 rfl) ?_
    refine lv_dup hx hb d_TR_readNumber_97 rfl ?_
    refine va_get (D := (dC, dI)) (ci := 1) (v := .int (f_t 1)) (C := R_TR) (T := F_TR) (N := 5) hx hb htz i_TR hown hK hP 0 rfl rfl 4 (by decide) (htz _ kf_TR_31) (fun _ h9 => h9) rfl d_TR_readNumber_98 ?_
    refine lv_iconst (v := 1) hx hb d_TR_readNumber_101 (by decide) ?_
    refine lv_iadd hx hb d_TR_readNumber_102 ?_
    refine va_put (D := (dC, dI)) (ci := 1) (v := .int ((f_t 1) + 1)) (ty := .int) (C := R_TR) (T := F_TR) (N := 5) hx hb htz i_TR t_TR o_TR n_TR hown hK hP hD hS 0 rfl rfl 4 (by decide) (htz _ kf_TR_31) (fun _ h9 => h9) rfl (by decide +kernel) rfl rfl (Nat.le_of_ble_eq_true rfl) d_TR_readNumber_103 (fun H locs hP hD hS => ?_)
    have hP : va_P (dC, dI) classes (s_t k a (va_up f_t 1 ((f_t 1) + 1)) g_t) H := hP
    have hD : va_D A (s_t k a (va_up f_t 1 ((f_t 1) + 1)) g_t) := hD
    refine lv_iinc (v := x5 + 1) (lv' := [(5, .int (x5 + 1)), (4, .int (((x4 * 10) + ((g_t 0) (f_t 1 : Int32).toNatClampNeg)) - 48)), (0, .ref (a 20)), (1, .int x1), (2, .int x2), (3, .int x3)]) hx hb d_TR_readNumber_106 hl (k := 5) rfl (rfl) (by decide) rfl (fun ls hl => ?_)
    refine lv_goto (tgt := 39) hx hb d_TR_readNumber_109 (by decide) ?_
    exact (k_39 c_73) H locs ls (lv_sub hl [2, 3, 4, 5, 1, 0] rfl) hP hD hS
set_option maxHeartbeats 1000000 in
set_option maxRecDepth 100000 in
theorem k_TR_readNumber_112 {C : CT} (X : cX C "QuestionText$TextReader" b_TR_readNumber 6 (some .int)) (Post : Int32 → va_W → Prop) (PX : String → va_W → Prop) (x1 : Int32) (x2 : Int32) (x3 : Int32) (x4 : Int32) (x5 : Int32) (f_t : FT) (g_t : GT) (c0 s0 : Nat)
    (k_124 : (x4 < x1) → zc_TR_readNumber C Post PX c0 s0 124 [(0, .ref (ad C.1 20)), (1, .int x1), (2, .int x2), (3, .int x3), (4, .int x4), (5, .int x5)] [] (s_t C.1.2.2.2.1 C.1.2.2.2.2 f_t g_t))
    (k_134 : (¬ x4 < x1) → (x4 ≤ x2) → zc_TR_readNumber C Post PX c0 s0 134 [(0, .ref (ad C.1 20)), (1, .int x1), (2, .int x2), (3, .int x3), (4, .int x4), (5, .int x5)] [] (s_t C.1.2.2.2.1 C.1.2.2.2.2 f_t g_t))
    (k_124_1 : (¬ x4 < x1) → (¬ x4 ≤ x2) → zc_TR_readNumber C Post PX c0 s0 124 [(0, .ref (ad C.1 20)), (1, .int x1), (2, .int x2), (3, .int x3), (4, .int x4), (5, .int x5)] [] (s_t C.1.2.2.2.1 C.1.2.2.2.2 f_t g_t)) : zc_TR_readNumber C Post PX c0 s0 112 [(0, .ref (ad C.1 20)), (1, .int x1), (2, .int x2), (3, .int x3), (4, .int x4), (5, .int x5)] [] (s_t C.1.2.2.2.1 C.1.2.2.2.2 f_t g_t) := by
  obtain ⟨⟨l, dC, dI, k, a⟩, p, e, s, m, args, below, meth, c, A⟩ := C
  obtain ⟨⟨hx, hb, hr, htz, hown, hlocks, hml, hE, hK, hA⟩, hno, hlt⟩ := X
  intro H locs ls hl hP hD hS
  have hl : lv_has ls 6 [(0, .ref (a 20)), (1, .int x1), (2, .int x2), (3, .int x3), (4, .int x4), (5, .int x5)] := hl
  have hP : va_P (dC, dI) classes (s_t k a f_t g_t) H := hP
  have hD : va_D A (s_t k a f_t g_t) := hD
  show W p l e (z_rm 1 3 18) s m args below meth c H locs c0 s0 _ (F0 m 112 ls [])
  refine lv_iload hx hb d_TR_readNumber_112 (lv_at hl 4 rfl) ?_
  refine lv_iload_n hx hb d_TR_readNumber_114 rfl (lv_at hl 1 rfl) ?_
  refine lv_icmp_lt (tgt := 124) hx hb d_TR_readNumber_115 (by decide) (fun c_115 => ?_) (fun c_115 => ?_)
  · exact (k_124 c_115) H locs ls (lv_sub hl [0, 1, 2, 3, 4, 5] rfl) hP hD hS
  · refine lv_iload hx hb d_TR_readNumber_118 (lv_at hl 4 rfl) ?_
    refine lv_iload_n hx hb d_TR_readNumber_120 rfl (lv_at hl 2 rfl) ?_
    refine lv_icmp_le (tgt := 134) hx hb d_TR_readNumber_121 (by decide) (fun c_121 => ?_) (fun c_121 => ?_)
    · exact (k_134 c_115 c_121) H locs ls (lv_sub hl [0, 1, 2, 3, 4, 5] rfl) hP hD hS
    · exact (k_124_1 c_115 c_121) H locs ls (lv_sub hl [0, 1, 2, 3, 4, 5] rfl) hP hD hS
set_option maxHeartbeats 1000000 in
set_option maxRecDepth 100000 in
theorem k_TR_readNumber_124 {C : CT} (X : cX C "QuestionText$TextReader" b_TR_readNumber 6 (some .int)) (Post : Int32 → va_W → Prop) (PX : String → va_W → Prop) {P_131 : va_W → Prop} {X_131 : String → va_W → Prop} (x1 : Int32) (x2 : Int32) (x3 : Int32) (x4 : Int32) (x5 : Int32) (f_t : FT) (g_t : GT) (c0 s0 : Nat)
    (b_131 : c0 + 1 ≤ 3 ∧ s0 + 6 ≤ 18)
    (m_131 : xV C.1 y_TR_fail (Cond.code y_TR_fail b_TR_fail 2 none) 0 1 6 [.ref (ad C.1 20), .int ((f_t 1) - 1)] (s_t C.1.2.2.2.1 C.1.2.2.2.2 f_t g_t) P_131 X_131)
    (k_131 : ∀ (u : va_W), P_131 u → zc_TR_readNumber C Post PX (c0 + 1) (s0 + 6) 134 [(0, .ref (ad C.1 20)), (1, .int x1), (2, .int x2), (3, .int x3), (4, .int x4), (5, .int x5)] [] (u))
    (x_131 : ∀ (E : String) (u : va_W), X_131 E u → PX E (u)) : zc_TR_readNumber C Post PX c0 s0 124 [(0, .ref (ad C.1 20)), (1, .int x1), (2, .int x2), (3, .int x3), (4, .int x4), (5, .int x5)] [] (s_t C.1.2.2.2.1 C.1.2.2.2.2 f_t g_t) := by
  obtain ⟨⟨l, dC, dI, k, a⟩, p, e, s, m, args, below, meth, c, A⟩ := C
  obtain ⟨⟨hx, hb, hr, htz, hown, hlocks, hml, hE, hK, hA⟩, hno, hlt⟩ := X
  intro H locs ls hl hP hD hS
  have hl : lv_has ls 6 [(0, .ref (a 20)), (1, .int x1), (2, .int x2), (3, .int x3), (4, .int x4), (5, .int x5)] := hl
  have hP : va_P (dC, dI) classes (s_t k a f_t g_t) H := hP
  have hD : va_D A (s_t k a f_t g_t) := hD
  show W p l e (z_rm 1 3 18) s m args below meth c H locs c0 s0 _ (F0 m 124 ls [])
  refine lv_aload_n hx hb d_TR_readNumber_124 rfl (lv_at hl 0 rfl) ?_
  refine lv_aload_n hx hb d_TR_readNumber_125 rfl (lv_at hl 0 rfl) ?_
  refine va_get (D := (dC, dI)) (ci := 1) (v := .int (f_t 1)) (C := R_TR) (T := F_TR) (N := 5) hx hb htz i_TR hown hK hP 0 rfl rfl 4 (by decide) (htz _ kf_TR_31) (fun _ h9 => h9) rfl d_TR_readNumber_126 ?_
  refine lv_iconst (v := 1) hx hb d_TR_readNumber_129 (by decide) ?_
  refine lv_isub hx hb d_TR_readNumber_130 ?_
  have hFc : ∀ q, va_A (s_t k a f_t g_t) H.size q → A q := fun q h => h.elim (fun z => by obtain ⟨i9, e9, h9⟩ := z; exact hD.2 i9 _ h9) (fun z => hA q (Nat.le_trans hS.1 z))
  refine vx_callv (vx_runV (As := [.int ((f_t 1) - 1)]) (rest := []) ⟨hx, hb, hml, hown, htz⟩ (m_131 H.size) (cwV 1 htz (z_gV (fun _ h => h) km_TR_61 in_TR_fail se_TR_fail ini_TR m_TR_fail) rfl rfl rfl (by decide +kernel) ⟨(Nat.le_of_ble_eq_true rfl), (Nat.le_of_ble_eq_true rfl)⟩) ⟨z_blind, va_recv hK hP (ci := 1) (q0 := 0) rfl rfl, fun U hU hW => ⟨rfl, by rw [hU], hE.call hS hFc hU hW, by rw [hU]; exact hP, va_K.moved hW.alike hK, (hD.weaken (fun _ _ _ _ => trivial))⟩⟩ rfl rfl hl.1 rfl (lv_room (Nat.le_of_ble_eq_true rfl)) d_TR_readNumber_131 b_131) hS (fun q _ h => hFc q h) hFc (fun q _ h => hFc q h) (fun E ce q9 u t H1 locs ht hvm hw hB hz1 hk1 hS hce hcv hcl => ?_) (fun u t H1 locs ht hvm hw hB hz1 hk1 hS => ?_)
  · obtain ⟨hxe, hP1, hK1, hD1⟩ := hB
    rw [ht] at hP1
    have hP := hP1
    have hD := hD1.weaken (fun _ q _ h => hFc _ h)
    exact vx_out (fun x hx9 => (hno x hx9).elim) hlocks hce hcv hcl (fun t9 h9 h8 => ⟨_, trivial, ⟨x_131 E u hxe, by rw [h9]; exact hP, va_K.moved h8 hK, hD⟩, hS.F h9⟩) hS.2.2 b_131.1 b_131.2
  · obtain ⟨hP1, hK1, hD1⟩ := hB
    rw [ht] at hP1
    have hP := hP1
    have hD := hD1.weaken (fun _ q _ h => hFc _ h)
    exact k_131 _ hw H1 locs ls (lv_sub hl [0, 1, 2, 3, 4, 5] rfl) hP hD hS
set_option maxHeartbeats 1000000 in
set_option maxRecDepth 100000 in
theorem k_TR_readNumber_134 {C : CT} (X : cX C "QuestionText$TextReader" b_TR_readNumber 6 (some .int)) (Post : Int32 → va_W → Prop) (PX : String → va_W → Prop) (x1 : Int32) (x2 : Int32) (x3 : Int32) (x4 : Int32) (x5 : Int32) (f_t : FT) (g_t : GT) (c0 s0 : Nat)
    (b_136 : c0 ≤ 3 ∧ s0 ≤ 18)
    (q_136 : Post (x4) (s_t C.1.2.2.2.1 C.1.2.2.2.2 f_t g_t)) : zc_TR_readNumber C Post PX c0 s0 134 [(0, .ref (ad C.1 20)), (1, .int x1), (2, .int x2), (3, .int x3), (4, .int x4), (5, .int x5)] [] (s_t C.1.2.2.2.1 C.1.2.2.2.2 f_t g_t) := by
  obtain ⟨⟨l, dC, dI, k, a⟩, p, e, s, m, args, below, meth, c, A⟩ := C
  obtain ⟨⟨hx, hb, hr, htz, hown, hlocks, hml, hE, hK, hA⟩, hno, hlt⟩ := X
  intro H locs ls hl hP hD hS
  have hl : lv_has ls 6 [(0, .ref (a 20)), (1, .int x1), (2, .int x2), (3, .int x3), (4, .int x4), (5, .int x5)] := hl
  have hP : va_P (dC, dI) classes (s_t k a f_t g_t) H := hP
  have hD : va_D A (s_t k a f_t g_t) := hD
  show W p l e (z_rm 1 3 18) s m args below meth c H locs c0 s0 _ (F0 m 134 ls [])
  refine lv_iload hx hb d_TR_readNumber_134 (lv_at hl 4 rfl) ?_
  refine W.widen (k := 3) (n := 18) b_136.1 b_136.2 ?_
  refine vx_ret ?_
  exact W.iret (v := x4) hx hb hr (fun t ht hW => ⟨⟨_, (s_t k a f_t g_t), rfl, q_136, by rw [ht]; exact hP, va_K.moved hW.alike hK, hD⟩, hS.F ht⟩) hS.2.2 d_TR_readNumber_136
set_option maxHeartbeats 1000000 in
set_option maxRecDepth 100000 in
theorem e_TR_readNumber (T : ST) (hlt : T.1.stackTraces = false) (Post : Int32 → va_W → Prop) (PX : String → va_W → Prop) (x1 : Int32) (x2 : Int32) (f_t : FT) (g_t : GT) (h : ∀ C : CT, C.1 = T → cX C "QuestionText$TextReader" b_TR_readNumber 6 (some .int) → zc_TR_readNumber C Post PX 0 0 0 [(0, .ref (ad C.1 20)), (1, .int x1), (2, .int x2)] [] (s_t C.1.2.2.2.1 C.1.2.2.2.2 f_t g_t)) : xI T y_TR_readNumber (Cond.code y_TR_readNumber b_TR_readNumber 6 (some .int)) 1 3 18 [.ref (ad T 20), .int x1, .int x2] (s_t T.2.2.2.1 T.2.2.2.2 f_t g_t) Post PX := by
  obtain ⟨l, dC, dI, k, a⟩ := T
  intro sz
  refine vx_ofW (cc := b_TR_readNumber) (maxL := 6) (ret := (some .int)) (by decide) rfl ?_
  intro p e s m args below meth c s₁ B hml hno hv
  obtain ⟨rfl, hsz, hE, hP, hK, hD0⟩ := hv
  have hts := atoms_spec (ws := (Cond.code y_TR_readNumber b_TR_readNumber 6 (some .int)) :: z_T) B.pre
  have htz : ∀ w ∈ z_T, w.before _ s = true := fun w h => hts w (z_cons w h)
  subst hsz
  have hD := hD0.self (sz := s.heap.size)
  generalize hAe : va_A (s_t k a f_t g_t) s.heap.size = A at hD hE ⊢
  have hA : ∀ q : Nat, s.heap.size ≤ q → A q := fun q h => by rw [← hAe]; exact Or.inr h
  have hl := lv_entry ([.ref (a 20), .int x1, .int x2]) (n := 6) (Nat.le_of_ble_eq_true rfl)
  rw [lg_entry_eq]
  generalize (lg_sl ([.ref (a 20), .int x1, .int x2]) ++ List.replicate (6 - (lg_sl ([.ref (a 20), .int x1, .int x2])).length) Slot.unset).toArray = ls at hl ⊢
  exact h ((l, dC, dI, k, a), p, e, s, m, ([.ref (a 20), .int x1, .int x2] : List Value).toArray, below, meth, c, A) rfl ⟨⟨B.exec, B.bytes, B.returns, htz, findClass_of_methodNamed B.named, B.notSynchronized, hml, hE, hK, hA⟩, hno, hlt⟩ s.heap [] ls hl hP hD va_S.rf
def zc_TR_add (C : CT) (Post : va_W → Prop) (c0 s0 pc : Nat) (loc : List (Nat × Value)) (st : List Value) (ws : va_W) : Prop := zW C (z_rm 0 0 0) 2 (oV C 0 0 Post) c0 s0 pc loc st ws
set_option maxHeartbeats 1000000 in
set_option maxRecDepth 100000 in
theorem k_TR_add_0 {C : CT} (X : cM C "QuestionText$TextReader" b_TR_add 2 none) (Post : va_W → Prop) (x1 : Int32) (f_t : FT) (g_t : GT) (c0 s0 : Nat)
    (k_30 : (400 ≤ f_t 0) → zc_TR_add C Post c0 s0 30 [(0, .ref (ad C.1 20)), (1, .int x1)] [] (s_t C.1.2.2.2.1 C.1.2.2.2.2 f_t g_t))
    (h_19 : (¬ 400 ≤ f_t 0) → vp_in (f_t 0) 400)
    (k_30_1 : (¬ 400 ≤ f_t 0) → zc_TR_add C Post c0 s0 30 [(0, .ref (ad C.1 20)), (1, .int x1)] [] (s_t C.1.2.2.2.1 C.1.2.2.2.2 (va_up f_t 0 ((f_t 0) + 1)) (va_up g_t 0 (upd (g_t 0) (f_t 0 : Int32).toNatClampNeg x1)))) : zc_TR_add C Post c0 s0 0 [(0, .ref (ad C.1 20)), (1, .int x1)] [] (s_t C.1.2.2.2.1 C.1.2.2.2.2 f_t g_t) := by
  obtain ⟨⟨l, dC, dI, k, a⟩, p, e, s, m, args, below, meth, c, A⟩ := C
  obtain ⟨hx, hb, hr, htz, hown, hlocks, hml, hE, hK, hA⟩ := X
  intro H locs ls hl hP hD hS
  have hl : lv_has ls 2 [(0, .ref (a 20)), (1, .int x1)] := hl
  have hP : va_P (dC, dI) classes (s_t k a f_t g_t) H := hP
  have hD : va_D A (s_t k a f_t g_t) := hD
  show W p l e (z_rm 0 0 0) s m args below meth c H locs c0 s0 _ (F0 m 0 ls [])
  refine lv_aload_n hx hb d_TR_add_0 rfl (lv_at hl 0 rfl) ?_
  refine va_get (D := (dC, dI)) (ci := 1) (v := .int (f_t 0)) (C := R_TR) (T := F_TR) (N := 5) hx hb htz i_TR hown hK hP 0 rfl rfl 3 (by decide) (htz _ kf_TR_27) (fun _ h9 => h9) rfl d_TR_add_1 ?_
  refine lv_sipush (v := 400) hx hb d_TR_add_4 (by decide) ?_
  refine lv_icmp_ge (tgt := 30) hx hb d_TR_add_7 (by decide) (fun c_7 => ?_) (fun c_7 => ?_)
  · exact (k_30 c_7) H locs ls (lv_sub hl [0, 1] rfl) hP hD hS
  · refine lv_aload_n hx hb d_TR_add_10 rfl (lv_at hl 0 rfl) ?_
    refine va_get (D := (dC, dI)) (ci := 1) (v := .ref (a 21)) (C := R_TR) (T := F_TR) (N := 5) hx hb htz i_TR hown hK hP 0 rfl rfl 0 (by decide) (htz _ kf_TR_9) (fun _ h9 => h9) rfl d_TR_add_11 ?_
    refine lv_aload_n hx hb d_TR_add_14 rfl (lv_at hl 0 rfl) ?_
    refine va_get (D := (dC, dI)) (ci := 1) (v := .int (f_t 0)) (C := R_TR) (T := F_TR) (N := 5) hx hb htz i_TR hown hK hP 0 rfl rfl 3 (by decide) (htz _ kf_TR_27) (fun _ h9 => h9) rfl d_TR_add_15 ?_
    refine lv_iload_n hx hb d_TR_add_18 rfl (lv_at hl 1 rfl) ?_
    refine va_iast hx hb hK hP hD hS 1 0 rfl rfl (h_19 c_7) d_TR_add_19 (fun H locs hP hD hS => ?_)
    have hP : va_P (dC, dI) classes (s_t k a f_t (va_up g_t 0 (upd (g_t 0) (f_t 0 : Int32).toNatClampNeg x1))) H := hP
    have hD : va_D A (s_t k a f_t (va_up g_t 0 (upd (g_t 0) (f_t 0 : Int32).toNatClampNeg x1))) := hD
    refine lv_aload_n hx hb d_TR_add_20 rfl (lv_at hl 0 rfl) ?_
    refine lv_dup hx hb d_TR_add_21 rfl ?_
    refine va_get (D := (dC, dI)) (ci := 1) (v := .int (f_t 0)) (C := R_TR) (T := F_TR) (N := 5) hx hb htz i_TR hown hK hP 0 rfl rfl 3 (by decide) (htz _ kf_TR_27) (fun _ h9 => h9) rfl d_TR_add_22 ?_
    refine lv_iconst (v := 1) hx hb d_TR_add_25 (by decide) ?_
    refine lv_iadd hx hb d_TR_add_26 ?_
    refine va_put (D := (dC, dI)) (ci := 1) (v := .int ((f_t 0) + 1)) (ty := .int) (C := R_TR) (T := F_TR) (N := 5) hx hb htz i_TR t_TR o_TR n_TR hown hK hP hD hS 0 rfl rfl 3 (by decide) (htz _ kf_TR_27) (fun _ h9 => h9) rfl (by decide +kernel) rfl rfl (Nat.le_of_ble_eq_true rfl) d_TR_add_27 (fun H locs hP hD hS => ?_)
    have hP : va_P (dC, dI) classes (s_t k a (va_up f_t 0 ((f_t 0) + 1)) (va_up g_t 0 (upd (g_t 0) (f_t 0 : Int32).toNatClampNeg x1))) H := hP
    have hD : va_D A (s_t k a (va_up f_t 0 ((f_t 0) + 1)) (va_up g_t 0 (upd (g_t 0) (f_t 0 : Int32).toNatClampNeg x1))) := hD
    exact (k_30_1 c_7) H locs ls (lv_sub hl [0, 1] rfl) hP hD hS
set_option maxHeartbeats 1000000 in
set_option maxRecDepth 100000 in
theorem k_TR_add_30 {C : CT} (X : cM C "QuestionText$TextReader" b_TR_add 2 none) (Post : va_W → Prop) (x1 : Int32) (f_t : FT) (g_t : GT) (c0 s0 : Nat)
    (b_30 : c0 ≤ 0 ∧ s0 ≤ 0)
    (q_30 : Post (s_t C.1.2.2.2.1 C.1.2.2.2.2 f_t g_t)) : zc_TR_add C Post c0 s0 30 [(0, .ref (ad C.1 20)), (1, .int x1)] [] (s_t C.1.2.2.2.1 C.1.2.2.2.2 f_t g_t) := by
  obtain ⟨⟨l, dC, dI, k, a⟩, p, e, s, m, args, below, meth, c, A⟩ := C
  obtain ⟨hx, hb, hr, htz, hown, hlocks, hml, hE, hK, hA⟩ := X
  intro H locs ls hl hP hD hS
  have hl : lv_has ls 2 [(0, .ref (a 20)), (1, .int x1)] := hl
  have hP : va_P (dC, dI) classes (s_t k a f_t g_t) H := hP
  have hD : va_D A (s_t k a f_t g_t) := hD
  show W p l e (z_rm 0 0 0) s m args below meth c H locs c0 s0 _ (F0 m 30 ls [])
  refine W.widen (k := 0) (n := 0) b_30.1 b_30.2 ?_
  exact W.vret hx hb hr (fun t ht hW => ⟨⟨(s_t k a f_t g_t), rfl, q_30, by rw [ht]; exact hP, va_K.moved hW.alike hK, hD⟩, hS.F ht⟩) hS.2.2 d_TR_add_30
set_option maxHeartbeats 1000000 in
set_option maxRecDepth 100000 in
theorem e_TR_add (T : ST) (Post : va_W → Prop) (x1 : Int32) (f_t : FT) (g_t : GT) (h : ∀ C : CT, C.1 = T → cM C "QuestionText$TextReader" b_TR_add 2 none → zc_TR_add C Post 0 0 0 [(0, .ref (ad C.1 20)), (1, .int x1)] [] (s_t C.1.2.2.2.1 C.1.2.2.2.2 f_t g_t)) : uV T y_TR_add (Cond.code y_TR_add b_TR_add 2 none) 0 0 0 [.ref (ad T 20), .int x1] (s_t T.2.2.2.1 T.2.2.2.2 f_t g_t) Post := by
  obtain ⟨l, dC, dI, k, a⟩ := T
  intro sz
  refine Met.ofW (cc := b_TR_add) (maxL := 2) (ret := none) (by decide) rfl ?_
  intro p e s m args below meth c s₁ B hml hv
  obtain ⟨rfl, hsz, hE, hP, hK, hD0⟩ := hv
  have hts := atoms_spec (ws := (Cond.code y_TR_add b_TR_add 2 none) :: z_T) B.pre
  have htz : ∀ w ∈ z_T, w.before _ s = true := fun w h => hts w (z_cons w h)
  subst hsz
  have hD := hD0.self (sz := s.heap.size)
  generalize hAe : va_A (s_t k a f_t g_t) s.heap.size = A at hD hE ⊢
  have hA : ∀ q : Nat, s.heap.size ≤ q → A q := fun q h => by rw [← hAe]; exact Or.inr h
  have hl := lv_entry ([.ref (a 20), .int x1]) (n := 2) (Nat.le_of_ble_eq_true rfl)
  rw [lg_entry_eq]
  generalize (lg_sl ([.ref (a 20), .int x1]) ++ List.replicate (2 - (lg_sl ([.ref (a 20), .int x1])).length) Slot.unset).toArray = ls at hl ⊢
  exact h ((l, dC, dI, k, a), p, e, s, m, ([.ref (a 20), .int x1] : List Value).toArray, below, meth, c, A) rfl ⟨B.exec, B.bytes, B.returns, htz, findClass_of_methodNamed B.named, B.notSynchronized, hml, hE, hK, hA⟩ s.heap [] ls hl hP hD va_S.rf
