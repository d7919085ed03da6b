def zn_in (C : CT) (Post : Int32 → FT → GT → Prop) (pc : Nat) (loc : List (Nat × Value)) (st : List Value) (f : FT) (g : GT) : Prop := zW C (z_rm 0 0 0) 3 (qI C Post) 0 0 pc loc st (mM C.1 f g)
set_option maxHeartbeats 1000000 in
set_option maxRecDepth 100000 in
theorem k_Mo_in_0 {C : CT} (X : cM C "QuestionTextModel" b_Mo_in 3 (some .boolean)) (Post : Int32 → FT → GT → Prop) (x0 : Int32) (x1 : Int32) (x2 : Int32) (f : FT) (g : GT)
    (k_14 : (x0 < x1) → zn_in C Post 14 [(0, .int x0), (1, .int x1), (2, .int x2)] [] f g)
    (k_14_1 : (¬ x0 < x1) → (x2 < x0) → zn_in C Post 14 [(0, .int x0), (1, .int x1), (2, .int x2)] [] f g)
    (k_15 : (¬ x0 < x1) → (¬ x2 < x0) → zn_in C Post 15 [(0, .int x0), (1, .int x1), (2, .int x2)] [.int 1] f g) : zn_in C Post 0 [(0, .int x0), (1, .int x1), (2, .int x2)] [] f g := by
  obtain ⟨⟨l, dC, dI, k, a⟩, p, e, s, m, args, below, meth, c, A⟩ := C
  obtain ⟨hx, hb, hr, htz, hown, hlocks, hml, hE, hK, hA⟩ := X
  intro H locs ls hl hP hD hS
  have hl : lv_has ls 3 [(0, .int x0), (1, .int x1), (2, .int x2)] := hl
  have hP : va_P (dC, dI) classes (mw k a f g) H := hP
  have hD : va_D A (mw k a f g) := hD
  show W p l e (z_rm 0 0 0) s m args below meth c H locs 0 0 _ (F0 m 0 ls [])
  refine lv_iload_n hx hb d_Mo_in_0 rfl (lv_at hl 0 rfl) ?_
  refine lv_iload_n hx hb d_Mo_in_1 rfl (lv_at hl 1 rfl) ?_
  refine lv_icmp_lt (tgt := 14) hx hb d_Mo_in_2 (by decide) (fun c_2 => ?_) (fun c_2 => ?_)
  · exact (k_14 c_2) H locs ls (lv_sub hl [0, 1, 2] rfl) hP hD hS
  · refine lv_iload_n hx hb d_Mo_in_5 rfl (lv_at hl 0 rfl) ?_
    refine lv_iload_n hx hb d_Mo_in_6 rfl (lv_at hl 2 rfl) ?_
    refine lv_icmp_gt (tgt := 14) hx hb d_Mo_in_7 (by decide) (fun c_7 => ?_) (fun c_7 => ?_)
    · exact (k_14_1 c_2 c_7) H locs ls (lv_sub hl [0, 1, 2] rfl) hP hD hS
    · refine lv_iconst (v := 1) hx hb d_Mo_in_10 (by decide) ?_
      refine lv_goto (tgt := 15) hx hb d_Mo_in_11 (by decide) ?_
      exact (k_15 c_2 c_7) H locs ls (lv_sub hl [0, 1, 2] rfl) hP hD hS
set_option maxHeartbeats 1000000 in
set_option maxRecDepth 100000 in
theorem k_Mo_in_14 {C : CT} (X : cM C "QuestionTextModel" b_Mo_in 3 (some .boolean)) (Post : Int32 → FT → GT → Prop) (x0 : Int32) (x1 : Int32) (x2 : Int32) (f : FT) (g : GT)
    (k_15 : zn_in C Post 15 [(0, .int x0), (1, .int x1), (2, .int x2)] [.int 0] f g) : zn_in C Post 14 [(0, .int x0), (1, .int x1), (2, .int x2)] [] f g := by
  obtain ⟨⟨l, dC, dI, k, a⟩, p, e, s, m, args, below, meth, c, A⟩ := C
  obtain ⟨hx, hb, hr, htz, hown, hlocks, hml, hE, hK, hA⟩ := X
  intro H locs ls hl hP hD hS
  have hl : lv_has ls 3 [(0, .int x0), (1, .int x1), (2, .int x2)] := hl
  have hP : va_P (dC, dI) classes (mw k a f g) H := hP
  have hD : va_D A (mw k a f g) := hD
  show W p l e (z_rm 0 0 0) s m args below meth c H locs 0 0 _ (F0 m 14 ls [])
  refine lv_iconst (v := 0) hx hb d_Mo_in_14 (by decide) ?_
  exact k_15 H locs ls (lv_sub hl [0, 1, 2] rfl) hP hD hS
set_option maxHeartbeats 1000000 in
set_option maxRecDepth 100000 in
theorem k_Mo_in_15 {C : CT} (X : cM C "QuestionTextModel" b_Mo_in 3 (some .boolean)) (Post : Int32 → FT → GT → Prop) (x0 : Int32) (x1 : Int32) (x2 : Int32) (y0 : Int32) (f : FT) (g : GT)
    (q_15 : Post (y0) f g)
    (z_15 : narrow .boolean (.int (y0)) = .int (y0)) : zn_in C Post 15 [(0, .int x0), (1, .int x1), (2, .int x2)] [.int y0] f g := by
  obtain ⟨⟨l, dC, dI, k, a⟩, p, e, s, m, args, below, meth, c, A⟩ := C
  obtain ⟨hx, hb, hr, htz, hown, hlocks, hml, hE, hK, hA⟩ := X
  intro H locs ls hl hP hD hS
  have hl : lv_has ls 3 [(0, .int x0), (1, .int x1), (2, .int x2)] := hl
  have hP : va_P (dC, dI) classes (mw k a f g) H := hP
  have hD : va_D A (mw k a f g) := hD
  show W p l e (z_rm 0 0 0) s m args below meth c H locs 0 0 _ (F0 m 15 ls [.int y0])
  exact W.zret (v := y0) (ty := .boolean) hx hb hr z_15 (fun t ht hW => ⟨⟨_, (f, g), rfl, q_15, by rw [ht]; exact hP, va_K.moved hW.alike hK, hD⟩, hS.F ht⟩) hS.2.2 d_Mo_in_15
set_option maxHeartbeats 1000000 in
set_option maxRecDepth 100000 in
theorem e_Mo_in (T : ST) (Post : Int32 → FT → GT → Prop) (x0 : Int32) (x1 : Int32) (x2 : Int32) (f : FT) (g : GT) (h : ∀ C : CT, C.1 = T → cM C "QuestionTextModel" b_Mo_in 3 (some .boolean) → zn_in C Post 0 [(0, .int x0), (1, .int x1), (2, .int x2)] [] f g) : mI T y_Mo_in (Cond.code y_Mo_in b_Mo_in 3 (some .boolean)) 0 [.int x0, .int x1, .int x2] f g Post := by
  obtain ⟨l, dC, dI, k, a⟩ := T
  intro sz
  refine Met.ofW (cc := b_Mo_in) (maxL := 3) (ret := (some .boolean)) (by decide) rfl ?_
  intro p e s m args below meth c s₁ B hml hv
  obtain ⟨rfl, hsz, hE, hP, hK, hD0⟩ := hv
  have hts := atoms_spec (ws := (Cond.code y_Mo_in b_Mo_in 3 (some .boolean)) :: z_T) B.pre
  have htz : ∀ w ∈ z_T, w.before _ s = true := fun w h => hts w (z_cons w h)
  subst hsz
  have hD := hD0.self (sz := s.heap.size)
  generalize hAe : va_A (mw k a f g) s.heap.size = A at hD hE ⊢
  have hA : ∀ q : Nat, s.heap.size ≤ q → A q := fun q h => by rw [← hAe]; exact Or.inr h
  have hl := lv_entry ([.int x0, .int x1, .int x2]) (n := 3) (Nat.le_of_ble_eq_true rfl)
  rw [lg_entry_eq]
  generalize (lg_sl ([.int x0, .int x1, .int x2]) ++ List.replicate (3 - (lg_sl ([.int x0, .int x1, .int x2])).length) Slot.unset).toArray = ls at hl ⊢
  exact h ((l, dC, dI, k, a), p, e, s, m, ([.int x0, .int x1, .int x2] : List Value).toArray, below, meth, c, A) rfl ⟨B.exec, B.bytes, B.returns, htz, findClass_of_methodNamed B.named, B.notSynchronized, hml, hE, hK, hA⟩ s.heap [] ls hl hP hD va_S.rf
def zn_thrown (C : CT) (Post : Int32 → FT → GT → Prop) (pc : Nat) (loc : List (Nat × Value)) (st : List Value) (f : FT) (g : GT) : Prop := zW C (z_rm 0 0 0) 1 (qI C Post) 0 0 pc loc st (mM C.1 f g)
set_option maxHeartbeats 1000000 in
set_option maxRecDepth 100000 in
theorem k_Mo_thrown_0 {C : CT} (X : cM C "QuestionTextModel" b_Mo_thrown 1 (some .int)) (Post : Int32 → FT → GT → Prop) (f : FT) (g : GT)
    (q_4 : Post (f 0) f g) : zn_thrown C Post 0 [(0, .ref (ad C.1 0))] [] f g := by
  obtain ⟨⟨l, dC, dI, k, a⟩, p, e, s, m, args, below, meth, c, A⟩ := C
  obtain ⟨hx, hb, hr, htz, hown, hlocks, hml, hE, hK, hA⟩ := X
  intro H locs ls hl hP hD hS
  have hl : lv_has ls 1 [(0, .ref (a 0))] := hl
  have hP : va_P (dC, dI) classes (mw k a f g) H := hP
  have hD : va_D A (mw k a f g) := hD
  show W p l e (z_rm 0 0 0) s m args below meth c H locs 0 0 _ (F0 m 0 ls [])
  refine lv_aload_n hx hb d_Mo_thrown_0 rfl (lv_at hl 0 rfl) ?_
  refine va_get (D := (dC, dI)) (ci := 4) (v := .int (f 0)) (C := R_Mo) (T := F_Mo) (N := 31) hx hb htz i_Mo hown hK hP 0 rfl rfl 0 (by decide) (htz _ kf_Mo_69) (fun _ h9 => h9) rfl d_Mo_thrown_1 ?_
  exact W.iret (v := f 0) hx hb hr (fun t ht hW => ⟨⟨_, (f, g), rfl, q_4, by rw [ht]; exact hP, va_K.moved hW.alike hK, hD⟩, hS.F ht⟩) hS.2.2 d_Mo_thrown_4
set_option maxHeartbeats 1000000 in
set_option maxRecDepth 100000 in
theorem e_Mo_thrown (T : ST) (Post : Int32 → FT → GT → Prop) (f : FT) (g : GT) (h : ∀ C : CT, C.1 = T → cM C "QuestionTextModel" b_Mo_thrown 1 (some .int) → zn_thrown C Post 0 [(0, .ref (ad C.1 0))] [] f g) : mI T y_Mo_thrown (Cond.code y_Mo_thrown b_Mo_thrown 1 (some .int)) 0 [.ref (ad T 0)] f g Post := by
  obtain ⟨l, dC, dI, k, a⟩ := T
  intro sz
  refine Met.ofW (cc := b_Mo_thrown) (maxL := 1) (ret := (some .int)) (by decide) rfl ?_
  intro p e s m args below meth c s₁ B hml hv
  obtain ⟨rfl, hsz, hE, hP, hK, hD0⟩ := hv
  have hts := atoms_spec (ws := (Cond.code y_Mo_thrown b_Mo_thrown 1 (some .int)) :: z_T) B.pre
  have htz : ∀ w ∈ z_T, w.before _ s = true := fun w h => hts w (z_cons w h)
  subst hsz
  have hD := hD0.self (sz := s.heap.size)
  generalize hAe : va_A (mw k a f g) s.heap.size = A at hD hE ⊢
  have hA : ∀ q : Nat, s.heap.size ≤ q → A q := fun q h => by rw [← hAe]; exact Or.inr h
  have hl := lv_entry ([.ref (a 0)]) (n := 1) (Nat.le_of_ble_eq_true rfl)
  rw [lg_entry_eq]
  generalize (lg_sl ([.ref (a 0)]) ++ List.replicate (1 - (lg_sl ([.ref (a 0)])).length) Slot.unset).toArray = ls at hl ⊢
  exact h ((l, dC, dI, k, a), p, e, s, m, ([.ref (a 0)] : List Value).toArray, below, meth, c, A) rfl ⟨B.exec, B.bytes, B.returns, htz, findClass_of_methodNamed B.named, B.notSynchronized, hml, hE, hK, hA⟩ s.heap [] ls hl hP hD va_S.rf
def zn_says (C : CT) (Post : Int32 → FT → GT → Prop) (pc : Nat) (loc : List (Nat × Value)) (st : List Value) (f : FT) (g : GT) : Prop := zW C (z_rm 0 0 0) 2 (qI C Post) 0 0 pc loc st (mM C.1 f g)
set_option maxHeartbeats 1000000 in
set_option maxRecDepth 100000 in
theorem k_Mo_says_0 {C : CT} (X : cM C "QuestionTextModel" b_Mo_says 2 (some .boolean)) (Post : Int32 → FT → GT → Prop) (x1 : Int32) (f : FT) (g : GT)
    (k_10 : (x1 = 0) → zn_says C Post 10 [(0, .ref (ad C.1 0)), (1, .int x1)] [.int 1, .ref (ad C.1 0)] f g)
    (k_10_1 : (¬ x1 = 0) → zn_says C Post 10 [(0, .ref (ad C.1 0)), (1, .int x1)] [.int 0, .ref (ad C.1 0)] f g) : zn_says C Post 0 [(0, .ref (ad C.1 0)), (1, .int x1)] [] f g := by
  obtain ⟨⟨l, dC, dI, k, a⟩, p, e, s, m, args, below, meth, c, A⟩ := C
  obtain ⟨hx, hb, hr, htz, hown, hlocks, hml, hE, hK, hA⟩ := X
  intro H locs ls hl hP hD hS
  have hl : lv_has ls 2 [(0, .ref (a 0)), (1, .int x1)] := hl
  have hP : va_P (dC, dI) classes (mw k a f g) H := hP
  have hD : va_D A (mw k a f g) := hD
  show W p l e (z_rm 0 0 0) s m args below meth c H locs 0 0 _ (F0 m 0 ls [])
  refine lv_aload_n hx hb d_Mo_says_0 rfl (lv_at hl 0 rfl) ?_
  refine lv_iload_n hx hb d_Mo_says_1 rfl (lv_at hl 1 rfl) ?_
  refine lv_if_eq (tgt := 9) hx hb d_Mo_says_2 (by decide) (fun c_2 => ?_) (fun c_2 => ?_)
  · refine lv_iconst (v := 1) hx hb d_Mo_says_9 (by decide) ?_
    exact (k_10 c_2) H locs ls (lv_sub hl [0, 1] rfl) hP hD hS
  · refine lv_iconst (v := 0) hx hb d_Mo_says_5 (by decide) ?_
    refine lv_goto (tgt := 10) hx hb d_Mo_says_6 (by decide) ?_
    exact (k_10_1 c_2) H locs ls (lv_sub hl [0, 1] rfl) hP hD hS
set_option maxHeartbeats 1000000 in
set_option maxRecDepth 100000 in
theorem k_Mo_says_10 {C : CT} (X : cM C "QuestionTextModel" b_Mo_says 2 (some .boolean)) (Post : Int32 → FT → GT → Prop) (x1 : Int32) (y0 : Int32) (f : FT) (g : GT)
    (q_14 : Post (x1) (va_up f 0 y0) g)
    (z_14 : narrow .boolean (.int (x1)) = .int (x1)) : zn_says C Post 10 [(0, .ref (ad C.1 0)), (1, .int x1)] [.int y0, .ref (ad C.1 0)] f g := by
  obtain ⟨⟨l, dC, dI, k, a⟩, p, e, s, m, args, below, meth, c, A⟩ := C
  obtain ⟨hx, hb, hr, htz, hown, hlocks, hml, hE, hK, hA⟩ := X
  intro H locs ls hl hP hD hS
  have hl : lv_has ls 2 [(0, .ref (a 0)), (1, .int x1)] := hl
  have hP : va_P (dC, dI) classes (mw k a f g) H := hP
  have hD : va_D A (mw k a f g) := hD
  show W p l e (z_rm 0 0 0) s m args below meth c H locs 0 0 _ (F0 m 10 ls [.int y0, .ref (a 0)])
  refine va_put (D := (dC, dI)) (ci := 4) (v := .int y0) (ty := .int) (C := R_Mo) (T := F_Mo) (N := 31) hx hb htz i_Mo t_Mo o_Mo n_Mo hown hK hP hD hS 0 rfl rfl 0 (by decide) (htz _ kf_Mo_69) (fun _ h9 => h9) rfl (by decide +kernel) rfl rfl (Nat.le_of_ble_eq_true rfl) d_Mo_says_10 (fun H locs hP hD hS => ?_)
  replace hP := mf_0 (v := y0) hP
  replace hD := md_0 (v := y0) hD
  refine lv_iload_n hx hb d_Mo_says_13 rfl (lv_at hl 1 rfl) ?_
  exact W.zret (v := x1) (ty := .boolean) hx hb hr z_14 (fun t ht hW => ⟨⟨_, (va_up f 0 y0, g), rfl, q_14, by rw [ht]; exact hP, va_K.moved hW.alike hK, hD⟩, hS.F ht⟩) hS.2.2 d_Mo_says_14
set_option maxHeartbeats 1000000 in
set_option maxRecDepth 100000 in
theorem e_Mo_says (T : ST) (Post : Int32 → FT → GT → Prop) (x1 : Int32) (f : FT) (g : GT) (h : ∀ C : CT, C.1 = T → cM C "QuestionTextModel" b_Mo_says 2 (some .boolean) → zn_says C Post 0 [(0, .ref (ad C.1 0)), (1, .int x1)] [] f g) : mI T y_Mo_says (Cond.code y_Mo_says b_Mo_says 2 (some .boolean)) 0 [.ref (ad T 0), .int x1] f g Post := by
  obtain ⟨l, dC, dI, k, a⟩ := T
  intro sz
  refine Met.ofW (cc := b_Mo_says) (maxL := 2) (ret := (some .boolean)) (by decide) rfl ?_
  intro p e s m args below meth c s₁ B hml hv
  obtain ⟨rfl, hsz, hE, hP, hK, hD0⟩ := hv
  have hts := atoms_spec (ws := (Cond.code y_Mo_says b_Mo_says 2 (some .boolean)) :: z_T) B.pre
  have htz : ∀ w ∈ z_T, w.before _ s = true := fun w h => hts w (z_cons w h)
  subst hsz
  have hD := hD0.self (sz := s.heap.size)
  generalize hAe : va_A (mw k a f g) s.heap.size = A at hD hE ⊢
  have hA : ∀ q : Nat, s.heap.size ≤ q → A q := fun q h => by rw [← hAe]; exact Or.inr h
  have hl := lv_entry ([.ref (a 0), .int x1]) (n := 2) (Nat.le_of_ble_eq_true rfl)
  rw [lg_entry_eq]
  generalize (lg_sl ([.ref (a 0), .int x1]) ++ List.replicate (2 - (lg_sl ([.ref (a 0), .int x1])).length) Slot.unset).toArray = ls at hl ⊢
  exact h ((l, dC, dI, k, a), p, e, s, m, ([.ref (a 0), .int x1] : List Value).toArray, below, meth, c, A) rfl ⟨B.exec, B.bytes, B.returns, htz, findClass_of_methodNamed B.named, B.notSynchronized, hml, hE, hK, hA⟩ s.heap [] ls hl hP hD va_S.rf
def zn_here (C : CT) (Post : Int32 → FT → GT → Prop) (pc : Nat) (loc : List (Nat × Value)) (st : List Value) (f : FT) (g : GT) : Prop := zW C (z_rm 0 0 0) 1 (qI C Post) 0 0 pc loc st (mM C.1 f g)
set_option maxHeartbeats 1000000 in
set_option maxRecDepth 100000 in
theorem k_Mo_here_0 {C : CT} (X : cM C "QuestionTextModel" b_Mo_here 1 (some .int)) (Post : Int32 → FT → GT → Prop) (f : FT) (g : GT)
    (k_24 : (f 1 ≤ f 5) → zn_here C Post 24 [(0, .ref (ad C.1 0))] [.int (-1)] f g)
    (h_19 : (¬ f 1 ≤ f 5) → vp_in (f 5) 400)
    (k_24_1 : (¬ f 1 ≤ f 5) → zn_here C Post 24 [(0, .ref (ad C.1 0))] [.int (g 0 (f 5 : Int32).toNatClampNeg)] f g) : zn_here C Post 0 [(0, .ref (ad C.1 0))] [] f g := by
  obtain ⟨⟨l, dC, dI, k, a⟩, p, e, s, m, args, below, meth, c, A⟩ := C
  obtain ⟨hx, hb, hr, htz, hown, hlocks, hml, hE, hK, hA⟩ := X
  intro H locs ls hl hP hD hS
  have hl : lv_has ls 1 [(0, .ref (a 0))] := hl
  have hP : va_P (dC, dI) classes (mw k a f g) H := hP
  have hD : va_D A (mw k a f g) := hD
  show W p l e (z_rm 0 0 0) s m args below meth c H locs 0 0 _ (F0 m 0 ls [])
  refine lv_aload_n hx hb d_Mo_here_0 rfl (lv_at hl 0 rfl) ?_
  refine va_get (D := (dC, dI)) (ci := 4) (v := .int (f 5)) (C := R_Mo) (T := F_Mo) (N := 31) hx hb htz i_Mo hown hK hP 0 rfl rfl 18 (by decide) (htz _ kf_Mo_79) (fun _ h9 => h9) rfl d_Mo_here_1 ?_
  refine lv_aload_n hx hb d_Mo_here_4 rfl (lv_at hl 0 rfl) ?_
  refine va_get (D := (dC, dI)) (ci := 4) (v := .int (f 1)) (C := R_Mo) (T := F_Mo) (N := 31) hx hb htz i_Mo hown hK hP 0 rfl rfl 1 (by decide) (htz _ kf_Mo_76) (fun _ h9 => h9) rfl d_Mo_here_5 ?_
  refine lv_icmp_ge (tgt := 23) hx hb d_Mo_here_8 (by decide) (fun c_8 => ?_) (fun c_8 => ?_)
  · refine lv_iconst (v := -1) hx hb d_Mo_here_23 (by decide) ?_
    exact (k_24 c_8) H locs ls (lv_sub hl [0] rfl) hP hD hS
  · refine lv_aload_n hx hb d_Mo_here_11 rfl (lv_at hl 0 rfl) ?_
    refine va_get (D := (dC, dI)) (ci := 4) (v := .ref (a 1)) (C := R_Mo) (T := F_Mo) (N := 31) hx hb htz i_Mo hown hK hP 0 rfl rfl 2 (by decide) (htz _ kf_Mo_7) (fun _ h9 => h9) rfl d_Mo_here_12 ?_
    refine lv_aload_n hx hb d_Mo_here_15 rfl (lv_at hl 0 rfl) ?_
    refine va_get (D := (dC, dI)) (ci := 4) (v := .int (f 5)) (C := R_Mo) (T := F_Mo) (N := 31) hx hb htz i_Mo hown hK hP 0 rfl rfl 18 (by decide) (htz _ kf_Mo_79) (fun _ h9 => h9) rfl d_Mo_here_16 ?_
    refine va_iald hx hb hK hP 1 0 rfl rfl (h_19 c_8) d_Mo_here_19 ?_
    refine lv_goto (tgt := 24) hx hb d_Mo_here_20 (by decide) ?_
    exact (k_24_1 c_8) H locs ls (lv_sub hl [0] rfl) hP hD hS
set_option maxHeartbeats 1000000 in
set_option maxRecDepth 100000 in
theorem k_Mo_here_24 {C : CT} (X : cM C "QuestionTextModel" b_Mo_here 1 (some .int)) (Post : Int32 → FT → GT → Prop) (y0 : Int32) (f : FT) (g : GT)
    (q_24 : Post (y0) f g) : zn_here C Post 24 [(0, .ref (ad C.1 0))] [.int y0] f g := by
  obtain ⟨⟨l, dC, dI, k, a⟩, p, e, s, m, args, below, meth, c, A⟩ := C
  obtain ⟨hx, hb, hr, htz, hown, hlocks, hml, hE, hK, hA⟩ := X
  intro H locs ls hl hP hD hS
  have hl : lv_has ls 1 [(0, .ref (a 0))] := hl
  have hP : va_P (dC, dI) classes (mw k a f g) H := hP
  have hD : va_D A (mw k a f g) := hD
  show W p l e (z_rm 0 0 0) s m args below meth c H locs 0 0 _ (F0 m 24 ls [.int y0])
  exact W.iret (v := y0) hx hb hr (fun t ht hW => ⟨⟨_, (f, g), rfl, q_24, by rw [ht]; exact hP, va_K.moved hW.alike hK, hD⟩, hS.F ht⟩) hS.2.2 d_Mo_here_24
set_option maxHeartbeats 1000000 in
set_option maxRecDepth 100000 in
theorem e_Mo_here (T : ST) (Post : Int32 → FT → GT → Prop) (f : FT) (g : GT) (h : ∀ C : CT, C.1 = T → cM C "QuestionTextModel" b_Mo_here 1 (some .int) → zn_here C Post 0 [(0, .ref (ad C.1 0))] [] f g) : mI T y_Mo_here (Cond.code y_Mo_here b_Mo_here 1 (some .int)) 0 [.ref (ad T 0)] f g Post := by
  obtain ⟨l, dC, dI, k, a⟩ := T
  intro sz
  refine Met.ofW (cc := b_Mo_here) (maxL := 1) (ret := (some .int)) (by decide) rfl ?_
  intro p e s m args below meth c s₁ B hml hv
  obtain ⟨rfl, hsz, hE, hP, hK, hD0⟩ := hv
  have hts := atoms_spec (ws := (Cond.code y_Mo_here b_Mo_here 1 (some .int)) :: z_T) B.pre
  have htz : ∀ w ∈ z_T, w.before _ s = true := fun w h => hts w (z_cons w h)
  subst hsz
  have hD := hD0.self (sz := s.heap.size)
  generalize hAe : va_A (mw k a f g) s.heap.size = A at hD hE ⊢
  have hA : ∀ q : Nat, s.heap.size ≤ q → A q := fun q h => by rw [← hAe]; exact Or.inr h
  have hl := lv_entry ([.ref (a 0)]) (n := 1) (Nat.le_of_ble_eq_true rfl)
  rw [lg_entry_eq]
  generalize (lg_sl ([.ref (a 0)]) ++ List.replicate (1 - (lg_sl ([.ref (a 0)])).length) Slot.unset).toArray = ls at hl ⊢
  exact h ((l, dC, dI, k, a), p, e, s, m, ([.ref (a 0)] : List Value).toArray, below, meth, c, A) rfl ⟨B.exec, B.bytes, B.returns, htz, findClass_of_methodNamed B.named, B.notSynchronized, hml, hE, hK, hA⟩ s.heap [] ls hl hP hD va_S.rf
def zn_see (C : CT) (Post : Int32 → FT → GT → Prop) (pc : Nat) (loc : List (Nat × Value)) (st : List Value) (f : FT) (g : GT) : Prop := zW C (z_rm 1 0 0) 1 (qI C Post) 0 0 pc loc st (mM C.1 f g)
set_option maxHeartbeats 1000000 in
set_option maxRecDepth 100000 in
theorem k_Mo_see_0 {C : CT} (X : cM C "QuestionTextModel" b_Mo_see 1 (some .int)) (Post : Int32 → FT → GT → Prop) {P_1 : Int32 → FT → GT → Prop} (f : FT) (g : GT)
    (m_1 : mI C.1 y_Mo_here (Cond.code y_Mo_here b_Mo_here 1 (some .int)) 0 [.ref (ad C.1 0)] f g P_1)
    (k_1 : ∀ (r : Int32) (f1 : FT) (g1 : GT), P_1 r f1 g1 → zn_see C Post 4 [(0, .ref (ad C.1 0))] [.int r] f1 g1) : zn_see C Post 0 [(0, .ref (ad C.1 0))] [] f g := by
  obtain ⟨⟨l, dC, dI, k, a⟩, p, e, s, m, args, below, meth, c, A⟩ := C
  obtain ⟨hx, hb, hr, htz, hown, hlocks, hml, hE, hK, hA⟩ := X
  intro H locs ls hl hP hD hS
  have hl : lv_has ls 1 [(0, .ref (a 0))] := hl
  have hP : va_P (dC, dI) classes (mw k a f g) H := hP
  have hD : va_D A (mw k a f g) := hD
  show W p l e (z_rm 1 0 0) s m args below meth c H locs 0 0 _ (F0 m 0 ls [])
  refine lv_aload_n hx hb d_Mo_see_0 rfl (lv_at hl 0 rfl) ?_
  have hFc := va_free (wc := mw k a f g) hD hS hA [0, 1, 2, 3, 4, 5, 6, 7, 8, 9, 10, 11, 12, 13, 14, 15, 16, 17, 18] rfl
  refine va_calli (va_runV (As := []) (rest := []) ⟨hx, hb, hml, hown, htz⟩ (m_1 H.size) (cwV 0 htz (z_gV (fun _ h => h) km_Mo_82 in_Mo_here se_Mo_here ini_Mo m_Mo_here) rfl rfl rfl (by decide +kernel) ⟨(Nat.le_of_ble_eq_true rfl), (Nat.le_of_ble_eq_true rfl)⟩) ⟨z_blind, va_recv hK hP (ci := 4) (q0 := 0) rfl rfl, fun U hU hW => ⟨rfl, by rw [hU], hE.call hS hFc hU hW, by rw [hU]; exact hP, va_K.moved hW.alike hK, hD.weaken (fun _ _ _ _ => trivial)⟩⟩ rfl rfl hl.1 rfl (lv_room (Nat.le_of_ble_eq_true rfl)) d_Mo_see_1 ⟨(Nat.le_of_ble_eq_true rfl), (Nat.le_of_ble_eq_true rfl)⟩) hS (fun q _ h => hFc q h) hFc (fun r u t H1 locs ht hvm hw hB hz1 hk1 hS => ?_)
  obtain ⟨hP1, hK1, hD1⟩ := hB
  rw [ht] at hP1
  exact k_1 r _ _ hw H1 locs ls (lv_sub hl [0] rfl) hP1 (hD1.weaken (fun _ q _ h => hFc _ h)) hS
set_option maxHeartbeats 1000000 in
set_option maxRecDepth 100000 in
theorem k_Mo_see_4 {C : CT} (X : cM C "QuestionTextModel" b_Mo_see 1 (some .int)) (Post : Int32 → FT → GT → Prop) {P_23 : Int32 → FT → GT → Prop} (y0 : Int32) (f : FT) (g : GT)
    (m_23 : (¬ y0 = 32) → mI C.1 y_Mo_here (Cond.code y_Mo_here b_Mo_here 1 (some .int)) 0 [.ref (ad C.1 0)] f g P_23)
    (k_23 : (¬ y0 = 32) → ∀ (r : Int32) (f1 : FT) (g1 : GT), P_23 r f1 g1 → zn_see C Post 26 [(0, .ref (ad C.1 0))] [.int r] f1 g1)
    (k_0 : (y0 = 32) → zn_see C Post 0 [(0, .ref (ad C.1 0))] [] (va_up f 5 ((f 5) + 1)) g) : zn_see C Post 4 [(0, .ref (ad C.1 0))] [.int y0] f g := by
  obtain ⟨⟨l, dC, dI, k, a⟩, p, e, s, m, args, below, meth, c, A⟩ := C
  obtain ⟨hx, hb, hr, htz, hown, hlocks, hml, hE, hK, hA⟩ := X
  intro H locs ls hl hP hD hS
  have hl : lv_has ls 1 [(0, .ref (a 0))] := hl
  have hP : va_P (dC, dI) classes (mw k a f g) H := hP
  have hD : va_D A (mw k a f g) := hD
  show W p l e (z_rm 1 0 0) s m args below meth c H locs 0 0 _ (F0 m 4 ls [.int y0])
  refine lv_bipush (v := 32) hx hb d_Mo_see_4 (by decide) ?_
  refine lv_icmp_ne (tgt := 22) hx hb d_Mo_see_6 (by decide) (fun c_6 => ?_) (fun c_6 => ?_)
  · refine lv_aload_n hx hb d_Mo_see_22 rfl (lv_at hl 0 rfl) ?_
    have hFc := va_free (wc := mw k a f g) hD hS hA [0, 1, 2, 3, 4, 5, 6, 7, 8, 9, 10, 11, 12, 13, 14, 15, 16, 17, 18] rfl
    refine va_calli (va_runV (As := []) (rest := []) ⟨hx, hb, hml, hown, htz⟩ ((m_23 c_6) H.size) (cwV 0 htz (z_gV (fun _ h => h) km_Mo_82 in_Mo_here se_Mo_here ini_Mo m_Mo_here) rfl rfl rfl (by decide +kernel) ⟨(Nat.le_of_ble_eq_true rfl), (Nat.le_of_ble_eq_true rfl)⟩) ⟨z_blind, va_recv hK hP (ci := 4) (q0 := 0) rfl rfl, fun U hU hW => ⟨rfl, by rw [hU], hE.call hS hFc hU hW, by rw [hU]; exact hP, va_K.moved hW.alike hK, hD.weaken (fun _ _ _ _ => trivial)⟩⟩ rfl rfl hl.1 rfl (lv_room (Nat.le_of_ble_eq_true rfl)) d_Mo_see_23 ⟨(Nat.le_of_ble_eq_true rfl), (Nat.le_of_ble_eq_true rfl)⟩) hS (fun q _ h => hFc q h) hFc (fun r u t H1 locs ht hvm hw hB hz1 hk1 hS => ?_)
    obtain ⟨hP1, hK1, hD1⟩ := hB
    rw [ht] at hP1
    exact (k_23 c_6) r _ _ hw H1 locs ls (lv_sub hl [0] rfl) hP1 (hD1.weaken (fun _ q _ h => hFc _ h)) hS
  · refine lv_aload_n hx hb d_Mo_see_9 rfl (lv_at hl 0 rfl) ?_
    refine lv_dup hx hb d_Mo_see_10 rfl ?_
    refine va_get (D := (dC, dI)) (ci := 4) (v := .int (f 5)) (C := R_Mo) (T := F_Mo) (N := 31) hx hb htz i_Mo hown hK hP 0 rfl rfl 18 (by decide) (htz _ kf_Mo_79) (fun _ h9 => h9) rfl d_Mo_see_11 ?_
    refine lv_iconst (v := 1) hx hb d_Mo_see_14 (by decide) ?_
    refine lv_iadd hx hb d_Mo_see_15 ?_
    refine va_put (D := (dC, dI)) (ci := 4) (v := .int ((f 5) + 1)) (ty := .int) (C := R_Mo) (T := F_Mo) (N := 31) hx hb htz i_Mo t_Mo o_Mo n_Mo hown hK hP hD hS 0 rfl rfl 18 (by decide) (htz _ kf_Mo_79) (fun _ h9 => h9) rfl (by decide +kernel) rfl rfl (Nat.le_of_ble_eq_true rfl) d_Mo_see_16 (fun H locs hP hD hS => ?_)
    replace hP := mf_5 (v := (f 5) + 1) hP
    replace hD := md_5 (v := (f 5) + 1) hD
    refine lv_goto (tgt := 0) hx hb d_Mo_see_19 (by decide) ?_
    exact (k_0 c_6) H locs ls (lv_sub hl [0] rfl) hP hD hS
set_option maxHeartbeats 1000000 in
set_option maxRecDepth 100000 in
theorem k_Mo_see_26 {C : CT} (X : cM C "QuestionTextModel" b_Mo_see 1 (some .int)) (Post : Int32 → FT → GT → Prop) (y0 : Int32) (f : FT) (g : GT)
    (q_26 : Post (y0) f g) : zn_see C Post 26 [(0, .ref (ad C.1 0))] [.int y0] f g := by
  obtain ⟨⟨l, dC, dI, k, a⟩, p, e, s, m, args, below, meth, c, A⟩ := C
  obtain ⟨hx, hb, hr, htz, hown, hlocks, hml, hE, hK, hA⟩ := X
  intro H locs ls hl hP hD hS
  have hl : lv_has ls 1 [(0, .ref (a 0))] := hl
  have hP : va_P (dC, dI) classes (mw k a f g) H := hP
  have hD : va_D A (mw k a f g) := hD
  show W p l e (z_rm 1 0 0) s m args below meth c H locs 0 0 _ (F0 m 26 ls [.int y0])
  exact W.iret (v := y0) hx hb hr (fun t ht hW => ⟨⟨_, (f, g), rfl, q_26, by rw [ht]; exact hP, va_K.moved hW.alike hK, hD⟩, hS.F ht⟩) hS.2.2 d_Mo_see_26
set_option maxHeartbeats 1000000 in
set_option maxRecDepth 100000 in
theorem e_Mo_see (T : ST) (Post : Int32 → FT → GT → Prop) (f : FT) (g : GT) (h : ∀ C : CT, C.1 = T → cM C "QuestionTextModel" b_Mo_see 1 (some .int) → zn_see C Post 0 [(0, .ref (ad C.1 0))] [] f g) : mI T y_Mo_see (Cond.code y_Mo_see b_Mo_see 1 (some .int)) 1 [.ref (ad T 0)] f g Post := by
  obtain ⟨l, dC, dI, k, a⟩ := T
  intro sz
  refine Met.ofW (cc := b_Mo_see) (maxL := 1) (ret := (some .int)) (by decide) rfl ?_
  intro p e s m args below meth c s₁ B hml hv
  obtain ⟨rfl, hsz, hE, hP, hK, hD0⟩ := hv
  have hts := atoms_spec (ws := (Cond.code y_Mo_see b_Mo_see 1 (some .int)) :: z_T) B.pre
  have htz : ∀ w ∈ z_T, w.before _ s = true := fun w h => hts w (z_cons w h)
  subst hsz
  have hD := hD0.self (sz := s.heap.size)
  generalize hAe : va_A (mw k a f g) s.heap.size = A at hD hE ⊢
  have hA : ∀ q : Nat, s.heap.size ≤ q → A q := fun q h => by rw [← hAe]; exact Or.inr h
  have hl := lv_entry ([.ref (a 0)]) (n := 1) (Nat.le_of_ble_eq_true rfl)
  rw [lg_entry_eq]
  generalize (lg_sl ([.ref (a 0)]) ++ List.replicate (1 - (lg_sl ([.ref (a 0)])).length) Slot.unset).toArray = ls at hl ⊢
  exact h ((l, dC, dI, k, a), p, e, s, m, ([.ref (a 0)] : List Value).toArray, below, meth, c, A) rfl ⟨B.exec, B.bytes, B.returns, htz, findClass_of_methodNamed B.named, B.notSynchronized, hml, hE, hK, hA⟩ s.heap [] ls hl hP hD va_S.rf
def zn_fail (C : CT) (Post : FT → GT → Prop) (pc : Nat) (loc : List (Nat × Value)) (st : List Value) (f : FT) (g : GT) : Prop := zW C (z_rm 0 0 0) 2 (qV C Post) 0 0 pc loc st (mM C.1 f g)
set_option maxHeartbeats 1000000 in
set_option maxRecDepth 100000 in
theorem k_Mo_fail_0 {C : CT} (X : cM C "QuestionTextModel" b_Mo_fail 2 none) (Post : FT → GT → Prop) (x1 : Int32) (f : FT) (g : GT)
    (k_12 : (0 ≤ f 6) → zn_fail C Post 12 [(0, .ref (ad C.1 0)), (1, .int x1)] [] f g)
    (k_12_1 : (¬ 0 ≤ f 6) → zn_fail C Post 12 [(0, .ref (ad C.1 0)), (1, .int x1)] [] (va_up f 6 x1) g) : zn_fail C Post 0 [(0, .ref (ad C.1 0)), (1, .int x1)] [] f g := by
  obtain ⟨⟨l, dC, dI, k, a⟩, p, e, s, m, args, below, meth, c, A⟩ := C
  obtain ⟨hx, hb, hr, htz, hown, hlocks, hml, hE, hK, hA⟩ := X
  intro H locs ls hl hP hD hS
  have hl : lv_has ls 2 [(0, .ref (a 0)), (1, .int x1)] := hl
  have hP : va_P (dC, dI) classes (mw k a f g) H := hP
  have hD : va_D A (mw k a f g) := hD
  show W p l e (z_rm 0 0 0) s m args below meth c H locs 0 0 _ (F0 m 0 ls [])
  refine lv_aload_n hx hb d_Mo_fail_0 rfl (lv_at hl 0 rfl) ?_
  refine va_get (D := (dC, dI)) (ci := 4) (v := .int (f 6)) (C := R_Mo) (T := F_Mo) (N := 31) hx hb htz i_Mo hown hK hP 0 rfl rfl 19 (by decide) (htz _ kf_Mo_86) (fun _ h9 => h9) rfl d_Mo_fail_1 ?_
  refine lv_if_ge (tgt := 12) hx hb d_Mo_fail_4 (by decide) (fun c_4 => ?_) (fun c_4 => ?_)
  · exact (k_12 c_4) H locs ls (lv_sub hl [0, 1] rfl) hP hD hS
  · refine lv_aload_n hx hb d_Mo_fail_7 rfl (lv_at hl 0 rfl) ?_
    refine lv_iload_n hx hb d_Mo_fail_8 rfl (lv_at hl 1 rfl) ?_
    refine va_put (D := (dC, dI)) (ci := 4) (v := .int x1) (ty := .int) (C := R_Mo) (T := F_Mo) (N := 31) hx hb htz i_Mo t_Mo o_Mo n_Mo hown hK hP hD hS 0 rfl rfl 19 (by decide) (htz _ kf_Mo_86) (fun _ h9 => h9) rfl (by decide +kernel) rfl rfl (Nat.le_of_ble_eq_true rfl) d_Mo_fail_9 (fun H locs hP hD hS => ?_)
    replace hP := mf_6 (v := x1) hP
    replace hD := md_6 (v := x1) hD
    exact (k_12_1 c_4) H locs ls (lv_sub hl [0, 1] rfl) hP hD hS
set_option maxHeartbeats 1000000 in
set_option maxRecDepth 100000 in
theorem k_Mo_fail_12 {C : CT} (X : cM C "QuestionTextModel" b_Mo_fail 2 none) (Post : FT → GT → Prop) (x1 : Int32) (f : FT) (g : GT)
    (q_12 : Post f g) : zn_fail C Post 12 [(0, .ref (ad C.1 0)), (1, .int x1)] [] f g := by
  obtain ⟨⟨l, dC, dI, k, a⟩, p, e, s, m, args, below, meth, c, A⟩ := C
  obtain ⟨hx, hb, hr, htz, hown, hlocks, hml, hE, hK, hA⟩ := X
  intro H locs ls hl hP hD hS
  have hl : lv_has ls 2 [(0, .ref (a 0)), (1, .int x1)] := hl
  have hP : va_P (dC, dI) classes (mw k a f g) H := hP
  have hD : va_D A (mw k a f g) := hD
  show W p l e (z_rm 0 0 0) s m args below meth c H locs 0 0 _ (F0 m 12 ls [])
  exact W.vret hx hb hr (fun t ht hW => ⟨⟨(f, g), rfl, q_12, by rw [ht]; exact hP, va_K.moved hW.alike hK, hD⟩, hS.F ht⟩) hS.2.2 d_Mo_fail_12
set_option maxHeartbeats 1000000 in
set_option maxRecDepth 100000 in
theorem e_Mo_fail (T : ST) (Post : FT → GT → Prop) (x1 : Int32) (f : FT) (g : GT) (h : ∀ C : CT, C.1 = T → cM C "QuestionTextModel" b_Mo_fail 2 none → zn_fail C Post 0 [(0, .ref (ad C.1 0)), (1, .int x1)] [] f g) : mV T y_Mo_fail (Cond.code y_Mo_fail b_Mo_fail 2 none) 0 [.ref (ad T 0), .int x1] f g Post := by
  obtain ⟨l, dC, dI, k, a⟩ := T
  intro sz
  refine Met.ofW (cc := b_Mo_fail) (maxL := 2) (ret := none) (by decide) rfl ?_
  intro p e s m args below meth c s₁ B hml hv
  obtain ⟨rfl, hsz, hE, hP, hK, hD0⟩ := hv
  have hts := atoms_spec (ws := (Cond.code y_Mo_fail b_Mo_fail 2 none) :: z_T) B.pre
  have htz : ∀ w ∈ z_T, w.before _ s = true := fun w h => hts w (z_cons w h)
  subst hsz
  have hD := hD0.self (sz := s.heap.size)
  generalize hAe : va_A (mw k a f g) s.heap.size = A at hD hE ⊢
  have hA : ∀ q : Nat, s.heap.size ≤ q → A q := fun q h => by rw [← hAe]; exact Or.inr h
  have hl := lv_entry ([.ref (a 0), .int x1]) (n := 2) (Nat.le_of_ble_eq_true rfl)
  rw [lg_entry_eq]
  generalize (lg_sl ([.ref (a 0), .int x1]) ++ List.replicate (2 - (lg_sl ([.ref (a 0), .int x1])).length) Slot.unset).toArray = ls at hl ⊢
  exact h ((l, dC, dI, k, a), p, e, s, m, ([.ref (a 0), .int x1] : List Value).toArray, below, meth, c, A) rfl ⟨B.exec, B.bytes, B.returns, htz, findClass_of_methodNamed B.named, B.notSynchronized, hml, hE, hK, hA⟩ s.heap [] ls hl hP hD va_S.rf
def zn_take (C : CT) (Post : FT → GT → Prop) (pc : Nat) (loc : List (Nat × Value)) (st : List Value) (f : FT) (g : GT) : Prop := zW C (z_rm 2 0 0) 2 (qV C Post) 0 0 pc loc st (mM C.1 f g)
set_option maxHeartbeats 1000000 in
set_option maxRecDepth 100000 in
theorem k_Mo_take_0 {C : CT} (X : cM C "QuestionTextModel" b_Mo_take 2 none) (Post : FT → GT → Prop) {P_9 : Int32 → FT → GT → Prop} (x1 : Int32) (f : FT) (g : GT)
    (m_9 : (f 6 < 0) → mI C.1 y_Mo_see (Cond.code y_Mo_see b_Mo_see 1 (some .int)) 1 [.ref (ad C.1 0)] f g P_9)
    (k_9 : (f 6 < 0) → ∀ (r : Int32) (f1 : FT) (g1 : GT), P_9 r f1 g1 → zn_take C Post 12 [(0, .ref (ad C.1 0)), (1, .int x1)] [.int r] f1 g1)
    (q_7 : (¬ f 6 < 0) → Post f g) : zn_take C Post 0 [(0, .ref (ad C.1 0)), (1, .int x1)] [] f g := by
  obtain ⟨⟨l, dC, dI, k, a⟩, p, e, s, m, args, below, meth, c, A⟩ := C
  obtain ⟨hx, hb, hr, htz, hown, hlocks, hml, hE, hK, hA⟩ := X
  intro H locs ls hl hP hD hS
  have hl : lv_has ls 2 [(0, .ref (a 0)), (1, .int x1)] := hl
  have hP : va_P (dC, dI) classes (mw k a f g) H := hP
  have hD : va_D A (mw k a f g) := hD
  show W p l e (z_rm 2 0 0) s m args below meth c H locs 0 0 _ (F0 m 0 ls [])
  refine lv_aload_n hx hb d_Mo_take_0 rfl (lv_at hl 0 rfl) ?_
  refine va_get (D := (dC, dI)) (ci := 4) (v := .int (f 6)) (C := R_Mo) (T := F_Mo) (N := 31) hx hb htz i_Mo hown hK hP 0 rfl rfl 19 (by decide) (htz _ kf_Mo_86) (fun _ h9 => h9) rfl d_Mo_take_1 ?_
  refine lv_if_lt (tgt := 8) hx hb d_Mo_take_4 (by decide) (fun c_4 => ?_) (fun c_4 => ?_)
  · refine lv_aload_n hx hb d_Mo_take_8 rfl (lv_at hl 0 rfl) ?_
    have hFc := va_free (wc := mw k a f g) hD hS hA [0, 1, 2, 3, 4, 5, 6, 7, 8, 9, 10, 11, 12, 13, 14, 15, 16, 17, 18] rfl
    refine va_calli (va_runV (As := []) (rest := []) ⟨hx, hb, hml, hown, htz⟩ ((m_9 c_4) H.size) (cwV 0 htz (z_gV (fun _ h => h) km_Mo_89 in_Mo_see se_Mo_see ini_Mo m_Mo_see) rfl rfl rfl (by decide +kernel) ⟨(Nat.le_of_ble_eq_true rfl), (Nat.le_of_ble_eq_true rfl)⟩) ⟨z_blind, va_recv hK hP (ci := 4) (q0 := 0) rfl rfl, fun U hU hW => ⟨rfl, by rw [hU], hE.call hS hFc hU hW, by rw [hU]; exact hP, va_K.moved hW.alike hK, hD.weaken (fun _ _ _ _ => trivial)⟩⟩ rfl rfl hl.1 rfl (lv_room (Nat.le_of_ble_eq_true rfl)) d_Mo_take_9 ⟨(Nat.le_of_ble_eq_true rfl), (Nat.le_of_ble_eq_true rfl)⟩) hS (fun q _ h => hFc q h) hFc (fun r u t H1 locs ht hvm hw hB hz1 hk1 hS => ?_)
    obtain ⟨hP1, hK1, hD1⟩ := hB
    rw [ht] at hP1
    exact (k_9 c_4) r _ _ hw H1 locs ls (lv_sub hl [0, 1] rfl) hP1 (hD1.weaken (fun _ q _ h => hFc _ h)) hS
  · exact W.vret hx hb hr (fun t ht hW => ⟨⟨(f, g), rfl, (q_7 c_4), by rw [ht]; exact hP, va_K.moved hW.alike hK, hD⟩, hS.F ht⟩) hS.2.2 d_Mo_take_7
set_option maxHeartbeats 1000000 in
set_option maxRecDepth 100000 in
theorem k_Mo_take_12 {C : CT} (X : cM C "QuestionTextModel" b_Mo_take 2 none) (Post : FT → GT → Prop) {P_21 : FT → GT → Prop} (x1 : Int32) (y0 : Int32) (f : FT) (g : GT)
    (k_37 : (y0 = x1) → zn_take C Post 37 [(0, .ref (ad C.1 0)), (1, .int x1)] [] (va_up f 5 ((f 5) + 1)) g)
    (m_21 : (¬ y0 = x1) → mV C.1 y_Mo_fail (Cond.code y_Mo_fail b_Mo_fail 2 none) 0 [.ref (ad C.1 0), .int (f 5)] f g P_21)
    (k_21 : (¬ y0 = x1) → ∀ (f1 : FT) (g1 : GT), P_21 f1 g1 → zn_take C Post 24 [(0, .ref (ad C.1 0)), (1, .int x1)] [] f1 g1) : zn_take C Post 12 [(0, .ref (ad C.1 0)), (1, .int x1)] [.int y0] f g := by
  obtain ⟨⟨l, dC, dI, k, a⟩, p, e, s, m, args, below, meth, c, A⟩ := C
  obtain ⟨hx, hb, hr, htz, hown, hlocks, hml, hE, hK, hA⟩ := X
  intro H locs ls hl hP hD hS
  have hl : lv_has ls 2 [(0, .ref (a 0)), (1, .int x1)] := hl
  have hP : va_P (dC, dI) classes (mw k a f g) H := hP
  have hD : va_D A (mw k a f g) := hD
  show W p l e (z_rm 2 0 0) s m args below meth c H locs 0 0 _ (F0 m 12 ls [.int y0])
  refine lv_iload_n hx hb d_Mo_take_12 rfl (lv_at hl 1 rfl) ?_
  refine lv_icmp_eq (tgt := 27) hx hb d_Mo_take_13 (by decide) (fun c_13 => ?_) (fun c_13 => ?_)
  · refine lv_aload_n hx hb d_Mo_take_27 rfl (lv_at hl 0 rfl) ?_
    refine lv_dup hx hb d_Mo_take_28 rfl ?_
    refine va_get (D := (dC, dI)) (ci := 4) (v := .int (f 5)) (C := R_Mo) (T := F_Mo) (N := 31) hx hb htz i_Mo hown hK hP 0 rfl rfl 18 (by decide) (htz _ kf_Mo_79) (fun _ h9 => h9) rfl d_Mo_take_29 ?_
    refine lv_iconst (v := 1) hx hb d_Mo_take_32 (by decide) ?_
    refine lv_iadd hx hb d_Mo_take_33 ?_
    refine va_put (D := (dC, dI)) (ci := 4) (v := .int ((f 5) + 1)) (ty := .int) (C := R_Mo) (T := F_Mo) (N := 31) hx hb htz i_Mo t_Mo o_Mo n_Mo hown hK hP hD hS 0 rfl rfl 18 (by decide) (htz _ kf_Mo_79) (fun _ h9 => h9) rfl (by decide +kernel) rfl rfl (Nat.le_of_ble_eq_true rfl) d_Mo_take_34 (fun H locs hP hD hS => ?_)
    replace hP := mf_5 (v := (f 5) + 1) hP
    replace hD := md_5 (v := (f 5) + 1) hD
    exact (k_37 c_13) H locs ls (lv_sub hl [0, 1] rfl) hP hD hS
  · refine lv_aload_n hx hb d_Mo_take_16 rfl (lv_at hl 0 rfl) ?_
    refine lv_aload_n hx hb d_Mo_take_17 rfl (lv_at hl 0 rfl) ?_
    refine va_get (D := (dC, dI)) (ci := 4) (v := .int (f 5)) (C := R_Mo) (T := F_Mo) (N := 31) hx hb htz i_Mo hown hK hP 0 rfl rfl 18 (by decide) (htz _ kf_Mo_79) (fun _ h9 => h9) rfl d_Mo_take_18 ?_
    have hFc := va_free (wc := mw k a f g) hD hS hA [0, 1, 2, 3, 4, 5, 6, 7, 8, 9, 10, 11, 12, 13, 14, 15, 16, 17, 18] rfl
    refine va_callv (va_runV (As := [.int (f 5)]) (rest := []) ⟨hx, hb, hml, hown, htz⟩ ((m_21 c_13) H.size) (cwV 1 htz (z_gV (fun _ h => h) km_Mo_92 in_Mo_fail se_Mo_fail ini_Mo m_Mo_fail) rfl rfl rfl (by decide +kernel) ⟨(Nat.le_of_ble_eq_true rfl), (Nat.le_of_ble_eq_true rfl)⟩) ⟨z_blind, va_recv hK hP (ci := 4) (q0 := 0) rfl rfl, fun U hU hW => ⟨rfl, by rw [hU], hE.call hS hFc hU hW, by rw [hU]; exact hP, va_K.moved hW.alike hK, hD.weaken (fun _ _ _ _ => trivial)⟩⟩ rfl rfl hl.1 rfl (lv_room (Nat.le_of_ble_eq_true rfl)) d_Mo_take_21 ⟨(Nat.le_of_ble_eq_true rfl), (Nat.le_of_ble_eq_true rfl)⟩) hS (fun q _ h => hFc q h) hFc (fun u t H1 locs ht hvm hw hB hz1 hk1 hS => ?_)
    obtain ⟨hP1, hK1, hD1⟩ := hB
    rw [ht] at hP1
    exact (k_21 c_13) _ _ hw H1 locs ls (lv_sub hl [0, 1] rfl) hP1 (hD1.weaken (fun _ q _ h => hFc _ h)) hS
set_option maxHeartbeats 1000000 in
set_option maxRecDepth 100000 in
theorem k_Mo_take_24 {C : CT} (X : cM C "QuestionTextModel" b_Mo_take 2 none) (Post : FT → GT → Prop) (x1 : Int32) (f : FT) (g : GT)
    (k_37 : zn_take C Post 37 [(0, .ref (ad C.1 0)), (1, .int x1)] [] f g) : zn_take C Post 24 [(0, .ref (ad C.1 0)), (1, .int x1)] [] f g := by
  obtain ⟨⟨l, dC, dI, k, a⟩, p, e, s, m, args, below, meth, c, A⟩ := C
  obtain ⟨hx, hb, hr, htz, hown, hlocks, hml, hE, hK, hA⟩ := X
  intro H locs ls hl hP hD hS
  have hl : lv_has ls 2 [(0, .ref (a 0)), (1, .int x1)] := hl
  have hP : va_P (dC, dI) classes (mw k a f g) H := hP
  have hD : va_D A (mw k a f g) := hD
  show W p l e (z_rm 2 0 0) s m args below meth c H locs 0 0 _ (F0 m 24 ls [])
  refine lv_goto (tgt := 37) hx hb d_Mo_take_24 (by decide) ?_
  exact k_37 H locs ls (lv_sub hl [0, 1] rfl) hP hD hS
set_option maxHeartbeats 1000000 in
set_option maxRecDepth 100000 in
theorem k_Mo_take_37 {C : CT} (X : cM C "QuestionTextModel" b_Mo_take 2 none) (Post : FT → GT → Prop) (x1 : Int32) (f : FT) (g : GT)
    (q_37 : Post f g) : zn_take C Post 37 [(0, .ref (ad C.1 0)), (1, .int x1)] [] f g := by
  obtain ⟨⟨l, dC, dI, k, a⟩, p, e, s, m, args, below, meth, c, A⟩ := C
  obtain ⟨hx, hb, hr, htz, hown, hlocks, hml, hE, hK, hA⟩ := X
  intro H locs ls hl hP hD hS
  have hl : lv_has ls 2 [(0, .ref (a 0)), (1, .int x1)] := hl
  have hP : va_P (dC, dI) classes (mw k a f g) H := hP
  have hD : va_D A (mw k a f g) := hD
  show W p l e (z_rm 2 0 0) s m args below meth c H locs 0 0 _ (F0 m 37 ls [])
  exact W.vret hx hb hr (fun t ht hW => ⟨⟨(f, g), rfl, q_37, by rw [ht]; exact hP, va_K.moved hW.alike hK, hD⟩, hS.F ht⟩) hS.2.2 d_Mo_take_37
set_option maxHeartbeats 1000000 in
set_option maxRecDepth 100000 in
theorem e_Mo_take (T : ST) (Post : FT → GT → Prop) (x1 : Int32) (f : FT) (g : GT) (h : ∀ C : CT, C.1 = T → cM C "QuestionTextModel" b_Mo_take 2 none → zn_take C Post 0 [(0, .ref (ad C.1 0)), (1, .int x1)] [] f g) : mV T y_Mo_take (Cond.code y_Mo_take b_Mo_take 2 none) 2 [.ref (ad T 0), .int x1] f g Post := by
  obtain ⟨l, dC, dI, k, a⟩ := T
  intro sz
  refine Met.ofW (cc := b_Mo_take) (maxL := 2) (ret := none) (by decide) rfl ?_
  intro p e s m args below meth c s₁ B hml hv
  obtain ⟨rfl, hsz, hE, hP, hK, hD0⟩ := hv
  have hts := atoms_spec (ws := (Cond.code y_Mo_take b_Mo_take 2 none) :: z_T) B.pre
  have htz : ∀ w ∈ z_T, w.before _ s = true := fun w h => hts w (z_cons w h)
  subst hsz
  have hD := hD0.self (sz := s.heap.size)
  generalize hAe : va_A (mw k a f g) s.heap.size = A at hD hE ⊢
  have hA : ∀ q : Nat, s.heap.size ≤ q → A q := fun q h => by rw [← hAe]; exact Or.inr h
  have hl := lv_entry ([.ref (a 0), .int x1]) (n := 2) (Nat.le_of_ble_eq_true rfl)
  rw [lg_entry_eq]
  generalize (lg_sl ([.ref (a 0), .int x1]) ++ List.replicate (2 - (lg_sl ([.ref (a 0), .int x1])).length) Slot.unset).toArray = ls at hl ⊢
  exact h ((l, dC, dI, k, a), p, e, s, m, ([.ref (a 0), .int x1] : List Value).toArray, below, meth, c, A) rfl ⟨B.exec, B.bytes, B.returns, htz, findClass_of_methodNamed B.named, B.notSynchronized, hml, hE, hK, hA⟩ s.heap [] ls hl hP hD va_S.rf
def zn_isDigit (C : CT) (Post : Int32 → FT → GT → Prop) (pc : Nat) (loc : List (Nat × Value)) (st : List Value) (f : FT) (g : GT) : Prop := zW C (z_rm 1 0 0) 1 (qI C Post) 0 0 pc loc st (mM C.1 f g)
set_option maxHeartbeats 1000000 in
set_option maxRecDepth 100000 in
theorem k_Mo_isDigit_0 {C : CT} (X : cM C "QuestionTextModel" b_Mo_isDigit 1 (some .boolean)) (Post : Int32 → FT → GT → Prop) {P_1 : Int32 → FT → GT → Prop} (f : FT) (g : GT)
    (m_1 : mI C.1 y_Mo_here (Cond.code y_Mo_here b_Mo_here 1 (some .int)) 0 [.ref (ad C.1 0)] f g P_1)
    (k_1 : ∀ (r : Int32) (f1 : FT) (g1 : GT), P_1 r f1 g1 → zn_isDigit C Post 4 [(0, .ref (ad C.1 0))] [.int r] f1 g1) : zn_isDigit C Post 0 [(0, .ref (ad C.1 0))] [] f g := by
  obtain ⟨⟨l, dC, dI, k, a⟩, p, e, s, m, args, below, meth, c, A⟩ := C
  obtain ⟨hx, hb, hr, htz, hown, hlocks, hml, hE, hK, hA⟩ := X
  intro H locs ls hl hP hD hS
  have hl : lv_has ls 1 [(0, .ref (a 0))] := hl
  have hP : va_P (dC, dI) classes (mw k a f g) H := hP
  have hD : va_D A (mw k a f g) := hD
  show W p l e (z_rm 1 0 0) s m args below meth c H locs 0 0 _ (F0 m 0 ls [])
  refine lv_aload_n hx hb d_Mo_isDigit_0 rfl (lv_at hl 0 rfl) ?_
  have hFc := va_free (wc := mw k a f g) hD hS hA [0, 1, 2, 3, 4, 5, 6, 7, 8, 9, 10, 11, 12, 13, 14, 15, 16, 17, 18] rfl
  refine va_calli (va_runV (As := []) (rest := []) ⟨hx, hb, hml, hown, htz⟩ (m_1 H.size) (cwV 0 htz (z_gV (fun _ h => h) km_Mo_82 in_Mo_here se_Mo_here ini_Mo m_Mo_here) rfl rfl rfl (by decide +kernel) ⟨(Nat.le_of_ble_eq_true rfl), (Nat.le_of_ble_eq_true rfl)⟩) ⟨z_blind, va_recv hK hP (ci := 4) (q0 := 0) rfl rfl, fun U hU hW => ⟨rfl, by rw [hU], hE.call hS hFc hU hW, by rw [hU]; exact hP, va_K.moved hW.alike hK, hD.weaken (fun _ _ _ _ => trivial)⟩⟩ rfl rfl hl.1 rfl (lv_room (Nat.le_of_ble_eq_true rfl)) d_Mo_isDigit_1 ⟨(Nat.le_of_ble_eq_true rfl), (Nat.le_of_ble_eq_true rfl)⟩) hS (fun q _ h => hFc q h) hFc (fun r u t H1 locs ht hvm hw hB hz1 hk1 hS => ?_)
  obtain ⟨hP1, hK1, hD1⟩ := hB
  rw [ht] at hP1
  exact k_1 r _ _ hw H1 locs ls (lv_sub hl [0] rfl) hP1 (hD1.weaken (fun _ q _ h => hFc _ h)) hS
set_option maxHeartbeats 1000000 in
set_option maxRecDepth 100000 in
theorem k_Mo_isDigit_4 {C : CT} (X : cM C "QuestionTextModel" b_Mo_isDigit 1 (some .boolean)) (Post : Int32 → FT → GT → Prop) {P_8 : Int32 → FT → GT → Prop} (y0 : Int32) (f : FT) (g : GT)
    (m_8 : mI C.1 y_Mo_in (Cond.code y_Mo_in b_Mo_in 3 (some .boolean)) 0 [.int y0, .int 48, .int 57] f g P_8)
    (k_8 : ∀ (r : Int32) (f1 : FT) (g1 : GT), P_8 r f1 g1 → zn_isDigit C Post 11 [(0, .ref (ad C.1 0))] [.int r] f1 g1) : zn_isDigit C Post 4 [(0, .ref (ad C.1 0))] [.int y0] f g := by
  obtain ⟨⟨l, dC, dI, k, a⟩, p, e, s, m, args, below, meth, c, A⟩ := C
  obtain ⟨hx, hb, hr, htz, hown, hlocks, hml, hE, hK, hA⟩ := X
  intro H locs ls hl hP hD hS
  have hl : lv_has ls 1 [(0, .ref (a 0))] := hl
  have hP : va_P (dC, dI) classes (mw k a f g) H := hP
  have hD : va_D A (mw k a f g) := hD
  show W p l e (z_rm 1 0 0) s m args below meth c H locs 0 0 _ (F0 m 4 ls [.int y0])
  refine lv_bipush (v := 48) hx hb d_Mo_isDigit_4 (by decide) ?_
  refine lv_bipush (v := 57) hx hb d_Mo_isDigit_6 (by decide) ?_
  have hFc := va_free (wc := mw k a f g) hD hS hA [0, 1, 2, 3, 4, 5, 6, 7, 8, 9, 10, 11, 12, 13, 14, 15, 16, 17, 18] rfl
  refine va_calli (va_runS (As := [.int y0, .int 48, .int 57]) (rest := []) ⟨hx, hb, hml, hown, htz⟩ (m_8 H.size) (va_cwS 3 htz (z_gS (fun _ h => h) km_Mo_72 st_Mo_in ini_Mo m_Mo_in) rfl rfl rfl (by decide +kernel) ⟨(Nat.le_of_ble_eq_true rfl), (Nat.le_of_ble_eq_true rfl)⟩) ⟨z_blind, fun U hU hW => ⟨rfl, by rw [hU], hE.call hS hFc hU hW, by rw [hU]; exact hP, va_K.moved hW.alike hK, hD.weaken (fun _ _ _ _ => trivial)⟩⟩ rfl rfl hl.1 rfl (lv_room (Nat.le_of_ble_eq_true rfl)) d_Mo_isDigit_8 ⟨(Nat.le_of_ble_eq_true rfl), (Nat.le_of_ble_eq_true rfl)⟩) hS (fun q _ h => hFc q h) hFc (fun r u t H1 locs ht hvm hw hB hz1 hk1 hS => ?_)
  obtain ⟨hP1, hK1, hD1⟩ := hB
  rw [ht] at hP1
  exact k_8 r _ _ hw H1 locs ls (lv_sub hl [0] rfl) hP1 (hD1.weaken (fun _ q _ h => hFc _ h)) hS
set_option maxHeartbeats 1000000 in
set_option maxRecDepth 100000 in
theorem k_Mo_isDigit_11 {C : CT} (X : cM C "QuestionTextModel" b_Mo_isDigit 1 (some .boolean)) (Post : Int32 → FT → GT → Prop) (y0 : Int32) (f : FT) (g : GT)
    (q_11 : Post (y0) f g)
    (z_11 : narrow .boolean (.int (y0)) = .int (y0)) : zn_isDigit C Post 11 [(0, .ref (ad C.1 0))] [.int y0] f g := by
  obtain ⟨⟨l, dC, dI, k, a⟩, p, e, s, m, args, below, meth, c, A⟩ := C
  obtain ⟨hx, hb, hr, htz, hown, hlocks, hml, hE, hK, hA⟩ := X
  intro H locs ls hl hP hD hS
  have hl : lv_has ls 1 [(0, .ref (a 0))] := hl
  have hP : va_P (dC, dI) classes (mw k a f g) H := hP
  have hD : va_D A (mw k a f g) := hD
  show W p l e (z_rm 1 0 0) s m args below meth c H locs 0 0 _ (F0 m 11 ls [.int y0])
  exact W.zret (v := y0) (ty := .boolean) hx hb hr z_11 (fun t ht hW => ⟨⟨_, (f, g), rfl, q_11, by rw [ht]; exact hP, va_K.moved hW.alike hK, hD⟩, hS.F ht⟩) hS.2.2 d_Mo_isDigit_11
set_option maxHeartbeats 1000000 in
set_option maxRecDepth 100000 in
theorem e_Mo_isDigit (T : ST) (Post : Int32 → FT → GT → Prop) (f : FT) (g : GT) (h : ∀ C : CT, C.1 = T → cM C "QuestionTextModel" b_Mo_isDigit 1 (some .boolean) → zn_isDigit C Post 0 [(0, .ref (ad C.1 0))] [] f g) : mI T y_Mo_isDigit (Cond.code y_Mo_isDigit b_Mo_isDigit 1 (some .boolean)) 1 [.ref (ad T 0)] f g Post := by
  obtain ⟨l, dC, dI, k, a⟩ := T
  intro sz
  refine Met.ofW (cc := b_Mo_isDigit) (maxL := 1) (ret := (some .boolean)) (by decide) rfl ?_
  intro p e s m args below meth c s₁ B hml hv
  obtain ⟨rfl, hsz, hE, hP, hK, hD0⟩ := hv
  have hts := atoms_spec (ws := (Cond.code y_Mo_isDigit b_Mo_isDigit 1 (some .boolean)) :: z_T) B.pre
  have htz : ∀ w ∈ z_T, w.before _ s = true := fun w h => hts w (z_cons w h)
  subst hsz
  have hD := hD0.self (sz := s.heap.size)
  generalize hAe : va_A (mw k a f g) s.heap.size = A at hD hE ⊢
  have hA : ∀ q : Nat, s.heap.size ≤ q → A q := fun q h => by rw [← hAe]; exact Or.inr h
  have hl := lv_entry ([.ref (a 0)]) (n := 1) (Nat.le_of_ble_eq_true rfl)
  rw [lg_entry_eq]
  generalize (lg_sl ([.ref (a 0)]) ++ List.replicate (1 - (lg_sl ([.ref (a 0)])).length) Slot.unset).toArray = ls at hl ⊢
  exact h ((l, dC, dI, k, a), p, e, s, m, ([.ref (a 0)] : List Value).toArray, below, meth, c, A) rfl ⟨B.exec, B.bytes, B.returns, htz, findClass_of_methodNamed B.named, B.notSynchronized, hml, hE, hK, hA⟩ s.heap [] ls hl hP hD va_S.rf
def zn_number (C : CT) (Post : Int32 → FT → GT → Prop) (pc : Nat) (loc : List (Nat × Value)) (st : List Value) (f : FT) (g : GT) : Prop := zW C (z_rm 2 0 0) 4 (qI C Post) 0 0 pc loc st (mM C.1 f g)
set_option maxHeartbeats 1000000 in
set_option maxRecDepth 100000 in
theorem k_Mo_number_0 {C : CT} (X : cM C "QuestionTextModel" b_Mo_number 4 (some .int)) (Post : Int32 → FT → GT → Prop) {P_10 : Int32 → FT → GT → Prop} (x1 : Int32) (x2 : Int32) (f : FT) (g : GT)
    (m_10 : (f 6 < 0) → mI C.1 y_Mo_see (Cond.code y_Mo_see b_Mo_see 1 (some .int)) 1 [.ref (ad C.1 0)] f g P_10)
    (k_10 : (f 6 < 0) → ∀ (r : Int32) (f1 : FT) (g1 : GT), P_10 r f1 g1 → zn_number C Post 13 [(0, .ref (ad C.1 0)), (1, .int x1), (2, .int x2)] [.int r] f1 g1)
    (q_8 : (¬ f 6 < 0) → Post (x1) f g) : zn_number C Post 0 [(0, .ref (ad C.1 0)), (1, .int x1), (2, .int x2)] [] f g := by
  obtain ⟨⟨l, dC, dI, k, a⟩, p, e, s, m, args, below, meth, c, A⟩ := C
  obtain ⟨hx, hb, hr, htz, hown, hlocks, hml, hE, hK, hA⟩ := X
  intro H locs ls hl hP hD hS
  have hl : lv_has ls 4 [(0, .ref (a 0)), (1, .int x1), (2, .int x2)] := hl
  have hP : va_P (dC, dI) classes (mw k a f g) H := hP
  have hD : va_D A (mw k a f g) := hD
  show W p l e (z_rm 2 0 0) s m args below meth c H locs 0 0 _ (F0 m 0 ls [])
  refine lv_aload_n hx hb d_Mo_number_0 rfl (lv_at hl 0 rfl) ?_
  refine va_get (D := (dC, dI)) (ci := 4) (v := .int (f 6)) (C := R_Mo) (T := F_Mo) (N := 31) hx hb htz i_Mo hown hK hP 0 rfl rfl 19 (by decide) (htz _ kf_Mo_86) (fun _ h9 => h9) rfl d_Mo_number_1 ?_
  refine lv_if_lt (tgt := 9) hx hb d_Mo_number_4 (by decide) (fun c_4 => ?_) (fun c_4 => ?_)
  · refine lv_aload_n hx hb d_Mo_number_9 rfl (lv_at hl 0 rfl) ?_
    have hFc := va_free (wc := mw k a f g) hD hS hA [0, 1, 2, 3, 4, 5, 6, 7, 8, 9, 10, 11, 12, 13, 14, 15, 16, 17, 18] rfl
    refine va_calli (va_runV (As := []) (rest := []) ⟨hx, hb, hml, hown, htz⟩ ((m_10 c_4) H.size) (cwV 0 htz (z_gV (fun _ h => h) km_Mo_89 in_Mo_see se_Mo_see ini_Mo m_Mo_see) rfl rfl rfl (by decide +kernel) ⟨(Nat.le_of_ble_eq_true rfl), (Nat.le_of_ble_eq_true rfl)⟩) ⟨z_blind, va_recv hK hP (ci := 4) (q0 := 0) rfl rfl, fun U hU hW => ⟨rfl, by rw [hU], hE.call hS hFc hU hW, by rw [hU]; exact hP, va_K.moved hW.alike hK, hD.weaken (fun _ _ _ _ => trivial)⟩⟩ rfl rfl hl.1 rfl (lv_room (Nat.le_of_ble_eq_true rfl)) d_Mo_number_10 ⟨(Nat.le_of_ble_eq_true rfl), (Nat.le_of_ble_eq_true rfl)⟩) hS (fun q _ h => hFc q h) hFc (fun r u t H1 locs ht hvm hw hB hz1 hk1 hS => ?_)
    obtain ⟨hP1, hK1, hD1⟩ := hB
    rw [ht] at hP1
    exact (k_10 c_4) r _ _ hw H1 locs ls (lv_sub hl [0, 1, 2] rfl) hP1 (hD1.weaken (fun _ q _ h => hFc _ h)) hS
  · refine lv_iload_n hx hb d_Mo_number_7 rfl (lv_at hl 1 rfl) ?_
    exact W.iret (v := x1) hx hb hr (fun t ht hW => ⟨⟨_, (f, g), rfl, (q_8 c_4), by rw [ht]; exact hP, va_K.moved hW.alike hK, hD⟩, hS.F ht⟩) hS.2.2 d_Mo_number_8
set_option maxHeartbeats 1000000 in
set_option maxRecDepth 100000 in
theorem k_Mo_number_13 {C : CT} (X : cM C "QuestionTextModel" b_Mo_number 4 (some .int)) (Post : Int32 → FT → GT → Prop) {P_15 : Int32 → FT → GT → Prop} (x1 : Int32) (x2 : Int32) (y0 : Int32) (f : FT) (g : GT)
    (m_15 : mI C.1 y_Mo_isDigit (Cond.code y_Mo_isDigit b_Mo_isDigit 1 (some .boolean)) 1 [.ref (ad C.1 0)] f g P_15)
    (k_15 : ∀ (r : Int32) (f1 : FT) (g1 : GT), P_15 r f1 g1 → zn_number C Post 18 [(0, .ref (ad C.1 0)), (1, .int x1), (2, .int x2)] [.int r] f1 g1) : zn_number C Post 13 [(0, .ref (ad C.1 0)), (1, .int x1), (2, .int x2)] [.int y0] f g := by
  obtain ⟨⟨l, dC, dI, k, a⟩, p, e, s, m, args, below, meth, c, A⟩ := C
  obtain ⟨hx, hb, hr, htz, hown, hlocks, hml, hE, hK, hA⟩ := X
  intro H locs ls hl hP hD hS
  have hl : lv_has ls 4 [(0, .ref (a 0)), (1, .int x1), (2, .int x2)] := hl
  have hP : va_P (dC, dI) classes (mw k a f g) H := hP
  have hD : va_D A (mw k a f g) := hD
  show W p l e (z_rm 2 0 0) s m args below meth c H locs 0 0 _ (F0 m 13 ls [.int y0])
  refine lv_pop hx hb d_Mo_number_13 rfl ?_
  refine lv_aload_n hx hb d_Mo_number_14 rfl (lv_at hl 0 rfl) ?_
  have hFc := va_free (wc := mw k a f g) hD hS hA [0, 1, 2, 3, 4, 5, 6, 7, 8, 9, 10, 11, 12, 13, 14, 15, 16, 17, 18] rfl
  refine va_calli (va_runV (As := []) (rest := []) ⟨hx, hb, hml, hown, htz⟩ (m_15 H.size) (cwV 0 htz (z_gV (fun _ h => h) km_Mo_96 in_Mo_isDigit se_Mo_isDigit ini_Mo m_Mo_isDigit) rfl rfl rfl (by decide +kernel) ⟨(Nat.le_of_ble_eq_true rfl), (Nat.le_of_ble_eq_true rfl)⟩) ⟨z_blind, va_recv hK hP (ci := 4) (q0 := 0) rfl rfl, fun U hU hW => ⟨rfl, by rw [hU], hE.call hS hFc hU hW, by rw [hU]; exact hP, va_K.moved hW.alike hK, hD.weaken (fun _ _ _ _ => trivial)⟩⟩ rfl rfl hl.1 rfl (lv_room (Nat.le_of_ble_eq_true rfl)) d_Mo_number_15 ⟨(Nat.le_of_ble_eq_true rfl), (Nat.le_of_ble_eq_true rfl)⟩) hS (fun q _ h => hFc q h) hFc (fun r u t H1 locs ht hvm hw hB hz1 hk1 hS => ?_)
  obtain ⟨hP1, hK1, hD1⟩ := hB
  rw [ht] at hP1
  exact k_15 r _ _ hw H1 locs ls (lv_sub hl [0, 1, 2] rfl) hP1 (hD1.weaken (fun _ q _ h => hFc _ h)) hS
set_option maxHeartbeats 1000000 in
set_option maxRecDepth 100000 in
theorem k_Mo_number_18 {C : CT} (X : cM C "QuestionTextModel" b_Mo_number 4 (some .int)) (Post : Int32 → FT → GT → Prop) {P_26 : FT → GT → Prop} (x1 : Int32) (x2 : Int32) (y0 : Int32) (f : FT) (g : GT)
    (k_29 : (¬ y0 = 0) → zn_number C Post 29 [(0, .ref (ad C.1 0)), (1, .int x1), (2, .int x2)] [] f g)
    (m_26 : (y0 = 0) → mV C.1 y_Mo_fail (Cond.code y_Mo_fail b_Mo_fail 2 none) 0 [.ref (ad C.1 0), .int (f 5)] f g P_26)
    (k_26 : (y0 = 0) → ∀ (f1 : FT) (g1 : GT), P_26 f1 g1 → zn_number C Post 29 [(0, .ref (ad C.1 0)), (1, .int x1), (2, .int x2)] [] f1 g1) : zn_number C Post 18 [(0, .ref (ad C.1 0)), (1, .int x1), (2, .int x2)] [.int y0] f g := by
  obtain ⟨⟨l, dC, dI, k, a⟩, p, e, s, m, args, below, meth, c, A⟩ := C
  obtain ⟨hx, hb, hr, htz, hown, hlocks, hml, hE, hK, hA⟩ := X
  intro H locs ls hl hP hD hS
  have hl : lv_has ls 4 [(0, .ref (a 0)), (1, .int x1), (2, .int x2)] := hl
  have hP : va_P (dC, dI) classes (mw k a f g) H := hP
  have hD : va_D A (mw k a f g) := hD
  show W p l e (z_rm 2 0 0) s m args below meth c H locs 0 0 _ (F0 m 18 ls [.int y0])
  refine lv_if_ne (tgt := 29) hx hb d_Mo_number_18 (by decide) (fun c_18 => ?_) (fun c_18 => ?_)
  · exact (k_29 c_18) H locs ls (lv_sub hl [0, 1, 2] rfl) hP hD hS
  · refine lv_aload_n hx hb d_Mo_number_21 rfl (lv_at hl 0 rfl) ?_
    refine lv_aload_n hx hb d_Mo_number_22 rfl (lv_at hl 0 rfl) ?_
    refine va_get (D := (dC, dI)) (ci := 4) (v := .int (f 5)) (C := R_Mo) (T := F_Mo) (N := 31) hx hb htz i_Mo hown hK hP 0 rfl rfl 18 (by decide) (htz _ kf_Mo_79) (fun _ h9 => h9) rfl d_Mo_number_23 ?_
    have hFc := va_free (wc := mw k a f g) hD hS hA [0, 1, 2, 3, 4, 5, 6, 7, 8, 9, 10, 11, 12, 13, 14, 15, 16, 17, 18] rfl
    refine va_callv (va_runV (As := [.int (f 5)]) (rest := []) ⟨hx, hb, hml, hown, htz⟩ ((m_26 c_18) H.size) (cwV 1 htz (z_gV (fun _ h => h) km_Mo_92 in_Mo_fail se_Mo_fail ini_Mo m_Mo_fail) rfl rfl rfl (by decide +kernel) ⟨(Nat.le_of_ble_eq_true rfl), (Nat.le_of_ble_eq_true rfl)⟩) ⟨z_blind, va_recv hK hP (ci := 4) (q0 := 0) rfl rfl, fun U hU hW => ⟨rfl, by rw [hU], hE.call hS hFc hU hW, by rw [hU]; exact hP, va_K.moved hW.alike hK, hD.weaken (fun _ _ _ _ => trivial)⟩⟩ rfl rfl hl.1 rfl (lv_room (Nat.le_of_ble_eq_true rfl)) d_Mo_number_26 ⟨(Nat.le_of_ble_eq_true rfl), (Nat.le_of_ble_eq_true rfl)⟩) hS (fun q _ h => hFc q h) hFc (fun u t H1 locs ht hvm hw hB hz1 hk1 hS => ?_)
    obtain ⟨hP1, hK1, hD1⟩ := hB
    rw [ht] at hP1
    exact (k_26 c_18) _ _ hw H1 locs ls (lv_sub hl [0, 1, 2] rfl) hP1 (hD1.weaken (fun _ q _ h => hFc _ h)) hS
set_option maxHeartbeats 1000000 in
set_option maxRecDepth 100000 in
theorem k_Mo_number_29 {C : CT} (X : cM C "QuestionTextModel" b_Mo_number 4 (some .int)) (Post : Int32 → FT → GT → Prop) (x1 : Int32) (x2 : Int32) (f : FT) (g : GT)
    (k_36 : zn_number C Post 36 [(0, .ref (ad C.1 0)), (1, .int x1), (2, .int x2), (3, .int 0)] [] (va_up f 7 0) g) : zn_number C Post 29 [(0, .ref (ad C.1 0)), (1, .int x1), (2, .int x2)] [] f g := by
  obtain ⟨⟨l, dC, dI, k, a⟩, p, e, s, m, args, below, meth, c, A⟩ := C
  obtain ⟨hx, hb, hr, htz, hown, hlocks, hml, hE, hK, hA⟩ := X
  intro H locs ls hl hP hD hS
  have hl : lv_has ls 4 [(0, .ref (a 0)), (1, .int x1), (2, .int x2)] := hl
  have hP : va_P (dC, dI) classes (mw k a f g) H := hP
  have hD : va_D A (mw k a f g) := hD
  show W p l e (z_rm 2 0 0) s m args below meth c H locs 0 0 _ (F0 m 29 ls [])
  refine lv_iconst (v := 0) hx hb d_Mo_number_29 (by decide) ?_
  refine lv_istore_n (lv' := [(3, .int 0), (0, .ref (a 0)), (1, .int x1), (2, .int x2)]) hx hb d_Mo_number_30 rfl hl (by decide) rfl (fun ls hl => ?_)
  refine lv_aload_n hx hb d_Mo_number_31 rfl (lv_at hl 1 rfl) ?_
  refine lv_iconst (v := 0) hx hb d_Mo_number_32 (by decide) ?_
  refine va_put (D := (dC, dI)) (ci := 4) (v := .int 0) (ty := .int) (C := R_Mo) (T := F_Mo) (N := 31) hx hb htz i_Mo t_Mo o_Mo n_Mo hown hK hP hD hS 0 rfl rfl 20 (by decide) (htz _ kf_Mo_100) (fun _ h9 => h9) rfl (by decide +kernel) rfl rfl (Nat.le_of_ble_eq_true rfl) d_Mo_number_33 (fun H locs hP hD hS => ?_)
  replace hP := mf_7 (v := 0) hP
  replace hD := md_7 (v := 0) hD
  exact k_36 H locs ls (lv_sub hl [1, 2, 3, 0] rfl) hP hD hS
set_option maxHeartbeats 1000000 in
set_option maxRecDepth 100000 in
theorem k_Mo_number_36 {C : CT} (X : cM C "QuestionTextModel" b_Mo_number 4 (some .int)) (Post : Int32 → FT → GT → Prop) {P_37 : Int32 → FT → GT → Prop} (x1 : Int32) (x2 : Int32) (x3 : Int32) (f : FT) (g : GT)
    (m_37 : mI C.1 y_Mo_isDigit (Cond.code y_Mo_isDigit b_Mo_isDigit 1 (some .boolean)) 1 [.ref (ad C.1 0)] f g P_37)
    (k_37 : ∀ (r : Int32) (f1 : FT) (g1 : GT), P_37 r f1 g1 → zn_number C Post 40 [(0, .ref (ad C.1 0)), (1, .int x1), (2, .int x2), (3, .int x3)] [.int r] f1 g1) : zn_number C Post 36 [(0, .ref (ad C.1 0)), (1, .int x1), (2, .int x2), (3, .int x3)] [] f g := by
  obtain ⟨⟨l, dC, dI, k, a⟩, p, e, s, m, args, below, meth, c, A⟩ := C
  obtain ⟨hx, hb, hr, htz, hown, hlocks, hml, hE, hK, hA⟩ := X
  intro H locs ls hl hP hD hS
  have hl : lv_has ls 4 [(0, .ref (a 0)), (1, .int x1), (2, .int x2), (3, .int x3)] := hl
  have hP : va_P (dC, dI) classes (mw k a f g) H := hP
  have hD : va_D A (mw k a f g) := hD
  show W p l e (z_rm 2 0 0) s m args below meth c H locs 0 0 _ (F0 m 36 ls [])
  refine lv_aload_n hx hb d_Mo_number_36 rfl (lv_at hl 0 rfl) ?_
  have hFc := va_free (wc := mw k a f g) hD hS hA [0, 1, 2, 3, 4, 5, 6, 7, 8, 9, 10, 11, 12, 13, 14, 15, 16, 17, 18] rfl
  refine va_calli (va_runV (As := []) (rest := []) ⟨hx, hb, hml, hown, htz⟩ (m_37 H.size) (cwV 0 htz (z_gV (fun _ h => h) km_Mo_96 in_Mo_isDigit se_Mo_isDigit ini_Mo m_Mo_isDigit) rfl rfl rfl (by decide +kernel) ⟨(Nat.le_of_ble_eq_true rfl), (Nat.le_of_ble_eq_true rfl)⟩) ⟨z_blind, va_recv hK hP (ci := 4) (q0 := 0) rfl rfl, fun U hU hW => ⟨rfl, by rw [hU], hE.call hS hFc hU hW, by rw [hU]; exact hP, va_K.moved hW.alike hK, hD.weaken (fun _ _ _ _ => trivial)⟩⟩ rfl rfl hl.1 rfl (lv_room (Nat.le_of_ble_eq_true rfl)) d_Mo_number_37 ⟨(Nat.le_of_ble_eq_true rfl), (Nat.le_of_ble_eq_true rfl)⟩) hS (fun q _ h => hFc q h) hFc (fun r u t H1 locs ht hvm hw hB hz1 hk1 hS => ?_)
  obtain ⟨hP1, hK1, hD1⟩ := hB
  rw [ht] at hP1
  exact k_37 r _ _ hw H1 locs ls (lv_sub hl [0, 1, 2, 3] rfl) hP1 (hD1.weaken (fun _ q _ h => hFc _ h)) hS
set_option maxHeartbeats 1000000 in
set_option maxRecDepth 100000 in
theorem k_Mo_number_40 {C : CT} (X : cM C "QuestionTextModel" b_Mo_number 4 (some .int)) (Post : Int32 → FT → GT → Prop) (x1 : Int32) (x2 : Int32) (x3 : Int32) (y0 : Int32) (f : FT) (g : GT)
    (k_98 : (y0 = 0) → zn_number C Post 98 [(0, .ref (ad C.1 0)), (1, .int x1), (2, .int x2), (3, .int x3)] [] f g)
    (k_98_1 : (¬ y0 = 0) → (4 ≤ f 7) → zn_number C Post 98 [(0, .ref (ad C.1 0)), (1, .int x1), (2, .int x2), (3, .int x3)] [] f g)
    (k_62 : (¬ y0 = 0) → (¬ 4 ≤ f 7) → (f 7 = 0) → zn_number C Post 62 [(0, .ref (ad C.1 0)), (1, .int x1), (2, .int x2), (3, .int x3)] [] f g)
    (k_98_2 : (¬ y0 = 0) → (¬ 4 ≤ f 7) → (¬ f 7 = 0) → (x3 ≤ 0) → zn_number C Post 98 [(0, .ref (ad C.1 0)), (1, .int x1), (2, .int x2), (3, .int x3)] [] f g)
    (k_62_1 : (¬ y0 = 0) → (¬ 4 ≤ f 7) → (¬ f 7 = 0) → (¬ x3 ≤ 0) → zn_number C Post 62 [(0, .ref (ad C.1 0)), (1, .int x1), (2, .int x2), (3, .int x3)] [] f g) : zn_number C Post 40 [(0, .ref (ad C.1 0)), (1, .int x1), (2, .int x2), (3, .int x3)] [.int y0] f g := by
  obtain ⟨⟨l, dC, dI, k, a⟩, p, e, s, m, args, below, meth, c, A⟩ := C
  obtain ⟨hx, hb, hr, htz, hown, hlocks, hml, hE, hK, hA⟩ := X
  intro H locs ls hl hP hD hS
  have hl : lv_has ls 4 [(0, .ref (a 0)), (1, .int x1), (2, .int x2), (3, .int x3)] := hl
  have hP : va_P (dC, dI) classes (mw k a f g) H := hP
  have hD : va_D A (mw k a f g) := hD
  show W p l e (z_rm 2 0 0) s m args below meth c H locs 0 0 _ (F0 m 40 ls [.int y0])
  refine lv_if_eq (tgt := 98) hx hb d_Mo_number_40 (by decide) (fun c_40 => ?_) (fun c_40 => ?_)
  · exact (k_98 c_40) H locs ls (lv_sub hl [0, 1, 2, 3] rfl) hP hD hS
  · refine lv_aload_n hx hb d_Mo_number_43 rfl (lv_at hl 0 rfl) ?_
    refine va_get (D := (dC, dI)) (ci := 4) (v := .int (f 7)) (C := R_Mo) (T := F_Mo) (N := 31) hx hb htz i_Mo hown hK hP 0 rfl rfl 20 (by decide) (htz _ kf_Mo_100) (fun _ h9 => h9) rfl d_Mo_number_44 ?_
    refine lv_iconst (v := 4) hx hb d_Mo_number_47 (by decide) ?_
    refine lv_icmp_ge (tgt := 98) hx hb d_Mo_number_48 (by decide) (fun c_48 => ?_) (fun c_48 => ?_)
    · exact (k_98_1 c_40 c_48) H locs ls (lv_sub hl [0, 1, 2, 3] rfl) hP hD hS
    · refine lv_aload_n hx hb d_Mo_number_51 rfl (lv_at hl 0 rfl) ?_
      refine va_get (D := (dC, dI)) (ci := 4) (v := .int (f 7)) (C := R_Mo) (T := F_Mo) (N := 31) hx hb htz i_Mo hown hK hP 0 rfl rfl 20 (by decide) (htz _ kf_Mo_100) (fun _ h9 => h9) rfl d_Mo_number_52 ?_
      refine lv_if_eq (tgt := 62) hx hb d_Mo_number_55 (by decide) (fun c_55 => ?_) (fun c_55 => ?_)
      · exact (k_62 c_40 c_48 c_55) H locs ls (lv_sub hl [0, 1, 2, 3] rfl) hP hD hS
      · refine lv_iload_n hx hb d_Mo_number_58 rfl (lv_at hl 3 rfl) ?_
        refine lv_if_le (tgt := 98) hx hb d_Mo_number_59 (by decide) (fun c_59 => ?_) (fun c_59 => ?_)
        · exact (k_98_2 c_40 c_48 c_55 c_59) H locs ls (lv_sub hl [0, 1, 2, 3] rfl) hP hD hS
        · exact (k_62_1 c_40 c_48 c_55 c_59) H locs ls (lv_sub hl [0, 1, 2, 3] rfl) hP hD hS
set_option maxHeartbeats 1000000 in
set_option maxRecDepth 100000 in
theorem k_Mo_number_62 {C : CT} (X : cM C "QuestionTextModel" b_Mo_number 4 (some .int)) (Post : Int32 → FT → GT → Prop) {P_67 : Int32 → FT → GT → Prop} (x1 : Int32) (x2 : Int32) (x3 : Int32) (f : FT) (g : GT)
    (m_67 : mI C.1 y_Mo_here (Cond.code y_Mo_here b_Mo_here 1 (some .int)) 0 [.ref (ad C.1 0)] f g P_67)
    (k_67 : ∀ (r : Int32) (f1 : FT) (g1 : GT), P_67 r f1 g1 → zn_number C Post 70 [(0, .ref (ad C.1 0)), (1, .int x1), (2, .int x2), (3, .int x3)] [.int r, .int (10 * x3)] f1 g1) : zn_number C Post 62 [(0, .ref (ad C.1 0)), (1, .int x1), (2, .int x2), (3, .int x3)] [] f g := by
  obtain ⟨⟨l, dC, dI, k, a⟩, p, e, s, m, args, below, meth, c, A⟩ := C
  obtain ⟨hx, hb, hr, htz, hown, hlocks, hml, hE, hK, hA⟩ := X
  intro H locs ls hl hP hD hS
  have hl : lv_has ls 4 [(0, .ref (a 0)), (1, .int x1), (2, .int x2), (3, .int x3)] := hl
  have hP : va_P (dC, dI) classes (mw k a f g) H := hP
  have hD : va_D A (mw k a f g) := hD
  show W p l e (z_rm 2 0 0) s m args below meth c H locs 0 0 _ (F0 m 62 ls [])
  refine lv_bipush (v := 10) hx hb d_Mo_number_62 (by decide) ?_
  refine lv_iload_n hx hb d_Mo_number_64 rfl (lv_at hl 3 rfl) ?_
  refine lv_imul hx hb d_Mo_number_65 ?_
  refine lv_aload_n hx hb d_Mo_number_66 rfl (lv_at hl 0 rfl) ?_
  have hFc := va_free (wc := mw k a f g) hD hS hA [0, 1, 2, 3, 4, 5, 6, 7, 8, 9, 10, 11, 12, 13, 14, 15, 16, 17, 18] rfl
  refine va_calli (va_runV (As := []) (rest := [.int (10 * x3)]) ⟨hx, hb, hml, hown, htz⟩ (m_67 H.size) (cwV 0 htz (z_gV (fun _ h => h) km_Mo_82 in_Mo_here se_Mo_here ini_Mo m_Mo_here) rfl rfl rfl (by decide +kernel) ⟨(Nat.le_of_ble_eq_true rfl), (Nat.le_of_ble_eq_true rfl)⟩) ⟨z_blind, va_recv hK hP (ci := 4) (q0 := 0) rfl rfl, fun U hU hW => ⟨rfl, by rw [hU], hE.call hS hFc hU hW, by rw [hU]; exact hP, va_K.moved hW.alike hK, hD.weaken (fun _ _ _ _ => trivial)⟩⟩ rfl rfl hl.1 rfl (lv_room (Nat.le_of_ble_eq_true rfl)) d_Mo_number_67 ⟨(Nat.le_of_ble_eq_true rfl), (Nat.le_of_ble_eq_true rfl)⟩) hS (fun q _ h => hFc q h) hFc (fun r u t H1 locs ht hvm hw hB hz1 hk1 hS => ?_)
  obtain ⟨hP1, hK1, hD1⟩ := hB
  rw [ht] at hP1
  exact k_67 r _ _ hw H1 locs ls (lv_sub hl [0, 1, 2, 3] rfl) hP1 (hD1.weaken (fun _ q _ h => hFc _ h)) hS
set_option maxHeartbeats 1000000 in
set_option maxRecDepth 100000 in
theorem k_Mo_number_70 {C : CT} (X : cM C "QuestionTextModel" b_Mo_number 4 (some .int)) (Post : Int32 → FT → GT → Prop) (x1 : Int32) (x2 : Int32) (x3 : Int32) (y0 : Int32) (y1 : Int32) (f : FT) (g : GT)
    (k_36 : zn_number C Post 36 [(0, .ref (ad C.1 0)), (1, .int x1), (2, .int x2), (3, .int ((y1 + y0) - 48))] [] (va_up (va_up f 7 ((f 7) + 1)) 5 ((f 5) + 1)) g) : zn_number C Post 70 [(0, .ref (ad C.1 0)), (1, .int x1), (2, .int x2), (3, .int x3)] [.int y0, .int y1] f g := by
  obtain ⟨⟨l, dC, dI, k, a⟩, p, e, s, m, args, below, meth, c, A⟩ := C
  obtain ⟨hx, hb, hr, htz, hown, hlocks, hml, hE, hK, hA⟩ := X
  intro H locs ls hl hP hD hS
  have hl : lv_has ls 4 [(0, .ref (a 0)), (1, .int x1), (2, .int x2), (3, .int x3)] := hl
  have hP : va_P (dC, dI) classes (mw k a f g) H := hP
  have hD : va_D A (mw k a f g) := hD
  show W p l e (z_rm 2 0 0) s m args below meth c H locs 0 0 _ (F0 m 70 ls [.int y0, .int y1])
  refine lv_iadd hx hb d_Mo_number_70 ?_
  refine lv_bipush (v := 48) hx hb d_Mo_number_71 (by decide) ?_
  refine lv_isub hx hb d_Mo_number_73 ?_
  refine lv_istore_n (lv' := [(3, .int ((y1 + y0) - 48)), (0, .ref (a 0)), (1, .int x1), (2, .int x2)]) hx hb d_Mo_number_74 rfl hl (by decide) rfl (fun ls hl => ?_)
  refine lv_aload_n hx hb d_Mo_number_75 rfl (lv_at hl 1 rfl) ?_
  refine lv_dup hx hb d_Mo_number_76 rfl ?_
  refine va_get (D := (dC, dI)) (ci := 4) (v := .int (f 7)) (C := R_Mo) (T := F_Mo) (N := 31) hx hb htz i_Mo hown hK hP 0 rfl rfl 20 (by decide) (htz _ kf_Mo_100) (fun _ h9 => h9) rfl d_Mo_number_77 ?_
  refine lv_iconst (v := 1) hx hb d_Mo_number_80 (by decide) ?_
  refine lv_iadd hx hb d_Mo_number_81 ?_
  refine va_put (D := (dC, dI)) (ci := 4) (v := .int ((f 7) + 1)) (ty := .int) (C := R_Mo) (T := F_Mo) (N := 31) hx hb htz i_Mo t_Mo o_Mo n_Mo hown hK hP hD hS 0 rfl rfl 20 (by decide) (htz _ kf_Mo_100) (fun _ h9 => h9) rfl (by decide +kernel) rfl rfl (Nat.le_of_ble_eq_true rfl) d_Mo_number_82 (fun H locs hP hD hS => ?_)
  replace hP := mf_7 (v := (f 7) + 1) hP
  replace hD := md_7 (v := (f 7) + 1) hD
  refine lv_aload_n hx hb d_Mo_number_85 rfl (lv_at hl 1 rfl) ?_
  refine lv_dup hx hb d_Mo_number_86 rfl ?_
  refine va_get (D := (dC, dI)) (ci := 4) (v := .int (f 5)) (C := R_Mo) (T := F_Mo) (N := 31) hx hb htz i_Mo hown hK hP 0 rfl rfl 18 (by decide) (htz _ kf_Mo_79) (fun _ h9 => h9) rfl d_Mo_number_87 ?_
  refine lv_iconst (v := 1) hx hb d_Mo_number_90 (by decide) ?_
  refine lv_iadd hx hb d_Mo_number_91 ?_
  refine va_put (D := (dC, dI)) (ci := 4) (v := .int ((f 5) + 1)) (ty := .int) (C := R_Mo) (T := F_Mo) (N := 31) hx hb htz i_Mo t_Mo o_Mo n_Mo hown hK hP hD hS 0 rfl rfl 18 (by decide) (htz _ kf_Mo_79) (fun _ h9 => h9) rfl (by decide +kernel) rfl rfl (Nat.le_of_ble_eq_true rfl) d_Mo_number_92 (fun H locs hP hD hS => ?_)
  replace hP := mf_5 (v := (f 5) + 1) hP
  replace hD := md_5 (v := (f 5) + 1) hD
  refine lv_goto (tgt := 36) hx hb d_Mo_number_95 (by decide) ?_
  exact k_36 H locs ls (lv_sub hl [1, 2, 3, 0] rfl) hP hD hS
set_option maxHeartbeats 1000000 in
set_option maxRecDepth 100000 in
theorem k_Mo_number_98 {C : CT} (X : cM C "QuestionTextModel" b_Mo_number 4 (some .int)) (Post : Int32 → FT → GT → Prop) {P_107 : Int32 → FT → GT → Prop} (x1 : Int32) (x2 : Int32) (x3 : Int32) (f : FT) (g : GT)
    (k_121 : (¬ f 7 = 4) → zn_number C Post 121 [(0, .ref (ad C.1 0)), (1, .int x1), (2, .int x2), (3, .int x3)] [] f g)
    (m_107 : (f 7 = 4) → mI C.1 y_Mo_isDigit (Cond.code y_Mo_isDigit b_Mo_isDigit 1 (some .boolean)) 1 [.ref (ad C.1 0)] f g P_107)
    (k_107 : (f 7 = 4) → ∀ (r : Int32) (f1 : FT) (g1 : GT), P_107 r f1 g1 → zn_number C Post 110 [(0, .ref (ad C.1 0)), (1, .int x1), (2, .int x2), (3, .int x3)] [.int r] f1 g1) : zn_number C Post 98 [(0, .ref (ad C.1 0)), (1, .int x1), (2, .int x2), (3, .int x3)] [] f g := by
  obtain ⟨⟨l, dC, dI, k, a⟩, p, e, s, m, args, below, meth, c, A⟩ := C
  obtain ⟨hx, hb, hr, htz, hown, hlocks, hml, hE, hK, hA⟩ := X
  intro H locs ls hl hP hD hS
  have hl : lv_has ls 4 [(0, .ref (a 0)), (1, .int x1), (2, .int x2), (3, .int x3)] := hl
  have hP : va_P (dC, dI) classes (mw k a f g) H := hP
  have hD : va_D A (mw k a f g) := hD
  show W p l e (z_rm 2 0 0) s m args below meth c H locs 0 0 _ (F0 m 98 ls [])
  refine lv_aload_n hx hb d_Mo_number_98 rfl (lv_at hl 0 rfl) ?_
  refine va_get (D := (dC, dI)) (ci := 4) (v := .int (f 7)) (C := R_Mo) (T := F_Mo) (N := 31) hx hb htz i_Mo hown hK hP 0 rfl rfl 20 (by decide) (htz _ kf_Mo_100) (fun _ h9 => h9) rfl d_Mo_number_99 ?_
  refine lv_iconst (v := 4) hx hb d_Mo_number_102 (by decide) ?_
  refine lv_icmp_ne (tgt := 121) hx hb d_Mo_number_103 (by decide) (fun c_103 => ?_) (fun c_103 => ?_)
  · exact (k_121 c_103) H locs ls (lv_sub hl [0, 1, 2, 3] rfl) hP hD hS
  · refine lv_aload_n hx hb d_Mo_number_106 rfl (lv_at hl 0 rfl) ?_
    have hFc := va_free (wc := mw k a f g) hD hS hA [0, 1, 2, 3, 4, 5, 6, 7, 8, 9, 10, 11, 12, 13, 14, 15, 16, 17, 18] rfl
    refine va_calli (va_runV (As := []) (rest := []) ⟨hx, hb, hml, hown, htz⟩ ((m_107 c_103) H.size) (cwV 0 htz (z_gV (fun _ h => h) km_Mo_96 in_Mo_isDigit se_Mo_isDigit ini_Mo m_Mo_isDigit) rfl rfl rfl (by decide +kernel) ⟨(Nat.le_of_ble_eq_true rfl), (Nat.le_of_ble_eq_true rfl)⟩) ⟨z_blind, va_recv hK hP (ci := 4) (q0 := 0) rfl rfl, fun U hU hW => ⟨rfl, by rw [hU], hE.call hS hFc hU hW, by rw [hU]; exact hP, va_K.moved hW.alike hK, hD.weaken (fun _ _ _ _ => trivial)⟩⟩ rfl rfl hl.1 rfl (lv_room (Nat.le_of_ble_eq_true rfl)) d_Mo_number_107 ⟨(Nat.le_of_ble_eq_true rfl), (Nat.le_of_ble_eq_true rfl)⟩) hS (fun q _ h => hFc q h) hFc (fun r u t H1 locs ht hvm hw hB hz1 hk1 hS => ?_)
    obtain ⟨hP1, hK1, hD1⟩ := hB
    rw [ht] at hP1
    exact (k_107 c_103) r _ _ hw H1 locs ls (lv_sub hl [0, 1, 2, 3] rfl) hP1 (hD1.weaken (fun _ q _ h => hFc _ h)) hS
set_option maxHeartbeats 1000000 in
set_option maxRecDepth 100000 in
theorem k_Mo_number_110 {C : CT} (X : cM C "QuestionTextModel" b_Mo_number 4 (some .int)) (Post : Int32 → FT → GT → Prop) {P_118 : FT → GT → Prop} (x1 : Int32) (x2 : Int32) (x3 : Int32) (y0 : Int32) (f : FT) (g : GT)
    (k_121 : (y0 = 0) → zn_number C Post 121 [(0, .ref (ad C.1 0)), (1, .int x1), (2, .int x2), (3, .int x3)] [] f g)
    (m_118 : (¬ y0 = 0) → mV C.1 y_Mo_fail (Cond.code y_Mo_fail b_Mo_fail 2 none) 0 [.ref (ad C.1 0), .int (f 5)] f g P_118)
    (k_118 : (¬ y0 = 0) → ∀ (f1 : FT) (g1 : GT), P_118 f1 g1 → zn_number C Post 121 [(0, .ref (ad C.1 0)), (1, .int x1), (2, .int x2), (3, .int x3)] [] f1 g1) : zn_number C Post 110 [(0, .ref (ad C.1 0)), (1, .int x1), (2, .int x2), (3, .int x3)] [.int y0] f g := by
  obtain ⟨⟨l, dC, dI, k, a⟩, p, e, s, m, args, below, meth, c, A⟩ := C
  obtain ⟨hx, hb, hr, htz, hown, hlocks, hml, hE, hK, hA⟩ := X
  intro H locs ls hl hP hD hS
  have hl : lv_has ls 4 [(0, .ref (a 0)), (1, .int x1), (2, .int x2), (3, .int x3)] := hl
  have hP : va_P (dC, dI) classes (mw k a f g) H := hP
  have hD : va_D A (mw k a f g) := hD
  show W p l e (z_rm 2 0 0) s m args below meth c H locs 0 0 _ (F0 m 110 ls [.int y0])
  refine lv_if_eq (tgt := 121) hx hb d_Mo_number_110 (by decide) (fun c_110 => ?_) (fun c_110 => ?_)
  · exact (k_121 c_110) H locs ls (lv_sub hl [0, 1, 2, 3] rfl) hP hD hS
  · refine lv_aload_n hx hb d_Mo_number_113 rfl (lv_at hl 0 rfl) ?_
    refine lv_aload_n hx hb d_Mo_number_114 rfl (lv_at hl 0 rfl) ?_
    refine va_get (D := (dC, dI)) (ci := 4) (v := .int (f 5)) (C := R_Mo) (T := F_Mo) (N := 31) hx hb htz i_Mo hown hK hP 0 rfl rfl 18 (by decide) (htz _ kf_Mo_79) (fun _ h9 => h9) rfl d_Mo_number_115 ?_
    have hFc := va_free (wc := mw k a f g) hD hS hA [0, 1, 2, 3, 4, 5, 6, 7, 8, 9, 10, 11, 12, 13, 14, 15, 16, 17, 18] rfl
    refine va_callv (va_runV (As := [.int (f 5)]) (rest := []) ⟨hx, hb, hml, hown, htz⟩ ((m_118 c_110) H.size) (cwV 1 htz (z_gV (fun _ h => h) km_Mo_92 in_Mo_fail se_Mo_fail ini_Mo m_Mo_fail) rfl rfl rfl (by decide +kernel) ⟨(Nat.le_of_ble_eq_true rfl), (Nat.le_of_ble_eq_true rfl)⟩) ⟨z_blind, va_recv hK hP (ci := 4) (q0 := 0) rfl rfl, fun U hU hW => ⟨rfl, by rw [hU], hE.call hS hFc hU hW, by rw [hU]; exact hP, va_K.moved hW.alike hK, hD.weaken (fun _ _ _ _ => trivial)⟩⟩ rfl rfl hl.1 rfl (lv_room (Nat.le_of_ble_eq_true rfl)) d_Mo_number_118 ⟨(Nat.le_of_ble_eq_true rfl), (Nat.le_of_ble_eq_true rfl)⟩) hS (fun q _ h => hFc q h) hFc (fun u t H1 locs ht hvm hw hB hz1 hk1 hS => ?_)
    obtain ⟨hP1, hK1, hD1⟩ := hB
    rw [ht] at hP1
    exact (k_118 c_110) _ _ hw H1 locs ls (lv_sub hl [0, 1, 2, 3] rfl) hP1 (hD1.weaken (fun _ q _ h => hFc _ h)) hS
set_option maxHeartbeats 1000000 in
set_option maxRecDepth 100000 in
theorem k_Mo_number_121 {C : CT} (X : cM C "QuestionTextModel" b_Mo_number 4 (some .int)) (Post : Int32 → FT → GT → Prop) {P_124 : Int32 → FT → GT → Prop} (x1 : Int32) (x2 : Int32) (x3 : Int32) (f : FT) (g : GT)
    (m_124 : mI C.1 y_Mo_in (Cond.code y_Mo_in b_Mo_in 3 (some .boolean)) 0 [.int x3, .int x1, .int x2] f g P_124)
    (k_124 : ∀ (r : Int32) (f1 : FT) (g1 : GT), P_124 r f1 g1 → zn_number C Post 127 [(0, .ref (ad C.1 0)), (1, .int x1), (2, .int x2), (3, .int x3)] [.int r] f1 g1) : zn_number C Post 121 [(0, .ref (ad C.1 0)), (1, .int x1), (2, .int x2), (3, .int x3)] [] f g := by
  obtain ⟨⟨l, dC, dI, k, a⟩, p, e, s, m, args, below, meth, c, A⟩ := C
  obtain ⟨hx, hb, hr, htz, hown, hlocks, hml, hE, hK, hA⟩ := X
  intro H locs ls hl hP hD hS
  have hl : lv_has ls 4 [(0, .ref (a 0)), (1, .int x1), (2, .int x2), (3, .int x3)] := hl
  have hP : va_P (dC, dI) classes (mw k a f g) H := hP
  have hD : va_D A (mw k a f g) := hD
  show W p l e (z_rm 2 0 0) s m args below meth c H locs 0 0 _ (F0 m 121 ls [])
  refine lv_iload_n hx hb d_Mo_number_121 rfl (lv_at hl 3 rfl) ?_
  refine lv_iload_n hx hb d_Mo_number_122 rfl (lv_at hl 1 rfl) ?_
  refine lv_iload_n hx hb d_Mo_number_123 rfl (lv_at hl 2 rfl) ?_
  have hFc := va_free (wc := mw k a f g) hD hS hA [0, 1, 2, 3, 4, 5, 6, 7, 8, 9, 10, 11, 12, 13, 14, 15, 16, 17, 18] rfl
  refine va_calli (va_runS (As := [.int x3, .int x1, .int x2]) (rest := []) ⟨hx, hb, hml, hown, htz⟩ (m_124 H.size) (va_cwS 3 htz (z_gS (fun _ h => h) km_Mo_72 st_Mo_in ini_Mo m_Mo_in) rfl rfl rfl (by decide +kernel) ⟨(Nat.le_of_ble_eq_true rfl), (Nat.le_of_ble_eq_true rfl)⟩) ⟨z_blind, fun U hU hW => ⟨rfl, by rw [hU], hE.call hS hFc hU hW, by rw [hU]; exact hP, va_K.moved hW.alike hK, hD.weaken (fun _ _ _ _ => trivial)⟩⟩ rfl rfl hl.1 rfl (lv_room (Nat.le_of_ble_eq_true rfl)) d_Mo_number_124 ⟨(Nat.le_of_ble_eq_true rfl), (Nat.le_of_ble_eq_true rfl)⟩) hS (fun q _ h => hFc q h) hFc (fun r u t H1 locs ht hvm hw hB hz1 hk1 hS => ?_)
  obtain ⟨hP1, hK1, hD1⟩ := hB
  rw [ht] at hP1
  exact k_124 r _ _ hw H1 locs ls (lv_sub hl [0, 1, 2, 3] rfl) hP1 (hD1.weaken (fun _ q _ h => hFc _ h)) hS
set_option maxHeartbeats 1000000 in
set_option maxRecDepth 100000 in
theorem k_Mo_number_127 {C : CT} (X : cM C "QuestionTextModel" b_Mo_number 4 (some .int)) (Post : Int32 → FT → GT → Prop) {P_137 : FT → GT → Prop} (x1 : Int32) (x2 : Int32) (x3 : Int32) (y0 : Int32) (f : FT) (g : GT)
    (k_140 : (¬ y0 = 0) → zn_number C Post 140 [(0, .ref (ad C.1 0)), (1, .int x1), (2, .int x2), (3, .int x3)] [] f g)
    (m_137 : (y0 = 0) → mV C.1 y_Mo_fail (Cond.code y_Mo_fail b_Mo_fail 2 none) 0 [.ref (ad C.1 0), .int ((f 5) - 1)] f g P_137)
    (k_137 : (y0 = 0) → ∀ (f1 : FT) (g1 : GT), P_137 f1 g1 → zn_number C Post 140 [(0, .ref (ad C.1 0)), (1, .int x1), (2, .int x2), (3, .int x3)] [] f1 g1) : zn_number C Post 127 [(0, .ref (ad C.1 0)), (1, .int x1), (2, .int x2), (3, .int x3)] [.int y0] f g := by
  obtain ⟨⟨l, dC, dI, k, a⟩, p, e, s, m, args, below, meth, c, A⟩ := C
  obtain ⟨hx, hb, hr, htz, hown, hlocks, hml, hE, hK, hA⟩ := X
  intro H locs ls hl hP hD hS
  have hl : lv_has ls 4 [(0, .ref (a 0)), (1, .int x1), (2, .int x2), (3, .int x3)] := hl
  have hP : va_P (dC, dI) classes (mw k a f g) H := hP
  have hD : va_D A (mw k a f g) := hD
  show W p l e (z_rm 2 0 0) s m args below meth c H locs 0 0 _ (F0 m 127 ls [.int y0])
  refine lv_if_ne (tgt := 140) hx hb d_Mo_number_127 (by decide) (fun c_127 => ?_) (fun c_127 => ?_)
  · exact (k_140 c_127) H locs ls (lv_sub hl [0, 1, 2, 3] rfl) hP hD hS
  · refine lv_aload_n hx hb d_Mo_number_130 rfl (lv_at hl 0 rfl) ?_
    refine lv_aload_n hx hb d_Mo_number_131 rfl (lv_at hl 0 rfl) ?_
    refine va_get (D := (dC, dI)) (ci := 4) (v := .int (f 5)) (C := R_Mo) (T := F_Mo) (N := 31) hx hb htz i_Mo hown hK hP 0 rfl rfl 18 (by decide) (htz _ kf_Mo_79) (fun _ h9 => h9) rfl d_Mo_number_132 ?_
    refine lv_iconst (v := 1) hx hb d_Mo_number_135 (by decide) ?_
    refine lv_isub hx hb d_Mo_number_136 ?_
    have hFc := va_free (wc := mw k a f g) hD hS hA [0, 1, 2, 3, 4, 5, 6, 7, 8, 9, 10, 11, 12, 13, 14, 15, 16, 17, 18] rfl
    refine va_callv (va_runV (As := [.int ((f 5) - 1)]) (rest := []) ⟨hx, hb, hml, hown, htz⟩ ((m_137 c_127) H.size) (cwV 1 htz (z_gV (fun _ h => h) km_Mo_92 in_Mo_fail se_Mo_fail ini_Mo m_Mo_fail) rfl rfl rfl (by decide +kernel) ⟨(Nat.le_of_ble_eq_true rfl), (Nat.le_of_ble_eq_true rfl)⟩) ⟨z_blind, va_recv hK hP (ci := 4) (q0 := 0) rfl rfl, fun U hU hW => ⟨rfl, by rw [hU], hE.call hS hFc hU hW, by rw [hU]; exact hP, va_K.moved hW.alike hK, hD.weaken (fun _ _ _ _ => trivial)⟩⟩ rfl rfl hl.1 rfl (lv_room (Nat.le_of_ble_eq_true rfl)) d_Mo_number_137 ⟨(Nat.le_of_ble_eq_true rfl), (Nat.le_of_ble_eq_true rfl)⟩) hS (fun q _ h => hFc q h) hFc (fun u t H1 locs ht hvm hw hB hz1 hk1 hS => ?_)
    obtain ⟨hP1, hK1, hD1⟩ := hB
    rw [ht] at hP1
    exact (k_137 c_127) _ _ hw H1 locs ls (lv_sub hl [0, 1, 2, 3] rfl) hP1 (hD1.weaken (fun _ q _ h => hFc _ h)) hS
set_option maxHeartbeats 1000000 in
set_option maxRecDepth 100000 in
theorem k_Mo_number_140 {C : CT} (X : cM C "QuestionTextModel" b_Mo_number 4 (some .int)) (Post : Int32 → FT → GT → Prop) (x1 : Int32) (x2 : Int32) (x3 : Int32) (f : FT) (g : GT)
    (k_152 : (0 ≤ f 6) → zn_number C Post 152 [(0, .ref (ad C.1 0)), (1, .int x1), (2, .int x2), (3, .int x3)] [.int x1] f g)
    (k_152_1 : (¬ 0 ≤ f 6) → zn_number C Post 152 [(0, .ref (ad C.1 0)), (1, .int x1), (2, .int x2), (3, .int x3)] [.int x3] f g) : zn_number C Post 140 [(0, .ref (ad C.1 0)), (1, .int x1), (2, .int x2), (3, .int x3)] [] f g := by
  obtain ⟨⟨l, dC, dI, k, a⟩, p, e, s, m, args, below, meth, c, A⟩ := C
  obtain ⟨hx, hb, hr, htz, hown, hlocks, hml, hE, hK, hA⟩ := X
  intro H locs ls hl hP hD hS
  have hl : lv_has ls 4 [(0, .ref (a 0)), (1, .int x1), (2, .int x2), (3, .int x3)] := hl
  have hP : va_P (dC, dI) classes (mw k a f g) H := hP
  have hD : va_D A (mw k a f g) := hD
  show W p l e (z_rm 2 0 0) s m args below meth c H locs 0 0 _ (F0 m 140 ls [])
  refine lv_aload_n hx hb d_Mo_number_140 rfl (lv_at hl 0 rfl) ?_
  refine va_get (D := (dC, dI)) (ci := 4) (v := .int (f 6)) (C := R_Mo) (T := F_Mo) (N := 31) hx hb htz i_Mo hown hK hP 0 rfl rfl 19 (by decide) (htz _ kf_Mo_86) (fun _ h9 => h9) rfl d_Mo_number_141 ?_
  refine lv_if_ge (tgt := 151) hx hb d_Mo_number_144 (by decide) (fun c_144 => ?_) (fun c_144 => ?_)
  · refine lv_iload_n hx hb d_Mo_number_151 rfl (lv_at hl 1 rfl) ?_
    exact (k_152 c_144) H locs ls (lv_sub hl [0, 1, 2, 3] rfl) hP hD hS
  · refine lv_iload_n hx hb d_Mo_number_147 rfl (lv_at hl 3 rfl) ?_
    refine lv_goto (tgt := 152) hx hb d_Mo_number_148 (by decide) ?_
    exact (k_152_1 c_144) H locs ls (lv_sub hl [0, 1, 2, 3] rfl) hP hD hS
set_option maxHeartbeats 1000000 in
set_option maxRecDepth 100000 in
theorem k_Mo_number_152 {C : CT} (X : cM C "QuestionTextModel" b_Mo_number 4 (some .int)) (Post : Int32 → FT → GT → Prop) (x1 : Int32) (x2 : Int32) (x3 : Int32) (y0 : Int32) (f : FT) (g : GT)
    (q_152 : Post (y0) f g) : zn_number C Post 152 [(0, .ref (ad C.1 0)), (1, .int x1), (2, .int x2), (3, .int x3)] [.int y0] f g := by
  obtain ⟨⟨l, dC, dI, k, a⟩, p, e, s, m, args, below, meth, c, A⟩ := C
  obtain ⟨hx, hb, hr, htz, hown, hlocks, hml, hE, hK, hA⟩ := X
  intro H locs ls hl hP hD hS
  have hl : lv_has ls 4 [(0, .ref (a 0)), (1, .int x1), (2, .int x2), (3, .int x3)] := hl
  have hP : va_P (dC, dI) classes (mw k a f g) H := hP
  have hD : va_D A (mw k a f g) := hD
  show W p l e (z_rm 2 0 0) s m args below meth c H locs 0 0 _ (F0 m 152 ls [.int y0])
  exact W.iret (v := y0) hx hb hr (fun t ht hW => ⟨⟨_, (f, g), rfl, q_152, by rw [ht]; exact hP, va_K.moved hW.alike hK, hD⟩, hS.F ht⟩) hS.2.2 d_Mo_number_152
set_option maxHeartbeats 1000000 in
set_option maxRecDepth 100000 in
theorem e_Mo_number (T : ST) (Post : Int32 → FT → GT → Prop) (x1 : Int32) (x2 : Int32) (f : FT) (g : GT) (h : ∀ C : CT, C.1 = T → cM C "QuestionTextModel" b_Mo_number 4 (some .int) → zn_number C Post 0 [(0, .ref (ad C.1 0)), (1, .int x1), (2, .int x2)] [] f g) : mI T y_Mo_number (Cond.code y_Mo_number b_Mo_number 4 (some .int)) 2 [.ref (ad T 0), .int x1, .int x2] f g Post := by
  obtain ⟨l, dC, dI, k, a⟩ := T
  intro sz
  refine Met.ofW (cc := b_Mo_number) (maxL := 4) (ret := (some .int)) (by decide) rfl ?_
  intro p e s m args below meth c s₁ B hml hv
  obtain ⟨rfl, hsz, hE, hP, hK, hD0⟩ := hv
  have hts := atoms_spec (ws := (Cond.code y_Mo_number b_Mo_number 4 (some .int)) :: z_T) B.pre
  have htz : ∀ w ∈ z_T, w.before _ s = true := fun w h => hts w (z_cons w h)
  subst hsz
  have hD := hD0.self (sz := s.heap.size)
  generalize hAe : va_A (mw k a f g) s.heap.size = A at hD hE ⊢
  have hA : ∀ q : Nat, s.heap.size ≤ q → A q := fun q h => by rw [← hAe]; exact Or.inr h
  have hl := lv_entry ([.ref (a 0), .int x1, .int x2]) (n := 4) (Nat.le_of_ble_eq_true rfl)
  rw [lg_entry_eq]
  generalize (lg_sl ([.ref (a 0), .int x1, .int x2]) ++ List.replicate (4 - (lg_sl ([.ref (a 0), .int x1, .int x2])).length) Slot.unset).toArray = ls at hl ⊢
  exact h ((l, dC, dI, k, a), p, e, s, m, ([.ref (a 0), .int x1, .int x2] : List Value).toArray, below, meth, c, A) rfl ⟨B.exec, B.bytes, B.returns, htz, findClass_of_methodNamed B.named, B.notSynchronized, hml, hE, hK, hA⟩ s.heap [] ls hl hP hD va_S.rf
def zn_words (C : CT) (Post : FT → GT → Prop) (pc : Nat) (loc : List (Nat × Value)) (st : List Value) (f : FT) (g : GT) : Prop := zW C (z_rm 3 0 0) 5 (qV C Post) 0 0 pc loc st (mM C.1 f g)
set_option maxHeartbeats 1000000 in
set_option maxRecDepth 100000 in
theorem k_Mo_words_0 {C : CT} (X : cM C "QuestionTextModel" b_Mo_words 5 none) (Post : FT → GT → Prop) {P_3 : FT → GT → Prop} (x1 : Int32) (x2 : Int32) (f : FT) (g : GT)
    (m_3 : mV C.1 y_Mo_take (Cond.code y_Mo_take b_Mo_take 2 none) 2 [.ref (ad C.1 0), .int 34] f g P_3)
    (k_3 : ∀ (f1 : FT) (g1 : GT), P_3 f1 g1 → zn_words C Post 6 [(0, .ref (ad C.1 0)), (1, .int x1), (2, .int x2)] [] f1 g1) : zn_words C Post 0 [(0, .ref (ad C.1 0)), (1, .int x1), (2, .int x2)] [] f g := by
  obtain ⟨⟨l, dC, dI, k, a⟩, p, e, s, m, args, below, meth, c, A⟩ := C
  obtain ⟨hx, hb, hr, htz, hown, hlocks, hml, hE, hK, hA⟩ := X
  intro H locs ls hl hP hD hS
  have hl : lv_has ls 5 [(0, .ref (a 0)), (1, .int x1), (2, .int x2)] := hl
  have hP : va_P (dC, dI) classes (mw k a f g) H := hP
  have hD : va_D A (mw k a f g) := hD
  show W p l e (z_rm 3 0 0) s m args below meth c H locs 0 0 _ (F0 m 0 ls [])
  refine lv_aload_n hx hb d_Mo_words_0 rfl (lv_at hl 0 rfl) ?_
  refine lv_bipush (v := 34) hx hb d_Mo_words_1 (by decide) ?_
  have hFc := va_free (wc := mw k a f g) hD hS hA [0, 1, 2, 3, 4, 5, 6, 7, 8, 9, 10, 11, 12, 13, 14, 15, 16, 17, 18] rfl
  refine va_callv (va_runV (As := [.int 34]) (rest := []) ⟨hx, hb, hml, hown, htz⟩ (m_3 H.size) (cwV 1 htz (z_gV (fun _ h => h) km_Mo_103 in_Mo_take se_Mo_take ini_Mo m_Mo_take) rfl rfl rfl (by decide +kernel) ⟨(Nat.le_of_ble_eq_true rfl), (Nat.le_of_ble_eq_true rfl)⟩) ⟨z_blind, va_recv hK hP (ci := 4) (q0 := 0) rfl rfl, fun U hU hW => ⟨rfl, by rw [hU], hE.call hS hFc hU hW, by rw [hU]; exact hP, va_K.moved hW.alike hK, hD.weaken (fun _ _ _ _ => trivial)⟩⟩ rfl rfl hl.1 rfl (lv_room (Nat.le_of_ble_eq_true rfl)) d_Mo_words_3 ⟨(Nat.le_of_ble_eq_true rfl), (Nat.le_of_ble_eq_true rfl)⟩) hS (fun q _ h => hFc q h) hFc (fun u t H1 locs ht hvm hw hB hz1 hk1 hS => ?_)
  obtain ⟨hP1, hK1, hD1⟩ := hB
  rw [ht] at hP1
  exact k_3 _ _ hw H1 locs ls (lv_sub hl [0, 1, 2] rfl) hP1 (hD1.weaken (fun _ q _ h => hFc _ h)) hS
set_option maxHeartbeats 1000000 in
set_option maxRecDepth 100000 in
theorem k_Mo_words_6 {C : CT} (X : cM C "QuestionTextModel" b_Mo_words 5 none) (Post : FT → GT → Prop) (x1 : Int32) (x2 : Int32) (f : FT) (g : GT)
    (k_23 : zn_words C Post 23 [(0, .ref (ad C.1 0)), (1, .int x1), (2, .int x2), (3, .int (((((f 8) * 61) + x1) * 2) + x2)), (4, .int 0)] [] f g) : zn_words C Post 6 [(0, .ref (ad C.1 0)), (1, .int x1), (2, .int x2)] [] f g := by
  obtain ⟨⟨l, dC, dI, k, a⟩, p, e, s, m, args, below, meth, c, A⟩ := C
  obtain ⟨hx, hb, hr, htz, hown, hlocks, hml, hE, hK, hA⟩ := X
  intro H locs ls hl hP hD hS
  have hl : lv_has ls 5 [(0, .ref (a 0)), (1, .int x1), (2, .int x2)] := hl
  have hP : va_P (dC, dI) classes (mw k a f g) H := hP
  have hD : va_D A (mw k a f g) := hD
  show W p l e (z_rm 3 0 0) s m args below meth c H locs 0 0 _ (F0 m 6 ls [])
  refine lv_aload_n hx hb d_Mo_words_6 rfl (lv_at hl 0 rfl) ?_
  refine va_get (D := (dC, dI)) (ci := 4) (v := .int (f 8)) (C := R_Mo) (T := F_Mo) (N := 31) hx hb htz i_Mo hown hK hP 0 rfl rfl 21 (by decide) (htz _ kf_Mo_106) (fun _ h9 => h9) rfl d_Mo_words_7 ?_
  refine lv_bipush (v := 61) hx hb d_Mo_words_10 (by decide) ?_
  refine lv_imul hx hb d_Mo_words_12 ?_
  refine lv_iload_n hx hb d_Mo_words_13 rfl (lv_at hl 1 rfl) ?_
  refine lv_iadd hx hb d_Mo_words_14 ?_
  refine lv_iconst (v := 2) hx hb d_Mo_words_15 (by decide) ?_
  refine lv_imul hx hb d_Mo_words_16 ?_
  refine lv_iload_n hx hb d_Mo_words_17 rfl (lv_at hl 2 rfl) ?_
  refine lv_iadd hx hb d_Mo_words_18 ?_
  refine lv_istore_n (lv' := [(3, .int (((((f 8) * 61) + x1) * 2) + x2)), (0, .ref (a 0)), (1, .int x1), (2, .int x2)]) hx hb d_Mo_words_19 rfl hl (by decide) rfl (fun ls hl => ?_)
  refine lv_iconst (v := 0) hx hb d_Mo_words_20 (by decide) ?_
  refine lv_istore (lv' := [(4, .int 0), (3, .int (((((f 8) * 61) + x1) * 2) + x2)), (0, .ref (a 0)), (1, .int x1), (2, .int x2)]) hx hb d_Mo_words_21 hl (by decide) rfl (fun ls hl => ?_)
  exact k_23 H locs ls (lv_sub hl [2, 3, 4, 1, 0] rfl) hP hD hS
set_option maxHeartbeats 1000000 in
set_option maxRecDepth 100000 in
theorem k_Mo_words_23 {C : CT} (X : cM C "QuestionTextModel" b_Mo_words 5 none) (Post : FT → GT → Prop) {P_31 : Int32 → FT → GT → Prop} (x1 : Int32) (x2 : Int32) (x3 : Int32) (x4 : Int32) (f : FT) (g : GT)
    (k_101 : (0 ≤ f 6) → zn_words C Post 101 [(0, .ref (ad C.1 0)), (1, .int x1), (2, .int x2), (3, .int x3), (4, .int x4)] [] f g)
    (m_31 : (¬ 0 ≤ f 6) → mI C.1 y_Mo_here (Cond.code y_Mo_here b_Mo_here 1 (some .int)) 0 [.ref (ad C.1 0)] f g P_31)
    (k_31 : (¬ 0 ≤ f 6) → ∀ (r : Int32) (f1 : FT) (g1 : GT), P_31 r f1 g1 → zn_words C Post 34 [(0, .ref (ad C.1 0)), (1, .int x1), (2, .int x2), (3, .int x3), (4, .int x4)] [.int r] f1 g1) : zn_words C Post 23 [(0, .ref (ad C.1 0)), (1, .int x1), (2, .int x2), (3, .int x3), (4, .int x4)] [] f g := by
  obtain ⟨⟨l, dC, dI, k, a⟩, p, e, s, m, args, below, meth, c, A⟩ := C
  obtain ⟨hx, hb, hr, htz, hown, hlocks, hml, hE, hK, hA⟩ := X
  intro H locs ls hl hP hD hS
  have hl : lv_has ls 5 [(0, .ref (a 0)), (1, .int x1), (2, .int x2), (3, .int x3), (4, .int x4)] := hl
  have hP : va_P (dC, dI) classes (mw k a f g) H := hP
  have hD : va_D A (mw k a f g) := hD
  show W p l e (z_rm 3 0 0) s m args below meth c H locs 0 0 _ (F0 m 23 ls [])
  refine lv_aload_n hx hb d_Mo_words_23 rfl (lv_at hl 0 rfl) ?_
  refine va_get (D := (dC, dI)) (ci := 4) (v := .int (f 6)) (C := R_Mo) (T := F_Mo) (N := 31) hx hb htz i_Mo hown hK hP 0 rfl rfl 19 (by decide) (htz _ kf_Mo_86) (fun _ h9 => h9) rfl d_Mo_words_24 ?_
  refine lv_if_ge (tgt := 101) hx hb d_Mo_words_27 (by decide) (fun c_27 => ?_) (fun c_27 => ?_)
  · exact (k_101 c_27) H locs ls (lv_sub hl [0, 1, 2, 3, 4] rfl) hP hD hS
  · refine lv_aload_n hx hb d_Mo_words_30 rfl (lv_at hl 0 rfl) ?_
    have hFc := va_free (wc := mw k a f g) hD hS hA [0, 1, 2, 3, 4, 5, 6, 7, 8, 9, 10, 11, 12, 13, 14, 15, 16, 17, 18] rfl
    refine va_calli (va_runV (As := []) (rest := []) ⟨hx, hb, hml, hown, htz⟩ ((m_31 c_27) H.size) (cwV 0 htz (z_gV (fun _ h => h) km_Mo_82 in_Mo_here se_Mo_here ini_Mo m_Mo_here) rfl rfl rfl (by decide +kernel) ⟨(Nat.le_of_ble_eq_true rfl), (Nat.le_of_ble_eq_true rfl)⟩) ⟨z_blind, va_recv hK hP (ci := 4) (q0 := 0) rfl rfl, fun U hU hW => ⟨rfl, by rw [hU], hE.call hS hFc hU hW, by rw [hU]; exact hP, va_K.moved hW.alike hK, hD.weaken (fun _ _ _ _ => trivial)⟩⟩ rfl rfl hl.1 rfl (lv_room (Nat.le_of_ble_eq_true rfl)) d_Mo_words_31 ⟨(Nat.le_of_ble_eq_true rfl), (Nat.le_of_ble_eq_true rfl)⟩) hS (fun q _ h => hFc q h) hFc (fun r u t H1 locs ht hvm hw hB hz1 hk1 hS => ?_)
    obtain ⟨hP1, hK1, hD1⟩ := hB
    rw [ht] at hP1
    exact (k_31 c_27) r _ _ hw H1 locs ls (lv_sub hl [0, 1, 2, 3, 4] rfl) hP1 (hD1.weaken (fun _ q _ h => hFc _ h)) hS
set_option maxHeartbeats 1000000 in
set_option maxRecDepth 100000 in
theorem k_Mo_words_34 {C : CT} (X : cM C "QuestionTextModel" b_Mo_words 5 none) (Post : FT → GT → Prop) {P_40 : Int32 → FT → GT → Prop} (x1 : Int32) (x2 : Int32) (x3 : Int32) (x4 : Int32) (y0 : Int32) (f : FT) (g : GT)
    (k_101 : (y0 = 34) → zn_words C Post 101 [(0, .ref (ad C.1 0)), (1, .int x1), (2, .int x2), (3, .int x3), (4, .int x4)] [] f g)
    (m_40 : (¬ y0 = 34) → mI C.1 y_Mo_here (Cond.code y_Mo_here b_Mo_here 1 (some .int)) 0 [.ref (ad C.1 0)] f g P_40)
    (k_40 : (¬ y0 = 34) → ∀ (r : Int32) (f1 : FT) (g1 : GT), P_40 r f1 g1 → zn_words C Post 43 [(0, .ref (ad C.1 0)), (1, .int x1), (2, .int x2), (3, .int x3), (4, .int x4)] [.int r] f1 g1) : zn_words C Post 34 [(0, .ref (ad C.1 0)), (1, .int x1), (2, .int x2), (3, .int x3), (4, .int x4)] [.int y0] f g := by
  obtain ⟨⟨l, dC, dI, k, a⟩, p, e, s, m, args, below, meth, c, A⟩ := C
  obtain ⟨hx, hb, hr, htz, hown, hlocks, hml, hE, hK, hA⟩ := X
  intro H locs ls hl hP hD hS
  have hl : lv_has ls 5 [(0, .ref (a 0)), (1, .int x1), (2, .int x2), (3, .int x3), (4, .int x4)] := hl
  have hP : va_P (dC, dI) classes (mw k a f g) H := hP
  have hD : va_D A (mw k a f g) := hD
  show W p l e (z_rm 3 0 0) s m args below meth c H locs 0 0 _ (F0 m 34 ls [.int y0])
  refine lv_bipush (v := 34) hx hb d_Mo_words_34 (by decide) ?_
  refine lv_icmp_eq (tgt := 101) hx hb d_Mo_words_36 (by decide) (fun c_36 => ?_) (fun c_36 => ?_)
  · exact (k_101 c_36) H locs ls (lv_sub hl [0, 1, 2, 3, 4] rfl) hP hD hS
  · refine lv_aload_n hx hb d_Mo_words_39 rfl (lv_at hl 0 rfl) ?_
    have hFc := va_free (wc := mw k a f g) hD hS hA [0, 1, 2, 3, 4, 5, 6, 7, 8, 9, 10, 11, 12, 13, 14, 15, 16, 17, 18] rfl
    refine va_calli (va_runV (As := []) (rest := []) ⟨hx, hb, hml, hown, htz⟩ ((m_40 c_36) H.size) (cwV 0 htz (z_gV (fun _ h => h) km_Mo_82 in_Mo_here se_Mo_here ini_Mo m_Mo_here) rfl rfl rfl (by decide +kernel) ⟨(Nat.le_of_ble_eq_true rfl), (Nat.le_of_ble_eq_true rfl)⟩) ⟨z_blind, va_recv hK hP (ci := 4) (q0 := 0) rfl rfl, fun U hU hW => ⟨rfl, by rw [hU], hE.call hS hFc hU hW, by rw [hU]; exact hP, va_K.moved hW.alike hK, hD.weaken (fun _ _ _ _ => trivial)⟩⟩ rfl rfl hl.1 rfl (lv_room (Nat.le_of_ble_eq_true rfl)) d_Mo_words_40 ⟨(Nat.le_of_ble_eq_true rfl), (Nat.le_of_ble_eq_true rfl)⟩) hS (fun q _ h => hFc q h) hFc (fun r u t H1 locs ht hvm hw hB hz1 hk1 hS => ?_)
    obtain ⟨hP1, hK1, hD1⟩ := hB
    rw [ht] at hP1
    exact (k_40 c_36) r _ _ hw H1 locs ls (lv_sub hl [0, 1, 2, 3, 4] rfl) hP1 (hD1.weaken (fun _ q _ h => hFc _ h)) hS
set_option maxHeartbeats 1000000 in
set_option maxRecDepth 100000 in
theorem k_Mo_words_43 {C : CT} (X : cM C "QuestionTextModel" b_Mo_words 5 none) (Post : FT → GT → Prop) {P_47 : Int32 → FT → GT → Prop} (x1 : Int32) (x2 : Int32) (x3 : Int32) (x4 : Int32) (y0 : Int32) (f : FT) (g : GT)
    (m_47 : mI C.1 y_Mo_in (Cond.code y_Mo_in b_Mo_in 3 (some .boolean)) 0 [.int y0, .int 32, .int 126] f g P_47)
    (k_47 : ∀ (r : Int32) (f1 : FT) (g1 : GT), P_47 r f1 g1 → zn_words C Post 50 [(0, .ref (ad C.1 0)), (1, .int x1), (2, .int x2), (3, .int x3), (4, .int x4)] [.int r] f1 g1) : zn_words C Post 43 [(0, .ref (ad C.1 0)), (1, .int x1), (2, .int x2), (3, .int x3), (4, .int x4)] [.int y0] f g := by
  obtain ⟨⟨l, dC, dI, k, a⟩, p, e, s, m, args, below, meth, c, A⟩ := C
  obtain ⟨hx, hb, hr, htz, hown, hlocks, hml, hE, hK, hA⟩ := X
  intro H locs ls hl hP hD hS
  have hl : lv_has ls 5 [(0, .ref (a 0)), (1, .int x1), (2, .int x2), (3, .int x3), (4, .int x4)] := hl
  have hP : va_P (dC, dI) classes (mw k a f g) H := hP
  have hD : va_D A (mw k a f g) := hD
  show W p l e (z_rm 3 0 0) s m args below meth c H locs 0 0 _ (F0 m 43 ls [.int y0])
  refine lv_bipush (v := 32) hx hb d_Mo_words_43 (by decide) ?_
  refine lv_bipush (v := 126) hx hb d_Mo_words_45 (by decide) ?_
  have hFc := va_free (wc := mw k a f g) hD hS hA [0, 1, 2, 3, 4, 5, 6, 7, 8, 9, 10, 11, 12, 13, 14, 15, 16, 17, 18] rfl
  refine va_calli (va_runS (As := [.int y0, .int 32, .int 126]) (rest := []) ⟨hx, hb, hml, hown, htz⟩ (m_47 H.size) (va_cwS 3 htz (z_gS (fun _ h => h) km_Mo_72 st_Mo_in ini_Mo m_Mo_in) rfl rfl rfl (by decide +kernel) ⟨(Nat.le_of_ble_eq_true rfl), (Nat.le_of_ble_eq_true rfl)⟩) ⟨z_blind, fun U hU hW => ⟨rfl, by rw [hU], hE.call hS hFc hU hW, by rw [hU]; exact hP, va_K.moved hW.alike hK, hD.weaken (fun _ _ _ _ => trivial)⟩⟩ rfl rfl hl.1 rfl (lv_room (Nat.le_of_ble_eq_true rfl)) d_Mo_words_47 ⟨(Nat.le_of_ble_eq_true rfl), (Nat.le_of_ble_eq_true rfl)⟩) hS (fun q _ h => hFc q h) hFc (fun r u t H1 locs ht hvm hw hB hz1 hk1 hS => ?_)
  obtain ⟨hP1, hK1, hD1⟩ := hB
  rw [ht] at hP1
  exact k_47 r _ _ hw H1 locs ls (lv_sub hl [0, 1, 2, 3, 4] rfl) hP1 (hD1.weaken (fun _ q _ h => hFc _ h)) hS
set_option maxHeartbeats 1000000 in
set_option maxRecDepth 100000 in
theorem k_Mo_words_50 {C : CT} (X : cM C "QuestionTextModel" b_Mo_words 5 none) (Post : FT → GT → Prop) {P_81 : Int32 → FT → GT → Prop} (x1 : Int32) (x2 : Int32) (x3 : Int32) (x4 : Int32) (y0 : Int32) (f : FT) (g : GT)
    (k_60 : (y0 = 0) → zn_words C Post 60 [(0, .ref (ad C.1 0)), (1, .int x1), (2, .int x2), (3, .int x3), (4, .int x4)] [] f g)
    (m_81 : (¬ y0 = 0) → (¬ x4 = 12) → mI C.1 y_Mo_here (Cond.code y_Mo_here b_Mo_here 1 (some .int)) 0 [.ref (ad C.1 0)] f g P_81)
    (k_81 : (¬ y0 = 0) → (¬ x4 = 12) → ∀ (r : Int32) (f1 : FT) (g1 : GT), P_81 r f1 g1 → zn_words C Post 84 [(0, .ref (ad C.1 0)), (1, .int x1), (2, .int x2), (3, .int x3), (4, .int x4)] [.int r, .int ((x3 * 12) + x4), .ref (ad C.1 7)] f1 g1)
    (k_60_1 : (¬ y0 = 0) → (x4 = 12) → zn_words C Post 60 [(0, .ref (ad C.1 0)), (1, .int x1), (2, .int x2), (3, .int x3), (4, .int x4)] [] f g) : zn_words C Post 50 [(0, .ref (ad C.1 0)), (1, .int x1), (2, .int x2), (3, .int x3), (4, .int x4)] [.int y0] f g := by
  obtain ⟨⟨l, dC, dI, k, a⟩, p, e, s, m, args, below, meth, c, A⟩ := C
  obtain ⟨hx, hb, hr, htz, hown, hlocks, hml, hE, hK, hA⟩ := X
  intro H locs ls hl hP hD hS
  have hl : lv_has ls 5 [(0, .ref (a 0)), (1, .int x1), (2, .int x2), (3, .int x3), (4, .int x4)] := hl
  have hP : va_P (dC, dI) classes (mw k a f g) H := hP
  have hD : va_D A (mw k a f g) := hD
  show W p l e (z_rm 3 0 0) s m args below meth c H locs 0 0 _ (F0 m 50 ls [.int y0])
  refine lv_if_eq (tgt := 60) hx hb d_Mo_words_50 (by decide) (fun c_50 => ?_) (fun c_50 => ?_)
  · exact (k_60 c_50) H locs ls (lv_sub hl [0, 1, 2, 3, 4] rfl) hP hD hS
  · refine lv_iload hx hb d_Mo_words_53 (lv_at hl 4 rfl) ?_
    refine lv_bipush (v := 12) hx hb d_Mo_words_55 (by decide) ?_
    refine lv_icmp_ne (tgt := 69) hx hb d_Mo_words_57 (by decide) (fun c_57 => ?_) (fun c_57 => ?_)
    · refine lv_aload_n hx hb d_Mo_words_69 rfl (lv_at hl 0 rfl) ?_
      refine va_get (D := (dC, dI)) (ci := 4) (v := .ref (a 7)) (C := R_Mo) (T := F_Mo) (N := 31) hx hb htz i_Mo hown hK hP 0 rfl rfl 11 (by decide) (htz _ kf_Mo_33) (fun _ h9 => h9) rfl d_Mo_words_70 ?_
      refine lv_iload_n hx hb d_Mo_words_73 rfl (lv_at hl 3 rfl) ?_
      refine lv_bipush (v := 12) hx hb d_Mo_words_74 (by decide) ?_
      refine lv_imul hx hb d_Mo_words_76 ?_
      refine lv_iload hx hb d_Mo_words_77 (lv_at hl 4 rfl) ?_
      refine lv_iadd hx hb d_Mo_words_79 ?_
      refine lv_aload_n hx hb d_Mo_words_80 rfl (lv_at hl 0 rfl) ?_
      have hFc := va_free (wc := mw k a f g) hD hS hA [0, 1, 2, 3, 4, 5, 6, 7, 8, 9, 10, 11, 12, 13, 14, 15, 16, 17, 18] rfl
      refine va_calli (va_runV (As := []) (rest := [.int ((x3 * 12) + x4), .ref (a 7)]) ⟨hx, hb, hml, hown, htz⟩ ((m_81 c_50 c_57) H.size) (cwV 0 htz (z_gV (fun _ h => h) km_Mo_82 in_Mo_here se_Mo_here ini_Mo m_Mo_here) rfl rfl rfl (by decide +kernel) ⟨(Nat.le_of_ble_eq_true rfl), (Nat.le_of_ble_eq_true rfl)⟩) ⟨z_blind, va_recv hK hP (ci := 4) (q0 := 0) rfl rfl, fun U hU hW => ⟨rfl, by rw [hU], hE.call hS hFc hU hW, by rw [hU]; exact hP, va_K.moved hW.alike hK, hD.weaken (fun _ _ _ _ => trivial)⟩⟩ rfl rfl hl.1 rfl (lv_room (Nat.le_of_ble_eq_true rfl)) d_Mo_words_81 ⟨(Nat.le_of_ble_eq_true rfl), (Nat.le_of_ble_eq_true rfl)⟩) hS (fun q _ h => hFc q h) hFc (fun r u t H1 locs ht hvm hw hB hz1 hk1 hS => ?_)
      obtain ⟨hP1, hK1, hD1⟩ := hB
      rw [ht] at hP1
      exact (k_81 c_50 c_57) r _ _ hw H1 locs ls (lv_sub hl [0, 1, 2, 3, 4] rfl) hP1 (hD1.weaken (fun _ q _ h => hFc _ h)) hS
    · exact (k_60_1 c_50 c_57) H locs ls (lv_sub hl [0, 1, 2, 3, 4] rfl) hP hD hS
set_option maxHeartbeats 1000000 in
set_option maxRecDepth 100000 in
theorem k_Mo_words_60 {C : CT} (X : cM C "QuestionTextModel" b_Mo_words 5 none) (Post : FT → GT → Prop) {P_65 : FT → GT → Prop} (x1 : Int32) (x2 : Int32) (x3 : Int32) (x4 : Int32) (f : FT) (g : GT)
    (m_65 : mV C.1 y_Mo_fail (Cond.code y_Mo_fail b_Mo_fail 2 none) 0 [.ref (ad C.1 0), .int (f 5)] f g P_65)
    (k_65 : ∀ (f1 : FT) (g1 : GT), P_65 f1 g1 → zn_words C Post 68 [(0, .ref (ad C.1 0)), (1, .int x1), (2, .int x2), (3, .int x3), (4, .int x4)] [] f1 g1) : zn_words C Post 60 [(0, .ref (ad C.1 0)), (1, .int x1), (2, .int x2), (3, .int x3), (4, .int x4)] [] f g := by
  obtain ⟨⟨l, dC, dI, k, a⟩, p, e, s, m, args, below, meth, c, A⟩ := C
  obtain ⟨hx, hb, hr, htz, hown, hlocks, hml, hE, hK, hA⟩ := X
  intro H locs ls hl hP hD hS
  have hl : lv_has ls 5 [(0, .ref (a 0)), (1, .int x1), (2, .int x2), (3, .int x3), (4, .int x4)] := hl
  have hP : va_P (dC, dI) classes (mw k a f g) H := hP
  have hD : va_D A (mw k a f g) := hD
  show W p l e (z_rm 3 0 0) s m args below meth c H locs 0 0 _ (F0 m 60 ls [])
  refine lv_aload_n hx hb d_Mo_words_60 rfl (lv_at hl 0 rfl) ?_
  refine lv_aload_n hx hb d_Mo_words_61 rfl (lv_at hl 0 rfl) ?_
  refine va_get (D := (dC, dI)) (ci := 4) (v := .int (f 5)) (C := R_Mo) (T := F_Mo) (N := 31) hx hb htz i_Mo hown hK hP 0 rfl rfl 18 (by decide) (htz _ kf_Mo_79) (fun _ h9 => h9) rfl d_Mo_words_62 ?_
  have hFc := va_free (wc := mw k a f g) hD hS hA [0, 1, 2, 3, 4, 5, 6, 7, 8, 9, 10, 11, 12, 13, 14, 15, 16, 17, 18] rfl
  refine va_callv (va_runV (As := [.int (f 5)]) (rest := []) ⟨hx, hb, hml, hown, htz⟩ (m_65 H.size) (cwV 1 htz (z_gV (fun _ h => h) km_Mo_92 in_Mo_fail se_Mo_fail ini_Mo m_Mo_fail) rfl rfl rfl (by decide +kernel) ⟨(Nat.le_of_ble_eq_true rfl), (Nat.le_of_ble_eq_true rfl)⟩) ⟨z_blind, va_recv hK hP (ci := 4) (q0 := 0) rfl rfl, fun U hU hW => ⟨rfl, by rw [hU], hE.call hS hFc hU hW, by rw [hU]; exact hP, va_K.moved hW.alike hK, hD.weaken (fun _ _ _ _ => trivial)⟩⟩ rfl rfl hl.1 rfl (lv_room (Nat.le_of_ble_eq_true rfl)) d_Mo_words_65 ⟨(Nat.le_of_ble_eq_true rfl), (Nat.le_of_ble_eq_true rfl)⟩) hS (fun q _ h => hFc q h) hFc (fun u t H1 locs ht hvm hw hB hz1 hk1 hS => ?_)
  obtain ⟨hP1, hK1, hD1⟩ := hB
  rw [ht] at hP1
  exact k_65 _ _ hw H1 locs ls (lv_sub hl [0, 1, 2, 3, 4] rfl) hP1 (hD1.weaken (fun _ q _ h => hFc _ h)) hS
set_option maxHeartbeats 1000000 in
set_option maxRecDepth 100000 in
theorem k_Mo_words_68 {C : CT} (X : cM C "QuestionTextModel" b_Mo_words 5 none) (Post : FT → GT → Prop) (x1 : Int32) (x2 : Int32) (x3 : Int32) (x4 : Int32) (f : FT) (g : GT)
    (q_68 : Post f g) : zn_words C Post 68 [(0, .ref (ad C.1 0)), (1, .int x1), (2, .int x2), (3, .int x3), (4, .int x4)] [] f g := by
  obtain ⟨⟨l, dC, dI, k, a⟩, p, e, s, m, args, below, meth, c, A⟩ := C
  obtain ⟨hx, hb, hr, htz, hown, hlocks, hml, hE, hK, hA⟩ := X
  intro H locs ls hl hP hD hS
  have hl : lv_has ls 5 [(0, .ref (a 0)), (1, .int x1), (2, .int x2), (3, .int x3), (4, .int x4)] := hl
  have hP : va_P (dC, dI) classes (mw k a f g) H := hP
  have hD : va_D A (mw k a f g) := hD
  show W p l e (z_rm 3 0 0) s m args below meth c H locs 0 0 _ (F0 m 68 ls [])
  exact W.vret hx hb hr (fun t ht hW => ⟨⟨(f, g), rfl, q_68, by rw [ht]; exact hP, va_K.moved hW.alike hK, hD⟩, hS.F ht⟩) hS.2.2 d_Mo_words_68
set_option maxHeartbeats 1000000 in
set_option maxRecDepth 100000 in
theorem k_Mo_words_84 {C : CT} (X : cM C "QuestionTextModel" b_Mo_words 5 none) (Post : FT → GT → Prop) (x1 : Int32) (x2 : Int32) (x3 : Int32) (x4 : Int32) (y0 : Int32) (y1 : Int32) (f : FT) (g : GT)
    (h_84 : vp_in (y1) 14640)
    (k_23 : zn_words C Post 23 [(0, .ref (ad C.1 0)), (1, .int x1), (2, .int x2), (3, .int x3), (4, .int (x4 + 1))] [] (va_up f 5 ((f 5) + 1)) (va_up g 6 (upd (g 6) (y1 : Int32).toNatClampNeg y0))) : zn_words C Post 84 [(0, .ref (ad C.1 0)), (1, .int x1), (2, .int x2), (3, .int x3), (4, .int x4)] [.int y0, .int y1, .ref (ad C.1 7)] f g := by
  obtain ⟨⟨l, dC, dI, k, a⟩, p, e, s, m, args, below, meth, c, A⟩ := C
  obtain ⟨hx, hb, hr, htz, hown, hlocks, hml, hE, hK, hA⟩ := X
  intro H locs ls hl hP hD hS
  have hl : lv_has ls 5 [(0, .ref (a 0)), (1, .int x1), (2, .int x2), (3, .int x3), (4, .int x4)] := hl
  have hP : va_P (dC, dI) classes (mw k a f g) H := hP
  have hD : va_D A (mw k a f g) := hD
  show W p l e (z_rm 3 0 0) s m args below meth c H locs 0 0 _ (F0 m 84 ls [.int y0, .int y1, .ref (a 7)])
  refine va_iast hx hb hK hP hD hS 7 0 rfl rfl h_84 d_Mo_words_84 (fun H locs hP hD hS => ?_)
  replace hP := mg_6 (c := upd (g 6) (y1 : Int32).toNatClampNeg y0) hP
  replace hD := mh_6 (c := upd (g 6) (y1 : Int32).toNatClampNeg y0) hD
  refine lv_iinc (v := x4 + 1) (lv' := [(4, .int (x4 + 1)), (0, .ref (a 0)), (1, .int x1), (2, .int x2), (3, .int x3)]) hx hb d_Mo_words_85 hl (k := 4) rfl (rfl) (by decide) rfl (fun ls hl => ?_)
  refine lv_aload_n hx hb d_Mo_words_88 rfl (lv_at hl 1 rfl) ?_
  refine lv_dup hx hb d_Mo_words_89 rfl ?_
  refine va_get (D := (dC, dI)) (ci := 4) (v := .int (f 5)) (C := R_Mo) (T := F_Mo) (N := 31) hx hb htz i_Mo hown hK hP 0 rfl rfl 18 (by decide) (htz _ kf_Mo_79) (fun _ h9 => h9) rfl d_Mo_words_90 ?_
  refine lv_iconst (v := 1) hx hb d_Mo_words_93 (by decide) ?_
  refine lv_iadd hx hb d_Mo_words_94 ?_
  refine va_put (D := (dC, dI)) (ci := 4) (v := .int ((f 5) + 1)) (ty := .int) (C := R_Mo) (T := F_Mo) (N := 31) hx hb htz i_Mo t_Mo o_Mo n_Mo hown hK hP hD hS 0 rfl rfl 18 (by decide) (htz _ kf_Mo_79) (fun _ h9 => h9) rfl (by decide +kernel) rfl rfl (Nat.le_of_ble_eq_true rfl) d_Mo_words_95 (fun H locs hP hD hS => ?_)
  replace hP := mf_5 (v := (f 5) + 1) hP
  replace hD := md_5 (v := (f 5) + 1) hD
  refine lv_goto (tgt := 23) hx hb d_Mo_words_98 (by decide) ?_
  exact k_23 H locs ls (lv_sub hl [1, 2, 3, 4, 0] rfl) hP hD hS
set_option maxHeartbeats 1000000 in
set_option maxRecDepth 100000 in
theorem k_Mo_words_101 {C : CT} (X : cM C "QuestionTextModel" b_Mo_words 5 none) (Post : FT → GT → Prop) {P_111 : FT → GT → Prop} (x1 : Int32) (x2 : Int32) (x3 : Int32) (x4 : Int32) (f : FT) (g : GT)
    (k_114 : (¬ x4 = 0) → zn_words C Post 114 [(0, .ref (ad C.1 0)), (1, .int x1), (2, .int x2), (3, .int x3), (4, .int x4)] [] f g)
    (m_111 : (x4 = 0) → mV C.1 y_Mo_fail (Cond.code y_Mo_fail b_Mo_fail 2 none) 0 [.ref (ad C.1 0), .int (f 5)] f g P_111)
    (k_111 : (x4 = 0) → ∀ (f1 : FT) (g1 : GT), P_111 f1 g1 → zn_words C Post 114 [(0, .ref (ad C.1 0)), (1, .int x1), (2, .int x2), (3, .int x3), (4, .int x4)] [] f1 g1) : zn_words C Post 101 [(0, .ref (ad C.1 0)), (1, .int x1), (2, .int x2), (3, .int x3), (4, .int x4)] [] f g := by
  obtain ⟨⟨l, dC, dI, k, a⟩, p, e, s, m, args, below, meth, c, A⟩ := C
  obtain ⟨hx, hb, hr, htz, hown, hlocks, hml, hE, hK, hA⟩ := X
  intro H locs ls hl hP hD hS
  have hl : lv_has ls 5 [(0, .ref (a 0)), (1, .int x1), (2, .int x2), (3, .int x3), (4, .int x4)] := hl
  have hP : va_P (dC, dI) classes (mw k a f g) H := hP
  have hD : va_D A (mw k a f g) := hD
  show W p l e (z_rm 3 0 0) s m args below meth c H locs 0 0 _ (F0 m 101 ls [])
  refine lv_iload hx hb d_Mo_words_101 (lv_at hl 4 rfl) ?_
  refine lv_if_ne (tgt := 114) hx hb d_Mo_words_103 (by decide) (fun c_103 => ?_) (fun c_103 => ?_)
  · exact (k_114 c_103) H locs ls (lv_sub hl [0, 1, 2, 3, 4] rfl) hP hD hS
  · refine lv_aload_n hx hb d_Mo_words_106 rfl (lv_at hl 0 rfl) ?_
    refine lv_aload_n hx hb d_Mo_words_107 rfl (lv_at hl 0 rfl) ?_
    refine va_get (D := (dC, dI)) (ci := 4) (v := .int (f 5)) (C := R_Mo) (T := F_Mo) (N := 31) hx hb htz i_Mo hown hK hP 0 rfl rfl 18 (by decide) (htz _ kf_Mo_79) (fun _ h9 => h9) rfl d_Mo_words_108 ?_
    have hFc := va_free (wc := mw k a f g) hD hS hA [0, 1, 2, 3, 4, 5, 6, 7, 8, 9, 10, 11, 12, 13, 14, 15, 16, 17, 18] rfl
    refine va_callv (va_runV (As := [.int (f 5)]) (rest := []) ⟨hx, hb, hml, hown, htz⟩ ((m_111 c_103) H.size) (cwV 1 htz (z_gV (fun _ h => h) km_Mo_92 in_Mo_fail se_Mo_fail ini_Mo m_Mo_fail) rfl rfl rfl (by decide +kernel) ⟨(Nat.le_of_ble_eq_true rfl), (Nat.le_of_ble_eq_true rfl)⟩) ⟨z_blind, va_recv hK hP (ci := 4) (q0 := 0) rfl rfl, fun U hU hW => ⟨rfl, by rw [hU], hE.call hS hFc hU hW, by rw [hU]; exact hP, va_K.moved hW.alike hK, hD.weaken (fun _ _ _ _ => trivial)⟩⟩ rfl rfl hl.1 rfl (lv_room (Nat.le_of_ble_eq_true rfl)) d_Mo_words_111 ⟨(Nat.le_of_ble_eq_true rfl), (Nat.le_of_ble_eq_true rfl)⟩) hS (fun q _ h => hFc q h) hFc (fun u t H1 locs ht hvm hw hB hz1 hk1 hS => ?_)
    obtain ⟨hP1, hK1, hD1⟩ := hB
    rw [ht] at hP1
    exact (k_111 c_103) _ _ hw H1 locs ls (lv_sub hl [0, 1, 2, 3, 4] rfl) hP1 (hD1.weaken (fun _ q _ h => hFc _ h)) hS
set_option maxHeartbeats 1000000 in
set_option maxRecDepth 100000 in
theorem k_Mo_words_114 {C : CT} (X : cM C "QuestionTextModel" b_Mo_words 5 none) (Post : FT → GT → Prop) (x1 : Int32) (x2 : Int32) (x3 : Int32) (x4 : Int32) (f : FT) (g : GT)
    (k_131 : (0 ≤ f 6) → zn_words C Post 131 [(0, .ref (ad C.1 0)), (1, .int x1), (2, .int x2), (3, .int x3), (4, .int x4)] [] f g)
    (k_131_1 : (¬ 0 ≤ f 6) → zn_words C Post 131 [(0, .ref (ad C.1 0)), (1, .int x1), (2, .int x2), (3, .int x3), (4, .int x4)] [] (va_up f 5 ((f 5) + 1)) g) : zn_words C Post 114 [(0, .ref (ad C.1 0)), (1, .int x1), (2, .int x2), (3, .int x3), (4, .int x4)] [] f g := by
  obtain ⟨⟨l, dC, dI, k, a⟩, p, e, s, m, args, below, meth, c, A⟩ := C
  obtain ⟨hx, hb, hr, htz, hown, hlocks, hml, hE, hK, hA⟩ := X
  intro H locs ls hl hP hD hS
  have hl : lv_has ls 5 [(0, .ref (a 0)), (1, .int x1), (2, .int x2), (3, .int x3), (4, .int x4)] := hl
  have hP : va_P (dC, dI) classes (mw k a f g) H := hP
  have hD : va_D A (mw k a f g) := hD
  show W p l e (z_rm 3 0 0) s m args below meth c H locs 0 0 _ (F0 m 114 ls [])
  refine lv_aload_n hx hb d_Mo_words_114 rfl (lv_at hl 0 rfl) ?_
  refine va_get (D := (dC, dI)) (ci := 4) (v := .int (f 6)) (C := R_Mo) (T := F_Mo) (N := 31) hx hb htz i_Mo hown hK hP 0 rfl rfl 19 (by decide) (htz _ kf_Mo_86) (fun _ h9 => h9) rfl d_Mo_words_115 ?_
  refine lv_if_ge (tgt := 131) hx hb d_Mo_words_118 (by decide) (fun c_118 => ?_) (fun c_118 => ?_)
  · exact (k_131 c_118) H locs ls (lv_sub hl [0, 1, 2, 3, 4] rfl) hP hD hS
  · refine lv_aload_n hx hb d_Mo_words_121 rfl (lv_at hl 0 rfl) ?_
    refine lv_dup hx hb d_Mo_words_122 rfl ?_
    refine va_get (D := (dC, dI)) (ci := 4) (v := .int (f 5)) (C := R_Mo) (T := F_Mo) (N := 31) hx hb htz i_Mo hown hK hP 0 rfl rfl 18 (by decide) (htz _ kf_Mo_79) (fun _ h9 => h9) rfl d_Mo_words_123 ?_
    refine lv_iconst (v := 1) hx hb d_Mo_words_126 (by decide) ?_
    refine lv_iadd hx hb d_Mo_words_127 ?_
    refine va_put (D := (dC, dI)) (ci := 4) (v := .int ((f 5) + 1)) (ty := .int) (C := R_Mo) (T := F_Mo) (N := 31) hx hb htz i_Mo t_Mo o_Mo n_Mo hown hK hP hD hS 0 rfl rfl 18 (by decide) (htz _ kf_Mo_79) (fun _ h9 => h9) rfl (by decide +kernel) rfl rfl (Nat.le_of_ble_eq_true rfl) d_Mo_words_128 (fun H locs hP hD hS => ?_)
    replace hP := mf_5 (v := (f 5) + 1) hP
    replace hD := md_5 (v := (f 5) + 1) hD
    exact (k_131_1 c_118) H locs ls (lv_sub hl [0, 1, 2, 3, 4] rfl) hP hD hS
set_option maxHeartbeats 1000000 in
set_option maxRecDepth 100000 in
theorem k_Mo_words_131 {C : CT} (X : cM C "QuestionTextModel" b_Mo_words 5 none) (Post : FT → GT → Prop) (x1 : Int32) (x2 : Int32) (x3 : Int32) (x4 : Int32) (f : FT) (g : GT)
    (h_138 : vp_in (x3) 1220)
    (q_139 : Post f (va_up g 5 (upd (g 5) (x3 : Int32).toNatClampNeg x4))) : zn_words C Post 131 [(0, .ref (ad C.1 0)), (1, .int x1), (2, .int x2), (3, .int x3), (4, .int x4)] [] f g := by
  obtain ⟨⟨l, dC, dI, k, a⟩, p, e, s, m, args, below, meth, c, A⟩ := C
  obtain ⟨hx, hb, hr, htz, hown, hlocks, hml, hE, hK, hA⟩ := X
  intro H locs ls hl hP hD hS
  have hl : lv_has ls 5 [(0, .ref (a 0)), (1, .int x1), (2, .int x2), (3, .int x3), (4, .int x4)] := hl
  have hP : va_P (dC, dI) classes (mw k a f g) H := hP
  have hD : va_D A (mw k a f g) := hD
  show W p l e (z_rm 3 0 0) s m args below meth c H locs 0 0 _ (F0 m 131 ls [])
  refine lv_aload_n hx hb d_Mo_words_131 rfl (lv_at hl 0 rfl) ?_
  refine va_get (D := (dC, dI)) (ci := 4) (v := .ref (a 6)) (C := R_Mo) (T := F_Mo) (N := 31) hx hb htz i_Mo hown hK hP 0 rfl rfl 10 (by decide) (htz _ kf_Mo_30) (fun _ h9 => h9) rfl d_Mo_words_132 ?_
  refine lv_iload_n hx hb d_Mo_words_135 rfl (lv_at hl 3 rfl) ?_
  refine lv_iload hx hb d_Mo_words_136 (lv_at hl 4 rfl) ?_
  refine va_iast hx hb hK hP hD hS 6 0 rfl rfl h_138 d_Mo_words_138 (fun H locs hP hD hS => ?_)
  replace hP := mg_5 (c := upd (g 5) (x3 : Int32).toNatClampNeg x4) hP
  replace hD := mh_5 (c := upd (g 5) (x3 : Int32).toNatClampNeg x4) hD
  exact W.vret hx hb hr (fun t ht hW => ⟨⟨(f, va_up g 5 (upd (g 5) (x3 : Int32).toNatClampNeg x4)), rfl, q_139, by rw [ht]; exact hP, va_K.moved hW.alike hK, hD⟩, hS.F ht⟩) hS.2.2 d_Mo_words_139
set_option maxHeartbeats 1000000 in
set_option maxRecDepth 100000 in
theorem e_Mo_words (T : ST) (Post : FT → GT → Prop) (x1 : Int32) (x2 : Int32) (f : FT) (g : GT) (h : ∀ C : CT, C.1 = T → cM C "QuestionTextModel" b_Mo_words 5 none → zn_words C Post 0 [(0, .ref (ad C.1 0)), (1, .int x1), (2, .int x2)] [] f g) : mV T y_Mo_words (Cond.code y_Mo_words b_Mo_words 5 none) 3 [.ref (ad T 0), .int x1, .int x2] f g Post := by
  obtain ⟨l, dC, dI, k, a⟩ := T
  intro sz
  refine Met.ofW (cc := b_Mo_words) (maxL := 5) (ret := none) (by decide) rfl ?_
  intro p e s m args below meth c s₁ B hml hv
  obtain ⟨rfl, hsz, hE, hP, hK, hD0⟩ := hv
  have hts := atoms_spec (ws := (Cond.code y_Mo_words b_Mo_words 5 none) :: z_T) B.pre
  have htz : ∀ w ∈ z_T, w.before _ s = true := fun w h => hts w (z_cons w h)
  subst hsz
  have hD := hD0.self (sz := s.heap.size)
  generalize hAe : va_A (mw k a f g) s.heap.size = A at hD hE ⊢
  have hA : ∀ q : Nat, s.heap.size ≤ q → A q := fun q h => by rw [← hAe]; exact Or.inr h
  have hl := lv_entry ([.ref (a 0), .int x1, .int x2]) (n := 5) (Nat.le_of_ble_eq_true rfl)
  rw [lg_entry_eq]
  generalize (lg_sl ([.ref (a 0), .int x1, .int x2]) ++ List.replicate (5 - (lg_sl ([.ref (a 0), .int x1, .int x2])).length) Slot.unset).toArray = ls at hl ⊢
  exact h ((l, dC, dI, k, a), p, e, s, m, ([.ref (a 0), .int x1, .int x2] : List Value).toArray, below, meth, c, A) rfl ⟨B.exec, B.bytes, B.returns, htz, findClass_of_methodNamed B.named, B.notSynchronized, hml, hE, hK, hA⟩ s.heap [] ls hl hP hD va_S.rf
