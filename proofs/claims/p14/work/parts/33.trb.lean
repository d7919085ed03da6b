def zc_Sp_init (C : CT) (Post : va_W → Prop) (c0 s0 pc : Nat) (loc : List (Nat × Value)) (st : List Value) (ws : va_W) : Prop := zW C (z_rm 0 0 0) 3 (oV C 0 0 Post) c0 s0 pc loc st ws
set_option maxHeartbeats 1000000 in
set_option maxRecDepth 100000 in
theorem k_Sp_init_0 {C : CT} (X : cN C "QuestionText$Span" b_Sp_init 3 none) (Post : va_W → Prop) (x1 : Int32) (x2 : Int32) (h0 : Nat) (c0 s0 : Nat)
    (b_14 : c0 ≤ 0 ∧ s0 ≤ 0)
    (q_14 : Post ([(h0, .inr (7, [.int x1, .int x2]))])) : zc_Sp_init C Post c0 s0 0 [(0, .ref h0), (1, .int x1), (2, .int x2)] [] ([(h0, .inr (7, [.int 0, .int 0]))]) := by
  obtain ⟨⟨l, dC, dI, k, a⟩, p, e, s, m, args, below, meth, c, A⟩ := C
  obtain ⟨⟨hx, hb, hr, htz, hown, hlocks, hml, hE, hK, hA⟩, hin⟩ := X
  intro H locs ls hl hP hD hS
  have hl : lv_has ls 3 [(0, .ref h0), (1, .int x1), (2, .int x2)] := hl
  have hP : va_P (dC, dI) classes ([(h0, .inr (7, [.int 0, .int 0]))]) H := hP
  have hD : va_D A ([(h0, .inr (7, [.int 0, .int 0]))]) := hD
  show W p l e (z_rm 0 0 0) s m args below meth c H locs c0 s0 _ (F0 m 0 ls [])
  refine lv_aload_n hx hb d_Sp_init_0 rfl (lv_at hl 0 rfl) ?_
  refine W.objInit hx hb hown (htz _ km_Sp_1) (htz _ in_Obj) (htz _ m_Obj) rfl (hl.1.trans hml.symm) rfl d_Sp_init_1 (Nat.le_of_ble_eq_true rfl) (Nat.le_of_ble_eq_true rfl) ?_
  refine lv_aload_n hx hb d_Sp_init_4 rfl (lv_at hl 0 rfl) ?_
  refine lv_iload_n hx hb d_Sp_init_5 rfl (lv_at hl 1 rfl) ?_
  refine va_putF (D := (dC, dI)) (ci := 7) (v := .int x1) (ty := .int) (C := R_Sp) (T := F_Sp) (N := 2) hx hb htz i_Sp t_Sp o_Sp n_Sp hown hK hP hD hS 0 rfl rfl 0 (by decide) (htz _ kf_Sp_7) (fun _ h9 => h9) rfl hin rfl (by decide +kernel) rfl rfl (Nat.le_of_ble_eq_true rfl) d_Sp_init_6 (fun H locs hP hD hS => ?_)
  have hP : va_P (dC, dI) classes ([(h0, .inr (7, [.int x1, .int 0]))]) H := hP
  have hD : va_D A ([(h0, .inr (7, [.int x1, .int 0]))]) := hD
  refine lv_aload_n hx hb d_Sp_init_9 rfl (lv_at hl 0 rfl) ?_
  refine lv_iload_n hx hb d_Sp_init_10 rfl (lv_at hl 2 rfl) ?_
  refine va_putF (D := (dC, dI)) (ci := 7) (v := .int x2) (ty := .int) (C := R_Sp) (T := F_Sp) (N := 2) hx hb htz i_Sp t_Sp o_Sp n_Sp hown hK hP hD hS 0 rfl rfl 1 (by decide) (htz _ kf_Sp_13) (fun _ h9 => h9) rfl hin rfl (by decide +kernel) rfl rfl (Nat.le_of_ble_eq_true rfl) d_Sp_init_11 (fun H locs hP hD hS => ?_)
  have hP : va_P (dC, dI) classes ([(h0, .inr (7, [.int x1, .int x2]))]) H := hP
  have hD : va_D A ([(h0, .inr (7, [.int x1, .int x2]))]) := hD
  refine W.widen (k := 0) (n := 0) b_14.1 b_14.2 ?_
  exact W.vret hx hb hr (fun t ht hW => ⟨⟨([(h0, .inr (7, [.int x1, .int x2]))]), rfl, q_14, by rw [ht]; exact hP, va_K.moved hW.alike hK, hD⟩, hS.F ht⟩) hS.2.2 d_Sp_init_14
set_option maxHeartbeats 1000000 in
set_option maxRecDepth 100000 in
theorem e_Sp_init (T : ST) (Post : va_W → Prop) (x1 : Int32) (x2 : Int32) (h0 : Nat) (h : ∀ C : CT, C.1 = T → cN C "QuestionText$Span" b_Sp_init 3 none → zc_Sp_init C Post 0 0 0 [(0, .ref h0), (1, .int x1), (2, .int x2)] [] ([(h0, .inr (7, [.int 0, .int 0]))])) : uV T y_Sp_init (Cond.code y_Sp_init b_Sp_init 3 none) 0 0 0 [.ref h0, .int x1, .int x2] ([(h0, .inr (7, [.int 0, .int 0]))]) Post := by
  obtain ⟨l, dC, dI, k, a⟩ := T
  intro sz
  refine Met.ofW (cc := b_Sp_init) (maxL := 3) (ret := none) (by decide) rfl ?_
  intro p e s m args below meth c s₁ B hml hv
  obtain ⟨rfl, hsz, hE, hP, hK, hD0⟩ := hv
  have hts := atoms_spec (ws := (Cond.code y_Sp_init b_Sp_init 3 none) :: z_T) B.pre
  have htz : ∀ w ∈ z_T, w.before _ s = true := fun w h => hts w (z_cons w h)
  subst hsz
  have hD := hD0.self (sz := s.heap.size)
  generalize hAe : va_A ([(h0, .inr (7, [.int 0, .int 0]))]) s.heap.size = A at hD hE ⊢
  have hA : ∀ q : Nat, s.heap.size ≤ q → A q := fun q h => by rw [← hAe]; exact Or.inr h
  have hl := lv_entry ([.ref h0, .int x1, .int x2]) (n := 3) (Nat.le_of_ble_eq_true rfl)
  rw [lg_entry_eq]
  generalize (lg_sl ([.ref h0, .int x1, .int x2]) ++ List.replicate (3 - (lg_sl ([.ref h0, .int x1, .int x2])).length) Slot.unset).toArray = ls at hl ⊢
  exact h ((l, dC, dI, k, a), p, e, s, m, ([.ref h0, .int x1, .int x2] : List Value).toArray, below, meth, c, A) rfl ⟨⟨B.exec, B.bytes, B.returns, htz, findClass_of_methodNamed B.named, B.notSynchronized, hml, hE, hK, hA⟩, (name_of_methodNamed B.named B.method).1⟩ s.heap [] ls hl hP hD va_S.rf
def zc_Ju_init (C : CT) (Post : va_W → Prop) (c0 s0 pc : Nat) (loc : List (Nat × Value)) (st : List Value) (ws : va_W) : Prop := zW C (z_rm 0 0 0) 4 (oV C 0 0 Post) c0 s0 pc loc st ws
set_option maxHeartbeats 1000000 in
set_option maxRecDepth 100000 in
theorem k_Ju_init_0 {C : CT} (X : cN C "QuestionText$Jump" b_Ju_init 4 none) (Post : va_W → Prop) (x1 : Nat) (x2 : Int32) (x3 : Int32) (h0 : Nat) (c0 s0 : Nat)
    (b_19 : c0 ≤ 0 ∧ s0 ≤ 0)
    (q_19 : Post ([(h0, .inr (8, [.ref x1, .int x2, .int x3]))])) : zc_Ju_init C Post c0 s0 0 [(0, .ref h0), (1, .ref x1), (2, .int x2), (3, .int x3)] [] ([(h0, .inr (8, [.null, .int 0, .int 0]))]) := by
  obtain ⟨⟨l, dC, dI, k, a⟩, p, e, s, m, args, below, meth, c, A⟩ := C
  obtain ⟨⟨hx, hb, hr, htz, hown, hlocks, hml, hE, hK, hA⟩, hin⟩ := X
  intro H locs ls hl hP hD hS
  have hl : lv_has ls 4 [(0, .ref h0), (1, .ref x1), (2, .int x2), (3, .int x3)] := hl
  have hP : va_P (dC, dI) classes ([(h0, .inr (8, [.null, .int 0, .int 0]))]) H := hP
  have hD : va_D A ([(h0, .inr (8, [.null, .int 0, .int 0]))]) := hD
  show W p l e (z_rm 0 0 0) s m args below meth c H locs c0 s0 _ (F0 m 0 ls [])
  refine lv_aload_n hx hb d_Ju_init_0 rfl (lv_at hl 0 rfl) ?_
  refine W.objInit hx hb hown (htz _ km_Ju_1) (htz _ in_Obj) (htz _ m_Obj) rfl (hl.1.trans hml.symm) rfl d_Ju_init_1 (Nat.le_of_ble_eq_true rfl) (Nat.le_of_ble_eq_true rfl) ?_
  refine lv_aload_n hx hb d_Ju_init_4 rfl (lv_at hl 0 rfl) ?_
  refine lv_aload_n hx hb d_Ju_init_5 rfl (lv_at hl 1 rfl) ?_
  refine va_putF (D := (dC, dI)) (ci := 8) (v := .ref x1) (ty := .object "QuestionText$Span") (C := R_Ju) (T := F_Ju) (N := 3) hx hb htz i_Ju t_Ju o_Ju n_Ju hown hK hP hD hS 0 rfl rfl 0 (by decide) (htz _ kf_Ju_7) (fun _ h9 => h9) rfl hin rfl (by decide +kernel) rfl rfl (Nat.le_of_ble_eq_true rfl) d_Ju_init_6 (fun H locs hP hD hS => ?_)
  have hP : va_P (dC, dI) classes ([(h0, .inr (8, [.ref x1, .int 0, .int 0]))]) H := hP
  have hD : va_D A ([(h0, .inr (8, [.ref x1, .int 0, .int 0]))]) := hD
  refine lv_aload_n hx hb d_Ju_init_9 rfl (lv_at hl 0 rfl) ?_
  refine lv_iload_n hx hb d_Ju_init_10 rfl (lv_at hl 2 rfl) ?_
  refine va_putF (D := (dC, dI)) (ci := 8) (v := .int x2) (ty := .int) (C := R_Ju) (T := F_Ju) (N := 3) hx hb htz i_Ju t_Ju o_Ju n_Ju hown hK hP hD hS 0 rfl rfl 1 (by decide) (htz _ kf_Ju_13) (fun _ h9 => h9) rfl hin rfl (by decide +kernel) rfl rfl (Nat.le_of_ble_eq_true rfl) d_Ju_init_11 (fun H locs hP hD hS => ?_)
  have hP : va_P (dC, dI) classes ([(h0, .inr (8, [.ref x1, .int x2, .int 0]))]) H := hP
  have hD : va_D A ([(h0, .inr (8, [.ref x1, .int x2, .int 0]))]) := hD
  refine lv_aload_n hx hb d_Ju_init_14 rfl (lv_at hl 0 rfl) ?_
  refine lv_iload_n hx hb d_Ju_init_15 rfl (lv_at hl 3 rfl) ?_
  refine va_putF (D := (dC, dI)) (ci := 8) (v := .int x3) (ty := .int) (C := R_Ju) (T := F_Ju) (N := 3) hx hb htz i_Ju t_Ju o_Ju n_Ju hown hK hP hD hS 0 rfl rfl 2 (by decide) (htz _ kf_Ju_17) (fun _ h9 => h9) rfl hin rfl (by decide +kernel) rfl rfl (Nat.le_of_ble_eq_true rfl) d_Ju_init_16 (fun H locs hP hD hS => ?_)
  have hP : va_P (dC, dI) classes ([(h0, .inr (8, [.ref x1, .int x2, .int x3]))]) H := hP
  have hD : va_D A ([(h0, .inr (8, [.ref x1, .int x2, .int x3]))]) := hD
  refine W.widen (k := 0) (n := 0) b_19.1 b_19.2 ?_
  exact W.vret hx hb hr (fun t ht hW => ⟨⟨([(h0, .inr (8, [.ref x1, .int x2, .int x3]))]), rfl, q_19, by rw [ht]; exact hP, va_K.moved hW.alike hK, hD⟩, hS.F ht⟩) hS.2.2 d_Ju_init_19
set_option maxHeartbeats 1000000 in
set_option maxRecDepth 100000 in
theorem e_Ju_init (T : ST) (Post : va_W → Prop) (x1 : Nat) (x2 : Int32) (x3 : Int32) (h0 : Nat) (h : ∀ C : CT, C.1 = T → cN C "QuestionText$Jump" b_Ju_init 4 none → zc_Ju_init C Post 0 0 0 [(0, .ref h0), (1, .ref x1), (2, .int x2), (3, .int x3)] [] ([(h0, .inr (8, [.null, .int 0, .int 0]))])) : uV T y_Ju_init (Cond.code y_Ju_init b_Ju_init 4 none) 0 0 0 [.ref h0, .ref x1, .int x2, .int x3] ([(h0, .inr (8, [.null, .int 0, .int 0]))]) Post := by
  obtain ⟨l, dC, dI, k, a⟩ := T
  intro sz
  refine Met.ofW (cc := b_Ju_init) (maxL := 4) (ret := none) (by decide) rfl ?_
  intro p e s m args below meth c s₁ B hml hv
  obtain ⟨rfl, hsz, hE, hP, hK, hD0⟩ := hv
  have hts := atoms_spec (ws := (Cond.code y_Ju_init b_Ju_init 4 none) :: z_T) B.pre
  have htz : ∀ w ∈ z_T, w.before _ s = true := fun w h => hts w (z_cons w h)
  subst hsz
  have hD := hD0.self (sz := s.heap.size)
  generalize hAe : va_A ([(h0, .inr (8, [.null, .int 0, .int 0]))]) s.heap.size = A at hD hE ⊢
  have hA : ∀ q : Nat, s.heap.size ≤ q → A q := fun q h => by rw [← hAe]; exact Or.inr h
  have hl := lv_entry ([.ref h0, .ref x1, .int x2, .int x3]) (n := 4) (Nat.le_of_ble_eq_true rfl)
  rw [lg_entry_eq]
  generalize (lg_sl ([.ref h0, .ref x1, .int x2, .int x3]) ++ List.replicate (4 - (lg_sl ([.ref h0, .ref x1, .int x2, .int x3])).length) Slot.unset).toArray = ls at hl ⊢
  exact h ((l, dC, dI, k, a), p, e, s, m, ([.ref h0, .ref x1, .int x2, .int x3] : List Value).toArray, below, meth, c, A) rfl ⟨⟨B.exec, B.bytes, B.returns, htz, findClass_of_methodNamed B.named, B.notSynchronized, hml, hE, hK, hA⟩, (name_of_methodNamed B.named B.method).1⟩ s.heap [] ls hl hP hD va_S.rf
def zc_Te_init (C : CT) (Post : va_W → Prop) (c0 s0 pc : Nat) (loc : List (Nat × Value)) (st : List Value) (ws : va_W) : Prop := zW C (z_rm 0 0 0) 4 (oV C 0 0 Post) c0 s0 pc loc st ws
set_option maxHeartbeats 1000000 in
set_option maxRecDepth 100000 in
theorem k_Te_init_0 {C : CT} (X : cN C "QuestionText$Term" b_Te_init 4 none) (Post : va_W → Prop) (x1 : Int32) (x2 : Int32) (x3 : Int32) (h0 : Nat) (c0 s0 : Nat)
    (b_19 : c0 ≤ 0 ∧ s0 ≤ 0)
    (q_19 : Post ([(h0, .inr (9, [.int x1, .int x2, .int x3]))])) : zc_Te_init C Post c0 s0 0 [(0, .ref h0), (1, .int x1), (2, .int x2), (3, .int x3)] [] ([(h0, .inr (9, [.int 0, .int 0, .int 0]))]) := by
  obtain ⟨⟨l, dC, dI, k, a⟩, p, e, s, m, args, below, meth, c, A⟩ := C
  obtain ⟨⟨hx, hb, hr, htz, hown, hlocks, hml, hE, hK, hA⟩, hin⟩ := X
  intro H locs ls hl hP hD hS
  have hl : lv_has ls 4 [(0, .ref h0), (1, .int x1), (2, .int x2), (3, .int x3)] := hl
  have hP : va_P (dC, dI) classes ([(h0, .inr (9, [.int 0, .int 0, .int 0]))]) H := hP
  have hD : va_D A ([(h0, .inr (9, [.int 0, .int 0, .int 0]))]) := hD
  show W p l e (z_rm 0 0 0) s m args below meth c H locs c0 s0 _ (F0 m 0 ls [])
  refine lv_aload_n hx hb d_Te_init_0 rfl (lv_at hl 0 rfl) ?_
  refine W.objInit hx hb hown (htz _ km_Te_3) (htz _ in_Obj) (htz _ m_Obj) rfl (hl.1.trans hml.symm) rfl d_Te_init_1 (Nat.le_of_ble_eq_true rfl) (Nat.le_of_ble_eq_true rfl) ?_
  refine lv_aload_n hx hb d_Te_init_4 rfl (lv_at hl 0 rfl) ?_
  refine lv_iload_n hx hb d_Te_init_5 rfl (lv_at hl 1 rfl) ?_
  refine va_putF (D := (dC, dI)) (ci := 9) (v := .int x1) (ty := .int) (C := R_Te) (T := F_Te) (N := 3) hx hb htz i_Te t_Te o_Te n_Te hown hK hP hD hS 0 rfl rfl 0 (by decide) (htz _ kf_Te_9) (fun _ h9 => h9) rfl hin rfl (by decide +kernel) rfl rfl (Nat.le_of_ble_eq_true rfl) d_Te_init_6 (fun H locs hP hD hS => ?_)
  have hP : va_P (dC, dI) classes ([(h0, .inr (9, [.int x1, .int 0, .int 0]))]) H := hP
  have hD : va_D A ([(h0, .inr (9, [.int x1, .int 0, .int 0]))]) := hD
  refine lv_aload_n hx hb d_Te_init_9 rfl (lv_at hl 0 rfl) ?_
  refine lv_iload_n hx hb d_Te_init_10 rfl (lv_at hl 2 rfl) ?_
  refine va_putF (D := (dC, dI)) (ci := 9) (v := .int x2) (ty := .int) (C := R_Te) (T := F_Te) (N := 3) hx hb htz i_Te t_Te o_Te n_Te hown hK hP hD hS 0 rfl rfl 1 (by decide) (htz _ kf_Te_15) (fun _ h9 => h9) rfl hin rfl (by decide +kernel) rfl rfl (Nat.le_of_ble_eq_true rfl) d_Te_init_11 (fun H locs hP hD hS => ?_)
  have hP : va_P (dC, dI) classes ([(h0, .inr (9, [.int x1, .int x2, .int 0]))]) H := hP
  have hD : va_D A ([(h0, .inr (9, [.int x1, .int x2, .int 0]))]) := hD
  refine lv_aload_n hx hb d_Te_init_14 rfl (lv_at hl 0 rfl) ?_
  refine lv_iload_n hx hb d_Te_init_15 rfl (lv_at hl 3 rfl) ?_
  refine va_putF (D := (dC, dI)) (ci := 9) (v := .int x3) (ty := .int) (C := R_Te) (T := F_Te) (N := 3) hx hb htz i_Te t_Te o_Te n_Te hown hK hP hD hS 0 rfl rfl 2 (by decide) (htz _ kf_Te_18) (fun _ h9 => h9) rfl hin rfl (by decide +kernel) rfl rfl (Nat.le_of_ble_eq_true rfl) d_Te_init_16 (fun H locs hP hD hS => ?_)
  have hP : va_P (dC, dI) classes ([(h0, .inr (9, [.int x1, .int x2, .int x3]))]) H := hP
  have hD : va_D A ([(h0, .inr (9, [.int x1, .int x2, .int x3]))]) := hD
  refine W.widen (k := 0) (n := 0) b_19.1 b_19.2 ?_
  exact W.vret hx hb hr (fun t ht hW => ⟨⟨([(h0, .inr (9, [.int x1, .int x2, .int x3]))]), rfl, q_19, by rw [ht]; exact hP, va_K.moved hW.alike hK, hD⟩, hS.F ht⟩) hS.2.2 d_Te_init_19
set_option maxHeartbeats 1000000 in
set_option maxRecDepth 100000 in
theorem e_Te_init (T : ST) (Post : va_W → Prop) (x1 : Int32) (x2 : Int32) (x3 : Int32) (h0 : Nat) (h : ∀ C : CT, C.1 = T → cN C "QuestionText$Term" b_Te_init 4 none → zc_Te_init C Post 0 0 0 [(0, .ref h0), (1, .int x1), (2, .int x2), (3, .int x3)] [] ([(h0, .inr (9, [.int 0, .int 0, .int 0]))])) : uV T y_Te_init (Cond.code y_Te_init b_Te_init 4 none) 0 0 0 [.ref h0, .int x1, .int x2, .int x3] ([(h0, .inr (9, [.int 0, .int 0, .int 0]))]) Post := by
  obtain ⟨l, dC, dI, k, a⟩ := T
  intro sz
  refine Met.ofW (cc := b_Te_init) (maxL := 4) (ret := none) (by decide) rfl ?_
  intro p e s m args below meth c s₁ B hml hv
  obtain ⟨rfl, hsz, hE, hP, hK, hD0⟩ := hv
  have hts := atoms_spec (ws := (Cond.code y_Te_init b_Te_init 4 none) :: z_T) B.pre
  have htz : ∀ w ∈ z_T, w.before _ s = true := fun w h => hts w (z_cons w h)
  subst hsz
  have hD := hD0.self (sz := s.heap.size)
  generalize hAe : va_A ([(h0, .inr (9, [.int 0, .int 0, .int 0]))]) s.heap.size = A at hD hE ⊢
  have hA : ∀ q : Nat, s.heap.size ≤ q → A q := fun q h => by rw [← hAe]; exact Or.inr h
  have hl := lv_entry ([.ref h0, .int x1, .int x2, .int x3]) (n := 4) (Nat.le_of_ble_eq_true rfl)
  rw [lg_entry_eq]
  generalize (lg_sl ([.ref h0, .int x1, .int x2, .int x3]) ++ List.replicate (4 - (lg_sl ([.ref h0, .int x1, .int x2, .int x3])).length) Slot.unset).toArray = ls at hl ⊢
  exact h ((l, dC, dI, k, a), p, e, s, m, ([.ref h0, .int x1, .int x2, .int x3] : List Value).toArray, below, meth, c, A) rfl ⟨⟨B.exec, B.bytes, B.returns, htz, findClass_of_methodNamed B.named, B.notSynchronized, hml, hE, hK, hA⟩, (name_of_methodNamed B.named B.method).1⟩ s.heap [] ls hl hP hD va_S.rf
def zc_Qu_init (C : CT) (Post : va_W → Prop) (c0 s0 pc : Nat) (loc : List (Nat × Value)) (st : List Value) (ws : va_W) : Prop := zW C (z_rm 0 0 0) 7 (oV C 0 0 Post) c0 s0 pc loc st ws
set_option maxHeartbeats 1000000 in
set_option maxRecDepth 100000 in
theorem k_Qu_init_0 {C : CT} (X : cN C "QuestionText$Question" b_Qu_init 7 none) (Post : va_W → Prop) (x1 : Int32) (x2 : Nat) (x3 : Nat) (x4 : Nat) (x5 : Nat) (x6 : Nat) (h0 : Nat) (c0 s0 : Nat)
    (z_6 : narrow .boolean (.int (x1)) = .int (x1))
    (f_6 : fits .boolean (.int (x1)) = true)
    (b_37 : c0 ≤ 0 ∧ s0 ≤ 0)
    (q_37 : Post ([(h0, .inr (6, [.int x1, .ref x2, .ref x3, .ref x4, .ref x5, .ref x6]))])) : zc_Qu_init C Post c0 s0 0 [(0, .ref h0), (1, .int x1), (2, .ref x2), (3, .ref x3), (4, .ref x4), (5, .ref x5), (6, .ref x6)] [] ([(h0, .inr (6, [.int 0, .null, .null, .null, .null, .null]))]) := by
  obtain ⟨⟨l, dC, dI, k, a⟩, p, e, s, m, args, below, meth, c, A⟩ := C
  obtain ⟨⟨hx, hb, hr, htz, hown, hlocks, hml, hE, hK, hA⟩, hin⟩ := X
  intro H locs ls hl hP hD hS
  have hl : lv_has ls 7 [(0, .ref h0), (1, .int x1), (2, .ref x2), (3, .ref x3), (4, .ref x4), (5, .ref x5), (6, .ref x6)] := hl
  have hP : va_P (dC, dI) classes ([(h0, .inr (6, [.int 0, .null, .null, .null, .null, .null]))]) H := hP
  have hD : va_D A ([(h0, .inr (6, [.int 0, .null, .null, .null, .null, .null]))]) := hD
  show W p l e (z_rm 0 0 0) s m args below meth c H locs c0 s0 _ (F0 m 0 ls [])
  refine lv_aload_n hx hb d_Qu_init_0 rfl (lv_at hl 0 rfl) ?_
  refine W.objInit hx hb hown (htz _ km_Qu_3) (htz _ in_Obj) (htz _ m_Obj) rfl (hl.1.trans hml.symm) rfl d_Qu_init_1 (Nat.le_of_ble_eq_true rfl) (Nat.le_of_ble_eq_true rfl) ?_
  refine lv_aload_n hx hb d_Qu_init_4 rfl (lv_at hl 0 rfl) ?_
  refine lv_iload_n hx hb d_Qu_init_5 rfl (lv_at hl 1 rfl) ?_
  refine va_putF (D := (dC, dI)) (ci := 6) (v := .int x1) (ty := .boolean) (C := R_Qu) (T := F_Qu) (N := 6) hx hb htz i_Qu t_Qu o_Qu n_Qu hown hK hP hD hS 0 rfl rfl 0 (by decide) (htz _ kf_Qu_9) (fun _ h9 => h9) rfl hin rfl (by decide +kernel) z_6 f_6 (Nat.le_of_ble_eq_true rfl) d_Qu_init_6 (fun H locs hP hD hS => ?_)
  have hP : va_P (dC, dI) classes ([(h0, .inr (6, [.int x1, .null, .null, .null, .null, .null]))]) H := hP
  have hD : va_D A ([(h0, .inr (6, [.int x1, .null, .null, .null, .null, .null]))]) := hD
  refine lv_aload_n hx hb d_Qu_init_9 rfl (lv_at hl 0 rfl) ?_
  refine lv_aload_n hx hb d_Qu_init_10 rfl (lv_at hl 2 rfl) ?_
  refine va_putF (D := (dC, dI)) (ci := 6) (v := .ref x2) (ty := .object "QuestionText$Span") (C := R_Qu) (T := F_Qu) (N := 6) hx hb htz i_Qu t_Qu o_Qu n_Qu hown hK hP hD hS 0 rfl rfl 1 (by decide) (htz _ kf_Qu_15) (fun _ h9 => h9) rfl hin rfl (by decide +kernel) rfl rfl (Nat.le_of_ble_eq_true rfl) d_Qu_init_11 (fun H locs hP hD hS => ?_)
  have hP : va_P (dC, dI) classes ([(h0, .inr (6, [.int x1, .ref x2, .null, .null, .null, .null]))]) H := hP
  have hD : va_D A ([(h0, .inr (6, [.int x1, .ref x2, .null, .null, .null, .null]))]) := hD
  refine lv_aload_n hx hb d_Qu_init_14 rfl (lv_at hl 0 rfl) ?_
  refine lv_aload_n hx hb d_Qu_init_15 rfl (lv_at hl 3 rfl) ?_
  refine va_putF (D := (dC, dI)) (ci := 6) (v := .ref x3) (ty := .array .int) (C := R_Qu) (T := F_Qu) (N := 6) hx hb htz i_Qu t_Qu o_Qu n_Qu hown hK hP hD hS 0 rfl rfl 2 (by decide) (htz _ kf_Qu_19) (fun _ h9 => h9) rfl hin rfl (by decide +kernel) rfl rfl (Nat.le_of_ble_eq_true rfl) d_Qu_init_16 (fun H locs hP hD hS => ?_)
  have hP : va_P (dC, dI) classes ([(h0, .inr (6, [.int x1, .ref x2, .ref x3, .null, .null, .null]))]) H := hP
  have hD : va_D A ([(h0, .inr (6, [.int x1, .ref x2, .ref x3, .null, .null, .null]))]) := hD
  refine lv_aload_n hx hb d_Qu_init_19 rfl (lv_at hl 0 rfl) ?_
  refine lv_aload hx hb d_Qu_init_20 (lv_at hl 4 rfl) ?_
  refine va_putF (D := (dC, dI)) (ci := 6) (v := .ref x4) (ty := .array .int) (C := R_Qu) (T := F_Qu) (N := 6) hx hb htz i_Qu t_Qu o_Qu n_Qu hown hK hP hD hS 0 rfl rfl 3 (by decide) (htz _ kf_Qu_23) (fun _ h9 => h9) rfl hin rfl (by decide +kernel) rfl rfl (Nat.le_of_ble_eq_true rfl) d_Qu_init_22 (fun H locs hP hD hS => ?_)
  have hP : va_P (dC, dI) classes ([(h0, .inr (6, [.int x1, .ref x2, .ref x3, .ref x4, .null, .null]))]) H := hP
  have hD : va_D A ([(h0, .inr (6, [.int x1, .ref x2, .ref x3, .ref x4, .null, .null]))]) := hD
  refine lv_aload_n hx hb d_Qu_init_25 rfl (lv_at hl 0 rfl) ?_
  refine lv_aload hx hb d_Qu_init_26 (lv_at hl 5 rfl) ?_
  refine va_putF (D := (dC, dI)) (ci := 6) (v := .ref x5) (ty := .object "java/util/List") (C := R_Qu) (T := F_Qu) (N := 6) hx hb htz i_Qu t_Qu o_Qu n_Qu hown hK hP hD hS 0 rfl rfl 4 (by decide) (htz _ kf_Qu_26) (fun _ h9 => h9) rfl hin rfl (by decide +kernel) rfl rfl (Nat.le_of_ble_eq_true rfl) d_Qu_init_28 (fun H locs hP hD hS => ?_)
  have hP : va_P (dC, dI) classes ([(h0, .inr (6, [.int x1, .ref x2, .ref x3, .ref x4, .ref x5, .null]))]) H := hP
  have hD : va_D A ([(h0, .inr (6, [.int x1, .ref x2, .ref x3, .ref x4, .ref x5, .null]))]) := hD
  refine lv_aload_n hx hb d_Qu_init_31 rfl (lv_at hl 0 rfl) ?_
  refine lv_aload hx hb d_Qu_init_32 (lv_at hl 6 rfl) ?_
  refine va_putF (D := (dC, dI)) (ci := 6) (v := .ref x6) (ty := .object "QuestionText$Jump") (C := R_Qu) (T := F_Qu) (N := 6) hx hb htz i_Qu t_Qu o_Qu n_Qu hown hK hP hD hS 0 rfl rfl 5 (by decide) (htz _ kf_Qu_30) (fun _ h9 => h9) rfl hin rfl (by decide +kernel) rfl rfl (Nat.le_of_ble_eq_true rfl) d_Qu_init_34 (fun H locs hP hD hS => ?_)
  have hP : va_P (dC, dI) classes ([(h0, .inr (6, [.int x1, .ref x2, .ref x3, .ref x4, .ref x5, .ref x6]))]) H := hP
  have hD : va_D A ([(h0, .inr (6, [.int x1, .ref x2, .ref x3, .ref x4, .ref x5, .ref x6]))]) := hD
  refine W.widen (k := 0) (n := 0) b_37.1 b_37.2 ?_
  exact W.vret hx hb hr (fun t ht hW => ⟨⟨([(h0, .inr (6, [.int x1, .ref x2, .ref x3, .ref x4, .ref x5, .ref x6]))]), rfl, q_37, by rw [ht]; exact hP, va_K.moved hW.alike hK, hD⟩, hS.F ht⟩) hS.2.2 d_Qu_init_37
set_option maxHeartbeats 1000000 in
set_option maxRecDepth 100000 in
theorem e_Qu_init (T : ST) (Post : va_W → Prop) (x1 : Int32) (x2 : Nat) (x3 : Nat) (x4 : Nat) (x5 : Nat) (x6 : Nat) (h0 : Nat) (h : ∀ C : CT, C.1 = T → cN C "QuestionText$Question" b_Qu_init 7 none → zc_Qu_init C Post 0 0 0 [(0, .ref h0), (1, .int x1), (2, .ref x2), (3, .ref x3), (4, .ref x4), (5, .ref x5), (6, .ref x6)] [] ([(h0, .inr (6, [.int 0, .null, .null, .null, .null, .null]))])) : uV T y_Qu_init (Cond.code y_Qu_init b_Qu_init 7 none) 0 0 0 [.ref h0, .int x1, .ref x2, .ref x3, .ref x4, .ref x5, .ref x6] ([(h0, .inr (6, [.int 0, .null, .null, .null, .null, .null]))]) Post := by
  obtain ⟨l, dC, dI, k, a⟩ := T
  intro sz
  refine Met.ofW (cc := b_Qu_init) (maxL := 7) (ret := none) (by decide) rfl ?_
  intro p e s m args below meth c s₁ B hml hv
  obtain ⟨rfl, hsz, hE, hP, hK, hD0⟩ := hv
  have hts := atoms_spec (ws := (Cond.code y_Qu_init b_Qu_init 7 none) :: z_T) B.pre
  have htz : ∀ w ∈ z_T, w.before _ s = true := fun w h => hts w (z_cons w h)
  subst hsz
  have hD := hD0.self (sz := s.heap.size)
  generalize hAe : va_A ([(h0, .inr (6, [.int 0, .null, .null, .null, .null, .null]))]) s.heap.size = A at hD hE ⊢
  have hA : ∀ q : Nat, s.heap.size ≤ q → A q := fun q h => by rw [← hAe]; exact Or.inr h
  have hl := lv_entry ([.ref h0, .int x1, .ref x2, .ref x3, .ref x4, .ref x5, .ref x6]) (n := 7) (Nat.le_of_ble_eq_true rfl)
  rw [lg_entry_eq]
  generalize (lg_sl ([.ref h0, .int x1, .ref x2, .ref x3, .ref x4, .ref x5, .ref x6]) ++ List.replicate (7 - (lg_sl ([.ref h0, .int x1, .ref x2, .ref x3, .ref x4, .ref x5, .ref x6])).length) Slot.unset).toArray = ls at hl ⊢
  exact h ((l, dC, dI, k, a), p, e, s, m, ([.ref h0, .int x1, .ref x2, .ref x3, .ref x4, .ref x5, .ref x6] : List Value).toArray, below, meth, c, A) rfl ⟨⟨B.exec, B.bytes, B.returns, htz, findClass_of_methodNamed B.named, B.notSynchronized, hml, hE, hK, hA⟩, (name_of_methodNamed B.named B.method).1⟩ s.heap [] ls hl hP hD va_S.rf
def zc_Co_init (C : CT) (Post : va_W → Prop) (c0 s0 pc : Nat) (loc : List (Nat × Value)) (st : List Value) (ws : va_W) : Prop := zW C (z_rm 0 0 0) 3 (oV C 0 0 Post) c0 s0 pc loc st ws
set_option maxHeartbeats 1000000 in
set_option maxRecDepth 100000 in
theorem k_Co_init_0 {C : CT} (X : cN C "QuestionText$Condition" b_Co_init 3 none) (Post : va_W → Prop) (x1 : Nat) (x2 : Int32) (h0 : Nat) (c0 s0 : Nat)
    (b_14 : c0 ≤ 0 ∧ s0 ≤ 0)
    (q_14 : Post ([(h0, .inr (10, [.ref x1, .int x2]))])) : zc_Co_init C Post c0 s0 0 [(0, .ref h0), (1, .ref x1), (2, .int x2)] [] ([(h0, .inr (10, [.null, .int 0]))]) := by
  obtain ⟨⟨l, dC, dI, k, a⟩, p, e, s, m, args, below, meth, c, A⟩ := C
  obtain ⟨⟨hx, hb, hr, htz, hown, hlocks, hml, hE, hK, hA⟩, hin⟩ := X
  intro H locs ls hl hP hD hS
  have hl : lv_has ls 3 [(0, .ref h0), (1, .ref x1), (2, .int x2)] := hl
  have hP : va_P (dC, dI) classes ([(h0, .inr (10, [.null, .int 0]))]) H := hP
  have hD : va_D A ([(h0, .inr (10, [.null, .int 0]))]) := hD
  show W p l e (z_rm 0 0 0) s m args below meth c H locs c0 s0 _ (F0 m 0 ls [])
  refine lv_aload_n hx hb d_Co_init_0 rfl (lv_at hl 0 rfl) ?_
  refine W.objInit hx hb hown (htz _ km_Co_1) (htz _ in_Obj) (htz _ m_Obj) rfl (hl.1.trans hml.symm) rfl d_Co_init_1 (Nat.le_of_ble_eq_true rfl) (Nat.le_of_ble_eq_true rfl) ?_
  refine lv_aload_n hx hb d_Co_init_4 rfl (lv_at hl 0 rfl) ?_
  refine lv_aload_n hx hb d_Co_init_5 rfl (lv_at hl 1 rfl) ?_
  refine va_putF (D := (dC, dI)) (ci := 10) (v := .ref x1) (ty := .object "java/util/List") (C := R_Co) (T := F_Co) (N := 2) hx hb htz i_Co t_Co o_Co n_Co hown hK hP hD hS 0 rfl rfl 0 (by decide) (htz _ kf_Co_7) (fun _ h9 => h9) rfl hin rfl (by decide +kernel) rfl rfl (Nat.le_of_ble_eq_true rfl) d_Co_init_6 (fun H locs hP hD hS => ?_)
  have hP : va_P (dC, dI) classes ([(h0, .inr (10, [.ref x1, .int 0]))]) H := hP
  have hD : va_D A ([(h0, .inr (10, [.ref x1, .int 0]))]) := hD
  refine lv_aload_n hx hb d_Co_init_9 rfl (lv_at hl 0 rfl) ?_
  refine lv_iload_n hx hb d_Co_init_10 rfl (lv_at hl 2 rfl) ?_
  refine va_putF (D := (dC, dI)) (ci := 10) (v := .int x2) (ty := .int) (C := R_Co) (T := F_Co) (N := 2) hx hb htz i_Co t_Co o_Co n_Co hown hK hP hD hS 0 rfl rfl 1 (by decide) (htz _ kf_Co_13) (fun _ h9 => h9) rfl hin rfl (by decide +kernel) rfl rfl (Nat.le_of_ble_eq_true rfl) d_Co_init_11 (fun H locs hP hD hS => ?_)
  have hP : va_P (dC, dI) classes ([(h0, .inr (10, [.ref x1, .int x2]))]) H := hP
  have hD : va_D A ([(h0, .inr (10, [.ref x1, .int x2]))]) := hD
  refine W.widen (k := 0) (n := 0) b_14.1 b_14.2 ?_
  exact W.vret hx hb hr (fun t ht hW => ⟨⟨([(h0, .inr (10, [.ref x1, .int x2]))]), rfl, q_14, by rw [ht]; exact hP, va_K.moved hW.alike hK, hD⟩, hS.F ht⟩) hS.2.2 d_Co_init_14
set_option maxHeartbeats 1000000 in
set_option maxRecDepth 100000 in
theorem e_Co_init (T : ST) (Post : va_W → Prop) (x1 : Nat) (x2 : Int32) (h0 : Nat) (h : ∀ C : CT, C.1 = T → cN C "QuestionText$Condition" b_Co_init 3 none → zc_Co_init C Post 0 0 0 [(0, .ref h0), (1, .ref x1), (2, .int x2)] [] ([(h0, .inr (10, [.null, .int 0]))])) : uV T y_Co_init (Cond.code y_Co_init b_Co_init 3 none) 0 0 0 [.ref h0, .ref x1, .int x2] ([(h0, .inr (10, [.null, .int 0]))]) Post := by
  obtain ⟨l, dC, dI, k, a⟩ := T
  intro sz
  refine Met.ofW (cc := b_Co_init) (maxL := 3) (ret := none) (by decide) rfl ?_
  intro p e s m args below meth c s₁ B hml hv
  obtain ⟨rfl, hsz, hE, hP, hK, hD0⟩ := hv
  have hts := atoms_spec (ws := (Cond.code y_Co_init b_Co_init 3 none) :: z_T) B.pre
  have htz : ∀ w ∈ z_T, w.before _ s = true := fun w h => hts w (z_cons w h)
  subst hsz
  have hD := hD0.self (sz := s.heap.size)
  generalize hAe : va_A ([(h0, .inr (10, [.null, .int 0]))]) s.heap.size = A at hD hE ⊢
  have hA : ∀ q : Nat, s.heap.size ≤ q → A q := fun q h => by rw [← hAe]; exact Or.inr h
  have hl := lv_entry ([.ref h0, .ref x1, .int x2]) (n := 3) (Nat.le_of_ble_eq_true rfl)
  rw [lg_entry_eq]
  generalize (lg_sl ([.ref h0, .ref x1, .int x2]) ++ List.replicate (3 - (lg_sl ([.ref h0, .ref x1, .int x2])).length) Slot.unset).toArray = ls at hl ⊢
  exact h ((l, dC, dI, k, a), p, e, s, m, ([.ref h0, .ref x1, .int x2] : List Value).toArray, below, meth, c, A) rfl ⟨⟨B.exec, B.bytes, B.returns, htz, findClass_of_methodNamed B.named, B.notSynchronized, hml, hE, hK, hA⟩, (name_of_methodNamed B.named B.method).1⟩ s.heap [] ls hl hP hD va_S.rf
def zc_Ki_init (C : CT) (Post : va_W → Prop) (c0 s0 pc : Nat) (loc : List (Nat × Value)) (st : List Value) (ws : va_W) : Prop := zW C (z_rm 0 0 0) 4 (oV C 0 0 Post) c0 s0 pc loc st ws
set_option maxHeartbeats 1000000 in
set_option maxRecDepth 100000 in
theorem k_Ki_init_0 {C : CT} (X : cN C "QuestionText$Kind" b_Ki_init 4 none) (Post : va_W → Prop) (x1 : Int32) (x2 : Int32) (x3 : Nat) (h0 : Nat) (c0 s0 : Nat)
    (b_19 : c0 ≤ 0 ∧ s0 ≤ 0)
    (q_19 : Post ([(h0, .inr (5, [.int x1, .int x2, .ref x3]))])) : zc_Ki_init C Post c0 s0 0 [(0, .ref h0), (1, .int x1), (2, .int x2), (3, .ref x3)] [] ([(h0, .inr (5, [.int 0, .int 0, .null]))]) := by
  obtain ⟨⟨l, dC, dI, k, a⟩, p, e, s, m, args, below, meth, c, A⟩ := C
  obtain ⟨⟨hx, hb, hr, htz, hown, hlocks, hml, hE, hK, hA⟩, hin⟩ := X
  intro H locs ls hl hP hD hS
  have hl : lv_has ls 4 [(0, .ref h0), (1, .int x1), (2, .int x2), (3, .ref x3)] := hl
  have hP : va_P (dC, dI) classes ([(h0, .inr (5, [.int 0, .int 0, .null]))]) H := hP
  have hD : va_D A ([(h0, .inr (5, [.int 0, .int 0, .null]))]) := hD
  show W p l e (z_rm 0 0 0) s m args below meth c H locs c0 s0 _ (F0 m 0 ls [])
  refine lv_aload_n hx hb d_Ki_init_0 rfl (lv_at hl 0 rfl) ?_
  refine W.objInit hx hb hown (htz _ km_Ki_1) (htz _ in_Obj) (htz _ m_Obj) rfl (hl.1.trans hml.symm) rfl d_Ki_init_1 (Nat.le_of_ble_eq_true rfl) (Nat.le_of_ble_eq_true rfl) ?_
  refine lv_aload_n hx hb d_Ki_init_4 rfl (lv_at hl 0 rfl) ?_
  refine lv_iload_n hx hb d_Ki_init_5 rfl (lv_at hl 1 rfl) ?_
  refine va_putF (D := (dC, dI)) (ci := 5) (v := .int x1) (ty := .int) (C := R_Ki) (T := F_Ki) (N := 3) hx hb htz i_Ki t_Ki o_Ki n_Ki hown hK hP hD hS 0 rfl rfl 0 (by decide) (htz _ kf_Ki_7) (fun _ h9 => h9) rfl hin rfl (by decide +kernel) rfl rfl (Nat.le_of_ble_eq_true rfl) d_Ki_init_6 (fun H locs hP hD hS => ?_)
  have hP : va_P (dC, dI) classes ([(h0, .inr (5, [.int x1, .int 0, .null]))]) H := hP
  have hD : va_D A ([(h0, .inr (5, [.int x1, .int 0, .null]))]) := hD
  refine lv_aload_n hx hb d_Ki_init_9 rfl (lv_at hl 0 rfl) ?_
  refine lv_iload_n hx hb d_Ki_init_10 rfl (lv_at hl 2 rfl) ?_
  refine va_putF (D := (dC, dI)) (ci := 5) (v := .int x2) (ty := .int) (C := R_Ki) (T := F_Ki) (N := 3) hx hb htz i_Ki t_Ki o_Ki n_Ki hown hK hP hD hS 0 rfl rfl 1 (by decide) (htz _ kf_Ki_13) (fun _ h9 => h9) rfl hin rfl (by decide +kernel) rfl rfl (Nat.le_of_ble_eq_true rfl) d_Ki_init_11 (fun H locs hP hD hS => ?_)
  have hP : va_P (dC, dI) classes ([(h0, .inr (5, [.int x1, .int x2, .null]))]) H := hP
  have hD : va_D A ([(h0, .inr (5, [.int x1, .int x2, .null]))]) := hD
  refine lv_aload_n hx hb d_Ki_init_14 rfl (lv_at hl 0 rfl) ?_
  refine lv_aload_n hx hb d_Ki_init_15 rfl (lv_at hl 3 rfl) ?_
  refine va_putF (D := (dC, dI)) (ci := 5) (v := .ref x3) (ty := .object "java/util/List") (C := R_Ki) (T := F_Ki) (N := 3) hx hb htz i_Ki t_Ki o_Ki n_Ki hown hK hP hD hS 0 rfl rfl 2 (by decide) (htz _ kf_Ki_16) (fun _ h9 => h9) rfl hin rfl (by decide +kernel) rfl rfl (Nat.le_of_ble_eq_true rfl) d_Ki_init_16 (fun H locs hP hD hS => ?_)
  have hP : va_P (dC, dI) classes ([(h0, .inr (5, [.int x1, .int x2, .ref x3]))]) H := hP
  have hD : va_D A ([(h0, .inr (5, [.int x1, .int x2, .ref x3]))]) := hD
  refine W.widen (k := 0) (n := 0) b_19.1 b_19.2 ?_
  exact W.vret hx hb hr (fun t ht hW => ⟨⟨([(h0, .inr (5, [.int x1, .int x2, .ref x3]))]), rfl, q_19, by rw [ht]; exact hP, va_K.moved hW.alike hK, hD⟩, hS.F ht⟩) hS.2.2 d_Ki_init_19
set_option maxHeartbeats 1000000 in
set_option maxRecDepth 100000 in
theorem e_Ki_init (T : ST) (Post : va_W → Prop) (x1 : Int32) (x2 : Int32) (x3 : Nat) (h0 : Nat) (h : ∀ C : CT, C.1 = T → cN C "QuestionText$Kind" b_Ki_init 4 none → zc_Ki_init C Post 0 0 0 [(0, .ref h0), (1, .int x1), (2, .int x2), (3, .ref x3)] [] ([(h0, .inr (5, [.int 0, .int 0, .null]))])) : uV T y_Ki_init (Cond.code y_Ki_init b_Ki_init 4 none) 0 0 0 [.ref h0, .int x1, .int x2, .ref x3] ([(h0, .inr (5, [.int 0, .int 0, .null]))]) Post := by
  obtain ⟨l, dC, dI, k, a⟩ := T
  intro sz
  refine Met.ofW (cc := b_Ki_init) (maxL := 4) (ret := none) (by decide) rfl ?_
  intro p e s m args below meth c s₁ B hml hv
  obtain ⟨rfl, hsz, hE, hP, hK, hD0⟩ := hv
  have hts := atoms_spec (ws := (Cond.code y_Ki_init b_Ki_init 4 none) :: z_T) B.pre
  have htz : ∀ w ∈ z_T, w.before _ s = true := fun w h => hts w (z_cons w h)
  subst hsz
  have hD := hD0.self (sz := s.heap.size)
  generalize hAe : va_A ([(h0, .inr (5, [.int 0, .int 0, .null]))]) s.heap.size = A at hD hE ⊢
  have hA : ∀ q : Nat, s.heap.size ≤ q → A q := fun q h => by rw [← hAe]; exact Or.inr h
  have hl := lv_entry ([.ref h0, .int x1, .int x2, .ref x3]) (n := 4) (Nat.le_of_ble_eq_true rfl)
  rw [lg_entry_eq]
  generalize (lg_sl ([.ref h0, .int x1, .int x2, .ref x3]) ++ List.replicate (4 - (lg_sl ([.ref h0, .int x1, .int x2, .ref x3])).length) Slot.unset).toArray = ls at hl ⊢
  exact h ((l, dC, dI, k, a), p, e, s, m, ([.ref h0, .int x1, .int x2, .ref x3] : List Value).toArray, below, meth, c, A) rfl ⟨⟨B.exec, B.bytes, B.returns, htz, findClass_of_methodNamed B.named, B.notSynchronized, hml, hE, hK, hA⟩, (name_of_methodNamed B.named B.method).1⟩ s.heap [] ls hl hP hD va_S.rf
def zc_TR_readSpan (C : CT) (Post : Option Nat → va_W → Prop) (PX : String → va_W → Prop) (c0 s0 pc : Nat) (loc : List (Nat × Value)) (st : List Value) (ws : va_W) : Prop := zW C (z_rm 2 8 44) 2 (yR C 8 44 Post PX) c0 s0 pc loc st ws
set_option maxHeartbeats 1000000 in
set_option maxRecDepth 100000 in
theorem k_TR_readSpan_0 {C : CT} (X : cX C "QuestionText$TextReader" b_TR_readSpan 2 (some (.object "QuestionText$Span"))) (Post : Option Nat → va_W → Prop) (PX : String → va_W → Prop) {P_5 : Int32 → va_W → Prop} {X_5 : String → va_W → Prop} (f_t : FT) (g_t : GT) (P : va_W) (c0 s0 : Nat)
    (b_5 : c0 + 3 ≤ 8 ∧ s0 + 18 ≤ 44)
    (m_5 : xI C.1 y_TR_readNumber (Cond.code y_TR_readNumber b_TR_readNumber 6 (some .int)) 1 3 18 [.ref (ad C.1 20), .int 0, .int 9999] (s_t C.1.2.2.2.1 C.1.2.2.2.2 f_t g_t) P_5 X_5)
    (k_5 : ∀ (r : Int32) (u : va_W), P_5 r u → zc_TR_readSpan C Post PX (c0 + 3) (s0 + 18) 8 [(0, .ref (ad C.1 20))] [.int r] (u ++ (P)))
    (x_5 : ∀ (E : String) (u : va_W), X_5 E u → PX E (u ++ (P))) : zc_TR_readSpan C Post PX c0 s0 0 [(0, .ref (ad C.1 20))] [] (s_t C.1.2.2.2.1 C.1.2.2.2.2 f_t g_t ++ (P)) := by
  obtain ⟨⟨l, dC, dI, k, a⟩, p, e, s, m, args, below, meth, c, A⟩ := C
  obtain ⟨⟨hx, hb, hr, htz, hown, hlocks, hml, hE, hK, hA⟩, hno, hlt⟩ := X
  intro H locs ls hl hP hD hS
  have hl : lv_has ls 2 [(0, .ref (a 20))] := hl
  have hP : va_P (dC, dI) classes (s_t k a f_t g_t ++ (P)) H := hP
  have hD : va_D A (s_t k a f_t g_t ++ (P)) := hD
  show W p l e (z_rm 2 8 44) s m args below meth c H locs c0 s0 _ (F0 m 0 ls [])
  refine lv_aload_n hx hb d_TR_readSpan_0 rfl (lv_at hl 0 rfl) ?_
  refine lv_iconst (v := 0) hx hb d_TR_readSpan_1 (by decide) ?_
  refine lv_sipush (v := 9999) hx hb d_TR_readSpan_2 (by decide) ?_
  have hPf : va_P (dC, dI) classes (([]) ++ ((s_t k a f_t g_t) ++ (P))) H := hP
  have hDf : va_D A (([]) ++ ((s_t k a f_t g_t) ++ (P))) := hD
  have hFc := zfree hDf hS hA
  refine vx_calli (vx_runV (As := [.int 0, .int 9999]) (rest := []) ⟨hx, hb, hml, hown, htz⟩ (m_5 H.size) (cwV 2 htz (z_gV (fun _ h => h) km_TR_57 in_TR_readNumber se_TR_readNumber ini_TR m_TR_readNumber) rfl rfl rfl (by decide +kernel) ⟨(Nat.le_of_ble_eq_true rfl), (Nat.le_of_ble_eq_true rfl)⟩) ⟨z_blind, va_recv hK hP (ci := 1) (q0 := 0) rfl rfl, fun U hU hW => ⟨rfl, by rw [hU], hE.call hS hFc hU hW, by rw [hU]; exact (zPc hPf), va_K.moved hW.alike hK, (zDc hDf)⟩⟩ rfl rfl hl.1 rfl (lv_room (Nat.le_of_ble_eq_true rfl)) d_TR_readSpan_5 b_5) hS (fun q _ h => hFc q h) hFc (fun q _ h => hFc q h) (fun E ce q9 u t H1 locs ht hvm hw hB hz1 hk1 hS hce hcv hcl => ?_) (fun r u t H1 locs ht hvm hw hB hz1 hk1 hS => ?_)
  · obtain ⟨hxe, hP1, hK1, hD1⟩ := hB
    rw [ht] at hP1
    obtain ⟨hP, hD⟩ := zf hPf hDf hk1 hFc hP1 hD1
    exact vx_out (fun x hx9 => (hno x hx9).elim) hlocks hce hcv hcl (fun t9 h9 h8 => ⟨_, trivial, ⟨x_5 E u hxe, by rw [h9]; exact hP, va_K.moved h8 hK, hD⟩, hS.F h9⟩) hS.2.2 b_5.1 b_5.2
  · obtain ⟨hP1, hK1, hD1⟩ := hB
    rw [ht] at hP1
    obtain ⟨hP, hD⟩ := zf hPf hDf hk1 hFc hP1 hD1
    exact k_5 r _ hw H1 locs ls (lv_sub hl [0] rfl) hP hD hS
set_option maxHeartbeats 1000000 in
set_option maxRecDepth 100000 in
theorem k_TR_readSpan_8 {C : CT} (X : cX C "QuestionText$TextReader" b_TR_readSpan 2 (some (.object "QuestionText$Span"))) (Post : Option Nat → va_W → Prop) (PX : String → va_W → Prop) {P_12 : va_W → Prop} {X_12 : String → va_W → Prop} (y0 : Int32) (f_t : FT) (g_t : GT) (P : va_W) (c0 s0 : Nat)
    (b_12 : c0 + 1 ≤ 8 ∧ s0 + 6 ≤ 44)
    (m_12 : xV C.1 y_TR_take (Cond.code y_TR_take b_TR_take 2 none) 1 1 6 [.ref (ad C.1 20), .int 45] (s_t C.1.2.2.2.1 C.1.2.2.2.2 f_t g_t) P_12 X_12)
    (k_12 : ∀ (u : va_W), P_12 u → zc_TR_readSpan C Post PX (c0 + 1) (s0 + 6) 15 [(0, .ref (ad C.1 20)), (1, .int y0)] [] (u ++ (P)))
    (x_12 : ∀ (E : String) (u : va_W), X_12 E u → PX E (u ++ (P))) : zc_TR_readSpan C Post PX c0 s0 8 [(0, .ref (ad C.1 20))] [.int y0] (s_t C.1.2.2.2.1 C.1.2.2.2.2 f_t g_t ++ (P)) := by
  obtain ⟨⟨l, dC, dI, k, a⟩, p, e, s, m, args, below, meth, c, A⟩ := C
  obtain ⟨⟨hx, hb, hr, htz, hown, hlocks, hml, hE, hK, hA⟩, hno, hlt⟩ := X
  intro H locs ls hl hP hD hS
  have hl : lv_has ls 2 [(0, .ref (a 20))] := hl
  have hP : va_P (dC, dI) classes (s_t k a f_t g_t ++ (P)) H := hP
  have hD : va_D A (s_t k a f_t g_t ++ (P)) := hD
  show W p l e (z_rm 2 8 44) s m args below meth c H locs c0 s0 _ (F0 m 8 ls [.int y0])
  refine lv_istore_n (lv' := [(1, .int y0), (0, .ref (a 20))]) hx hb d_TR_readSpan_8 rfl hl (by decide) rfl (fun ls hl => ?_)
  refine lv_aload_n hx hb d_TR_readSpan_9 rfl (lv_at hl 1 rfl) ?_
  refine lv_bipush (v := 45) hx hb d_TR_readSpan_10 (by decide) ?_
  have hPf : va_P (dC, dI) classes (([]) ++ ((s_t k a f_t g_t) ++ (P))) H := hP
  have hDf : va_D A (([]) ++ ((s_t k a f_t g_t) ++ (P))) := hD
  have hFc := zfree hDf hS hA
  refine vx_callv (vx_runV (As := [.int 45]) (rest := []) ⟨hx, hb, hml, hown, htz⟩ (m_12 H.size) (cwV 1 htz (z_gV (fun _ h => h) km_TR_48 in_TR_take se_TR_take ini_TR m_TR_take) rfl rfl rfl (by decide +kernel) ⟨(Nat.le_of_ble_eq_true rfl), (Nat.le_of_ble_eq_true rfl)⟩) ⟨z_blind, va_recv hK hP (ci := 1) (q0 := 0) rfl rfl, fun U hU hW => ⟨rfl, by rw [hU], hE.call hS hFc hU hW, by rw [hU]; exact (zPc hPf), va_K.moved hW.alike hK, (zDc hDf)⟩⟩ rfl rfl hl.1 rfl (lv_room (Nat.le_of_ble_eq_true rfl)) d_TR_readSpan_12 b_12) hS (fun q _ h => hFc q h) hFc (fun q _ h => hFc q h) (fun E ce q9 u t H1 locs ht hvm hw hB hz1 hk1 hS hce hcv hcl => ?_) (fun u t H1 locs ht hvm hw hB hz1 hk1 hS => ?_)
  · obtain ⟨hxe, hP1, hK1, hD1⟩ := hB
    rw [ht] at hP1
    obtain ⟨hP, hD⟩ := zf hPf hDf hk1 hFc hP1 hD1
    exact vx_out (fun x hx9 => (hno x hx9).elim) hlocks hce hcv hcl (fun t9 h9 h8 => ⟨_, trivial, ⟨x_12 E u hxe, by rw [h9]; exact hP, va_K.moved h8 hK, hD⟩, hS.F h9⟩) hS.2.2 b_12.1 b_12.2
  · obtain ⟨hP1, hK1, hD1⟩ := hB
    rw [ht] at hP1
    obtain ⟨hP, hD⟩ := zf hPf hDf hk1 hFc hP1 hD1
    exact k_12 _ hw H1 locs ls (lv_sub hl [1, 0] rfl) hP hD hS
set_option maxHeartbeats 1000000 in
set_option maxRecDepth 100000 in
theorem k_TR_readSpan_15 {C : CT} (X : cX C "QuestionText$TextReader" b_TR_readSpan 2 (some (.object "QuestionText$Span"))) (Post : Option Nat → va_W → Prop) (PX : String → va_W → Prop) {P_25 : Nat → Int32 → va_W → Prop} {X_25 : Nat → String → va_W → Prop} (x1 : Int32) (f_t : FT) (g_t : GT) (P : va_W) (c0 s0 : Nat)
    (b_15 : c0 + 1 ≤ 8 ∧ s0 + 2 ≤ 44)
    (b_25 : ∀ w15 : Nat, c0 + 1 + 3 ≤ 8 ∧ s0 + 2 + 18 ≤ 44)
    (m_25 : ∀ w15 : Nat, xI C.1 y_TR_readNumber (Cond.code y_TR_readNumber b_TR_readNumber 6 (some .int)) 1 3 18 [.ref (ad C.1 20), .int x1, .int 9999] (s_t C.1.2.2.2.1 C.1.2.2.2.2 f_t g_t) (P_25 w15) (X_25 w15))
    (k_25 : ∀ w15 : Nat, ∀ (r : Int32) (u : va_W), (P_25 w15) r u → zc_TR_readSpan C Post PX (c0 + 1 + 3) (s0 + 2 + 18) 28 [(0, .ref (ad C.1 20)), (1, .int x1)] [.int r, .int x1, .ref w15, .ref w15] ([(w15, .inr (7, [.int 0, .int 0]))] ++ (u ++ (P))))
    (x_25 : ∀ w15 : Nat, ∀ (E : String) (u : va_W), (X_25 w15) E u → PX E ([(w15, .inr (7, [.int 0, .int 0]))] ++ (u ++ (P)))) : zc_TR_readSpan C Post PX c0 s0 15 [(0, .ref (ad C.1 20)), (1, .int x1)] [] (s_t C.1.2.2.2.1 C.1.2.2.2.2 f_t g_t ++ (P)) := by
  obtain ⟨⟨l, dC, dI, k, a⟩, p, e, s, m, args, below, meth, c, A⟩ := C
  obtain ⟨⟨hx, hb, hr, htz, hown, hlocks, hml, hE, hK, hA⟩, hno, hlt⟩ := X
  intro H locs ls hl hP hD hS
  have hl : lv_has ls 2 [(0, .ref (a 20)), (1, .int x1)] := hl
  have hP : va_P (dC, dI) classes (s_t k a f_t g_t ++ (P)) H := hP
  have hD : va_D A (s_t k a f_t g_t ++ (P)) := hD
  show W p l e (z_rm 2 8 44) s m args below meth c H locs c0 s0 _ (F0 m 15 ls [])
  refine va_new (ci := 7) (fs := [.int 0, .int 0]) (C := R_Sp) (T := F_Sp) (N := 2) hx hb htz i_Sp t_Sp o_Sp hown (htz _ kc_TR_88) (htz _ mk_Sp) (htz _ ini_Sp) hK hP hD hS hA rfl (by intro j hj; match j, hj with | 0, _ => rfl | 1, _ => rfl | j + 2, h => exact absurd h (by omega)) b_15.1 b_15.2 d_TR_readSpan_15 (fun w15 H hP hD hS => ?_)
  replace hP := zsP hP
  replace hD := zsD hD
  have hP : va_P (dC, dI) classes ([(w15, .inr (7, [.int 0, .int 0]))] ++ (s_t k a f_t g_t ++ (P))) H := hP
  have hD : va_D A ([(w15, .inr (7, [.int 0, .int 0]))] ++ (s_t k a f_t g_t ++ (P))) := hD
  refine lv_dup hx hb d_TR_readSpan_18 rfl ?_
  refine lv_iload_n hx hb d_TR_readSpan_19 rfl (lv_at hl 1 rfl) ?_
  refine lv_aload_n hx hb d_TR_readSpan_20 rfl (lv_at hl 0 rfl) ?_
  refine lv_iload_n hx hb d_TR_readSpan_21 rfl (lv_at hl 1 rfl) ?_
  refine lv_sipush (v := 9999) hx hb d_TR_readSpan_22 (by decide) ?_
  have hPf : va_P (dC, dI) classes (([(w15, .inr (7, [.int 0, .int 0]))]) ++ ((s_t k a f_t g_t) ++ (P))) H := hP
  have hDf : va_D A (([(w15, .inr (7, [.int 0, .int 0]))]) ++ ((s_t k a f_t g_t) ++ (P))) := hD
  have hFc := zfree hDf hS hA
  refine vx_calli (vx_runV (As := [.int x1, .int 9999]) (rest := [.int x1, .ref w15, .ref w15]) ⟨hx, hb, hml, hown, htz⟩ ((m_25 w15) H.size) (cwV 2 htz (z_gV (fun _ h => h) km_TR_57 in_TR_readNumber se_TR_readNumber ini_TR m_TR_readNumber) rfl rfl rfl (by decide +kernel) ⟨(Nat.le_of_ble_eq_true rfl), (Nat.le_of_ble_eq_true rfl)⟩) ⟨z_blind, va_recv hK hP (ci := 1) (q0 := 1) rfl rfl, fun U hU hW => ⟨rfl, by rw [hU], hE.call hS hFc hU hW, by rw [hU]; exact (zPc hPf), va_K.moved hW.alike hK, (zDc hDf)⟩⟩ rfl rfl hl.1 rfl (lv_room (Nat.le_of_ble_eq_true rfl)) d_TR_readSpan_25 (b_25 w15)) hS (fun q _ h => hFc q h) hFc (fun q _ h => hFc q h) (fun E ce q9 u t H1 locs ht hvm hw hB hz1 hk1 hS hce hcv hcl => ?_) (fun r u t H1 locs ht hvm hw hB hz1 hk1 hS => ?_)
  · obtain ⟨hxe, hP1, hK1, hD1⟩ := hB
    rw [ht] at hP1
    obtain ⟨hP, hD⟩ := zf hPf hDf hk1 hFc hP1 hD1
    exact vx_out (fun x hx9 => (hno x hx9).elim) hlocks hce hcv hcl (fun t9 h9 h8 => ⟨_, trivial, ⟨(x_25 w15) E u hxe, by rw [h9]; exact hP, va_K.moved h8 hK, hD⟩, hS.F h9⟩) hS.2.2 (b_25 w15).1 (b_25 w15).2
  · obtain ⟨hP1, hK1, hD1⟩ := hB
    rw [ht] at hP1
    obtain ⟨hP, hD⟩ := zf hPf hDf hk1 hFc hP1 hD1
    exact (k_25 w15) r _ hw H1 locs ls (lv_sub hl [0, 1] rfl) hP hD hS
set_option maxHeartbeats 1000000 in
set_option maxRecDepth 100000 in
theorem k_TR_readSpan_28 {C : CT} (X : cX C "QuestionText$TextReader" b_TR_readSpan 2 (some (.object "QuestionText$Span"))) (Post : Option Nat → va_W → Prop) (PX : String → va_W → Prop) {P_28 : va_W → Prop} (x1 : Int32) (y0 : Int32) (y1 : Int32) (w15 : Nat) (f_t : FT) (g_t : GT) (P : va_W) (c0 s0 : Nat)
    (b_28 : c0 ≤ 8 ∧ s0 ≤ 44)
    (m_28 : uV C.1 y_Sp_init (Cond.code y_Sp_init b_Sp_init 3 none) 0 0 0 [.ref w15, .int y1, .int y0] ([(w15, .inr (7, [.int 0, .int 0]))]) P_28)
    (k_28 : ∀ (u : va_W), P_28 u → zc_TR_readSpan C Post PX c0 s0 31 [(0, .ref (ad C.1 20)), (1, .int x1)] [.ref w15] (u ++ (s_t C.1.2.2.2.1 C.1.2.2.2.2 f_t g_t ++ (P)))) : zc_TR_readSpan C Post PX c0 s0 28 [(0, .ref (ad C.1 20)), (1, .int x1)] [.int y0, .int y1, .ref w15, .ref w15] ([(w15, .inr (7, [.int 0, .int 0]))] ++ (s_t C.1.2.2.2.1 C.1.2.2.2.2 f_t g_t ++ (P))) := by
  obtain ⟨⟨l, dC, dI, k, a⟩, p, e, s, m, args, below, meth, c, A⟩ := C
  obtain ⟨⟨hx, hb, hr, htz, hown, hlocks, hml, hE, hK, hA⟩, hno, hlt⟩ := X
  intro H locs ls hl hP hD hS
  have hl : lv_has ls 2 [(0, .ref (a 20)), (1, .int x1)] := hl
  have hP : va_P (dC, dI) classes ([(w15, .inr (7, [.int 0, .int 0]))] ++ (s_t k a f_t g_t ++ (P))) H := hP
  have hD : va_D A ([(w15, .inr (7, [.int 0, .int 0]))] ++ (s_t k a f_t g_t ++ (P))) := hD
  show W p l e (z_rm 2 8 44) s m args below meth c H locs c0 s0 _ (F0 m 28 ls [.int y0, .int y1, .ref w15, .ref w15])
  have hPf : va_P (dC, dI) classes (([]) ++ (([(w15, .inr (7, [.int 0, .int 0]))]) ++ (s_t k a f_t g_t ++ (P)))) H := hP
  have hDf : va_D A (([]) ++ (([(w15, .inr (7, [.int 0, .int 0]))]) ++ (s_t k a f_t g_t ++ (P)))) := hD
  have hFc := zfree hDf hS hA
  refine va_callv (va_runI (As := [.int y1, .int y0]) (rest := [.ref w15]) ⟨hx, hb, hml, hown, htz⟩ (m_28 H.size) (cwI 2 htz (z_gI (fun _ h => h) m_Sp_init) rfl rfl rfl (htz _ ini_Sp) (htz _ km_TR_90) (htz _ in_Sp_init) rfl (by decide +kernel) ⟨(Nat.le_of_ble_eq_true rfl), (Nat.le_of_ble_eq_true rfl)⟩) ⟨z_blind, fun U hU hW => ⟨rfl, by rw [hU], hE.call hS hFc hU hW, by rw [hU]; exact (zPc hPf), va_K.moved hW.alike hK, (zDc hDf)⟩⟩ rfl rfl hl.1 rfl (lv_room (Nat.le_of_ble_eq_true rfl)) d_TR_readSpan_28 b_28) hS (fun q _ h => hFc q h) hFc (fun u t H1 locs ht hvm hw hB hz1 hk1 hS => ?_)
  obtain ⟨hP1, hK1, hD1⟩ := hB
  rw [ht] at hP1
  obtain ⟨hP, hD⟩ := zf hPf hDf hk1 hFc hP1 hD1
  exact k_28 _ hw H1 locs ls (lv_sub hl [0, 1] rfl) hP hD hS
set_option maxHeartbeats 1000000 in
set_option maxRecDepth 100000 in
theorem k_TR_readSpan_31 {C : CT} (X : cX C "QuestionText$TextReader" b_TR_readSpan 2 (some (.object "QuestionText$Span"))) (Post : Option Nat → va_W → Prop) (PX : String → va_W → Prop) (x1 : Int32) (y0 : Nat) (f_t : FT) (g_t : GT) (P : va_W) (c0 s0 : Nat)
    (b_31 : c0 ≤ 8 ∧ s0 ≤ 44)
    (q_31 : Post (some y0) (s_t C.1.2.2.2.1 C.1.2.2.2.2 f_t g_t ++ (P))) : zc_TR_readSpan C Post PX c0 s0 31 [(0, .ref (ad C.1 20)), (1, .int x1)] [.ref y0] (s_t C.1.2.2.2.1 C.1.2.2.2.2 f_t g_t ++ (P)) := by
  obtain ⟨⟨l, dC, dI, k, a⟩, p, e, s, m, args, below, meth, c, A⟩ := C
  obtain ⟨⟨hx, hb, hr, htz, hown, hlocks, hml, hE, hK, hA⟩, hno, hlt⟩ := X
  intro H locs ls hl hP hD hS
  have hl : lv_has ls 2 [(0, .ref (a 20)), (1, .int x1)] := hl
  have hP : va_P (dC, dI) classes (s_t k a f_t g_t ++ (P)) H := hP
  have hD : va_D A (s_t k a f_t g_t ++ (P)) := hD
  show W p l e (z_rm 2 8 44) s m args below meth c H locs c0 s0 _ (F0 m 31 ls [.ref y0])
  refine W.widen (k := 8) (n := 44) b_31.1 b_31.2 ?_
  refine vx_ret ?_
  exact W.aret (v := .ref y0) hx hb hr (Or.inl ⟨_, rfl⟩) (Or.inr ⟨_, rfl⟩) (fun t ht hW => ⟨⟨(some y0), (s_t k a f_t g_t ++ (P)), rfl, q_31, by rw [ht]; exact hP, va_K.moved hW.alike hK, hD⟩, hS.F ht⟩) hS.2.2 d_TR_readSpan_31
set_option maxHeartbeats 1000000 in
set_option maxRecDepth 100000 in
theorem e_TR_readSpan (T : ST) (hlt : T.1.stackTraces = false) (Post : Option Nat → va_W → Prop) (PX : String → va_W → Prop) (f_t : FT) (g_t : GT) (P : va_W) (h : ∀ C : CT, C.1 = T → cX C "QuestionText$TextReader" b_TR_readSpan 2 (some (.object "QuestionText$Span")) → zc_TR_readSpan C Post PX 0 0 0 [(0, .ref (ad C.1 20))] [] (s_t C.1.2.2.2.1 C.1.2.2.2.2 f_t g_t ++ (P))) : xR T y_TR_readSpan (Cond.code y_TR_readSpan b_TR_readSpan 2 (some (.object "QuestionText$Span"))) 2 8 44 [.ref (ad T 20)] (s_t T.2.2.2.1 T.2.2.2.2 f_t g_t ++ (P)) Post PX := by
  obtain ⟨l, dC, dI, k, a⟩ := T
  intro sz
  refine vx_ofW (cc := b_TR_readSpan) (maxL := 2) (ret := (some (.object "QuestionText$Span"))) (by decide) rfl ?_
  intro p e s m args below meth c s₁ B hml hno hv
  obtain ⟨rfl, hsz, hE, hP, hK, hD0⟩ := hv
  have hts := atoms_spec (ws := (Cond.code y_TR_readSpan b_TR_readSpan 2 (some (.object "QuestionText$Span"))) :: z_T) B.pre
  have htz : ∀ w ∈ z_T, w.before _ s = true := fun w h => hts w (z_cons w h)
  subst hsz
  have hD := hD0.self (sz := s.heap.size)
  generalize hAe : va_A (s_t k a f_t g_t ++ (P)) s.heap.size = A at hD hE ⊢
  have hA : ∀ q : Nat, s.heap.size ≤ q → A q := fun q h => by rw [← hAe]; exact Or.inr h
  have hl := lv_entry ([.ref (a 20)]) (n := 2) (Nat.le_of_ble_eq_true rfl)
  rw [lg_entry_eq]
  generalize (lg_sl ([.ref (a 20)]) ++ List.replicate (2 - (lg_sl ([.ref (a 20)])).length) Slot.unset).toArray = ls at hl ⊢
  exact h ((l, dC, dI, k, a), p, e, s, m, ([.ref (a 20)] : List Value).toArray, below, meth, c, A) rfl ⟨⟨B.exec, B.bytes, B.returns, htz, findClass_of_methodNamed B.named, B.notSynchronized, hml, hE, hK, hA⟩, hno, hlt⟩ s.heap [] ls hl hP hD va_S.rf
def zc_TR_readJump (C : CT) (Post : Option Nat → va_W → Prop) (PX : String → va_W → Prop) (c0 s0 pc : Nat) (loc : List (Nat × Value)) (st : List Value) (ws : va_W) : Prop := zW C (z_rm 2 8 45) 4 (yR C 8 45 Post PX) c0 s0 pc loc st ws
set_option maxHeartbeats 1000000 in
set_option maxRecDepth 100000 in
theorem k_TR_readJump_0 {C : CT} (X : cX C "QuestionText$TextReader" b_TR_readJump 4 (some (.object "QuestionText$Jump"))) (Post : Option Nat → va_W → Prop) (PX : String → va_W → Prop) {P_3 : va_W → Prop} {X_3 : String → va_W → Prop} (x1 : Nat) (f_t : FT) (g_t : GT) (P : va_W) (c0 s0 : Nat)
    (b_3 : c0 + 1 ≤ 8 ∧ s0 + 6 ≤ 45)
    (m_3 : xV C.1 y_TR_take (Cond.code y_TR_take b_TR_take 2 none) 1 1 6 [.ref (ad C.1 20), .int 62] (s_t C.1.2.2.2.1 C.1.2.2.2.2 f_t g_t) P_3 X_3)
    (k_3 : ∀ (u : va_W), P_3 u → zc_TR_readJump C Post PX (c0 + 1) (s0 + 6) 6 [(0, .ref (ad C.1 20)), (1, .ref x1)] [] (u ++ (P)))
    (x_3 : ∀ (E : String) (u : va_W), X_3 E u → PX E (u ++ (P))) : zc_TR_readJump C Post PX c0 s0 0 [(0, .ref (ad C.1 20)), (1, .ref x1)] [] (s_t C.1.2.2.2.1 C.1.2.2.2.2 f_t g_t ++ (P)) := by
  obtain ⟨⟨l, dC, dI, k, a⟩, p, e, s, m, args, below, meth, c, A⟩ := C
  obtain ⟨⟨hx, hb, hr, htz, hown, hlocks, hml, hE, hK, hA⟩, hno, hlt⟩ := X
  intro H locs ls hl hP hD hS
  have hl : lv_has ls 4 [(0, .ref (a 20)), (1, .ref x1)] := hl
  have hP : va_P (dC, dI) classes (s_t k a f_t g_t ++ (P)) H := hP
  have hD : va_D A (s_t k a f_t g_t ++ (P)) := hD
  show W p l e (z_rm 2 8 45) s m args below meth c H locs c0 s0 _ (F0 m 0 ls [])
  refine lv_aload_n hx hb d_TR_readJump_0 rfl (lv_at hl 0 rfl) ?_
  refine lv_bipush (v := 62) hx hb d_TR_readJump_1 (by decide) ?_
  have hPf : va_P (dC, dI) classes (([]) ++ ((s_t k a f_t g_t) ++ (P))) H := hP
  have hDf : va_D A (([]) ++ ((s_t k a f_t g_t) ++ (P))) := hD
  have hFc := zfree hDf hS hA
  refine vx_callv (vx_runV (As := [.int 62]) (rest := []) ⟨hx, hb, hml, hown, htz⟩ (m_3 H.size) (cwV 1 htz (z_gV (fun _ h => h) km_TR_48 in_TR_take se_TR_take ini_TR m_TR_take) rfl rfl rfl (by decide +kernel) ⟨(Nat.le_of_ble_eq_true rfl), (Nat.le_of_ble_eq_true rfl)⟩) ⟨z_blind, va_recv hK hP (ci := 1) (q0 := 0) rfl rfl, fun U hU hW => ⟨rfl, by rw [hU], hE.call hS hFc hU hW, by rw [hU]; exact (zPc hPf), va_K.moved hW.alike hK, (zDc hDf)⟩⟩ rfl rfl hl.1 rfl (lv_room (Nat.le_of_ble_eq_true rfl)) d_TR_readJump_3 b_3) hS (fun q _ h => hFc q h) hFc (fun q _ h => hFc q h) (fun E ce q9 u t H1 locs ht hvm hw hB hz1 hk1 hS hce hcv hcl => ?_) (fun u t H1 locs ht hvm hw hB hz1 hk1 hS => ?_)
  · obtain ⟨hxe, hP1, hK1, hD1⟩ := hB
    rw [ht] at hP1
    obtain ⟨hP, hD⟩ := zf hPf hDf hk1 hFc hP1 hD1
    exact vx_out (fun x hx9 => (hno x hx9).elim) hlocks hce hcv hcl (fun t9 h9 h8 => ⟨_, trivial, ⟨x_3 E u hxe, by rw [h9]; exact hP, va_K.moved h8 hK, hD⟩, hS.F h9⟩) hS.2.2 b_3.1 b_3.2
  · obtain ⟨hP1, hK1, hD1⟩ := hB
    rw [ht] at hP1
    obtain ⟨hP, hD⟩ := zf hPf hDf hk1 hFc hP1 hD1
    exact k_3 _ hw H1 locs ls (lv_sub hl [0, 1] rfl) hP hD hS
set_option maxHeartbeats 1000000 in
set_option maxRecDepth 100000 in
theorem k_TR_readJump_6 {C : CT} (X : cX C "QuestionText$TextReader" b_TR_readJump 4 (some (.object "QuestionText$Jump"))) (Post : Option Nat → va_W → Prop) (PX : String → va_W → Prop) {P_10 : Int32 → va_W → Prop} {X_10 : String → va_W → Prop} (x1 : Nat) (f_t : FT) (g_t : GT) (P : va_W) (c0 s0 : Nat)
    (b_10 : c0 + 3 ≤ 8 ∧ s0 + 18 ≤ 45)
    (m_10 : xI C.1 y_TR_readNumber (Cond.code y_TR_readNumber b_TR_readNumber 6 (some .int)) 1 3 18 [.ref (ad C.1 20), .int 0, .int 60] (s_t C.1.2.2.2.1 C.1.2.2.2.2 f_t g_t) P_10 X_10)
    (k_10 : ∀ (r : Int32) (u : va_W), P_10 r u → zc_TR_readJump C Post PX (c0 + 3) (s0 + 18) 13 [(0, .ref (ad C.1 20)), (1, .ref x1)] [.int r] (u ++ (P)))
    (x_10 : ∀ (E : String) (u : va_W), X_10 E u → PX E (u ++ (P))) : zc_TR_readJump C Post PX c0 s0 6 [(0, .ref (ad C.1 20)), (1, .ref x1)] [] (s_t C.1.2.2.2.1 C.1.2.2.2.2 f_t g_t ++ (P)) := by
  obtain ⟨⟨l, dC, dI, k, a⟩, p, e, s, m, args, below, meth, c, A⟩ := C
  obtain ⟨⟨hx, hb, hr, htz, hown, hlocks, hml, hE, hK, hA⟩, hno, hlt⟩ := X
  intro H locs ls hl hP hD hS
  have hl : lv_has ls 4 [(0, .ref (a 20)), (1, .ref x1)] := hl
  have hP : va_P (dC, dI) classes (s_t k a f_t g_t ++ (P)) H := hP
  have hD : va_D A (s_t k a f_t g_t ++ (P)) := hD
  show W p l e (z_rm 2 8 45) s m args below meth c H locs c0 s0 _ (F0 m 6 ls [])
  refine lv_aload_n hx hb d_TR_readJump_6 rfl (lv_at hl 0 rfl) ?_
  refine lv_iconst (v := 0) hx hb d_TR_readJump_7 (by decide) ?_
  refine lv_bipush (v := 60) hx hb d_TR_readJump_8 (by decide) ?_
  have hPf : va_P (dC, dI) classes (([]) ++ ((s_t k a f_t g_t) ++ (P))) H := hP
  have hDf : va_D A (([]) ++ ((s_t k a f_t g_t) ++ (P))) := hD
  have hFc := zfree hDf hS hA
  refine vx_calli (vx_runV (As := [.int 0, .int 60]) (rest := []) ⟨hx, hb, hml, hown, htz⟩ (m_10 H.size) (cwV 2 htz (z_gV (fun _ h => h) km_TR_57 in_TR_readNumber se_TR_readNumber ini_TR m_TR_readNumber) rfl rfl rfl (by decide +kernel) ⟨(Nat.le_of_ble_eq_true rfl), (Nat.le_of_ble_eq_true rfl)⟩) ⟨z_blind, va_recv hK hP (ci := 1) (q0 := 0) rfl rfl, fun U hU hW => ⟨rfl, by rw [hU], hE.call hS hFc hU hW, by rw [hU]; exact (zPc hPf), va_K.moved hW.alike hK, (zDc hDf)⟩⟩ rfl rfl hl.1 rfl (lv_room (Nat.le_of_ble_eq_true rfl)) d_TR_readJump_10 b_10) hS (fun q _ h => hFc q h) hFc (fun q _ h => hFc q h) (fun E ce q9 u t H1 locs ht hvm hw hB hz1 hk1 hS hce hcv hcl => ?_) (fun r u t H1 locs ht hvm hw hB hz1 hk1 hS => ?_)
  · obtain ⟨hxe, hP1, hK1, hD1⟩ := hB
    rw [ht] at hP1
    obtain ⟨hP, hD⟩ := zf hPf hDf hk1 hFc hP1 hD1
    exact vx_out (fun x hx9 => (hno x hx9).elim) hlocks hce hcv hcl (fun t9 h9 h8 => ⟨_, trivial, ⟨x_10 E u hxe, by rw [h9]; exact hP, va_K.moved h8 hK, hD⟩, hS.F h9⟩) hS.2.2 b_10.1 b_10.2
  · obtain ⟨hP1, hK1, hD1⟩ := hB
    rw [ht] at hP1
    obtain ⟨hP, hD⟩ := zf hPf hDf hk1 hFc hP1 hD1
    exact k_10 r _ hw H1 locs ls (lv_sub hl [0, 1] rfl) hP hD hS
set_option maxHeartbeats 1000000 in
set_option maxRecDepth 100000 in
theorem k_TR_readJump_13 {C : CT} (X : cX C "QuestionText$TextReader" b_TR_readJump 4 (some (.object "QuestionText$Jump"))) (Post : Option Nat → va_W → Prop) (PX : String → va_W → Prop) {P_17 : Int32 → va_W → Prop} (x1 : Nat) (y0 : Int32) (f_t : FT) (g_t : GT) (P : va_W) (c0 s0 : Nat)
    (b_17 : c0 ≤ 8 ∧ s0 ≤ 45)
    (m_17 : uI C.1 y_TR_took (Cond.code y_TR_took b_TR_took 2 (some .boolean)) 1 0 0 [.ref (ad C.1 20), .int 43] (s_t C.1.2.2.2.1 C.1.2.2.2.2 f_t g_t) P_17)
    (k_17 : ∀ (r : Int32) (u : va_W), P_17 r u → zc_TR_readJump C Post PX c0 s0 20 [(0, .ref (ad C.1 20)), (1, .ref x1), (2, .int y0)] [.int r] (u ++ (P))) : zc_TR_readJump C Post PX c0 s0 13 [(0, .ref (ad C.1 20)), (1, .ref x1)] [.int y0] (s_t C.1.2.2.2.1 C.1.2.2.2.2 f_t g_t ++ (P)) := by
  obtain ⟨⟨l, dC, dI, k, a⟩, p, e, s, m, args, below, meth, c, A⟩ := C
  obtain ⟨⟨hx, hb, hr, htz, hown, hlocks, hml, hE, hK, hA⟩, hno, hlt⟩ := X
  intro H locs ls hl hP hD hS
  have hl : lv_has ls 4 [(0, .ref (a 20)), (1, .ref x1)] := hl
  have hP : va_P (dC, dI) classes (s_t k a f_t g_t ++ (P)) H := hP
  have hD : va_D A (s_t k a f_t g_t ++ (P)) := hD
  show W p l e (z_rm 2 8 45) s m args below meth c H locs c0 s0 _ (F0 m 13 ls [.int y0])
  refine lv_istore_n (lv' := [(2, .int y0), (0, .ref (a 20)), (1, .ref x1)]) hx hb d_TR_readJump_13 rfl hl (by decide) rfl (fun ls hl => ?_)
  refine lv_aload_n hx hb d_TR_readJump_14 rfl (lv_at hl 1 rfl) ?_
  refine lv_bipush (v := 43) hx hb d_TR_readJump_15 (by decide) ?_
  have hPf : va_P (dC, dI) classes (([]) ++ ((s_t k a f_t g_t) ++ (P))) H := hP
  have hDf : va_D A (([]) ++ ((s_t k a f_t g_t) ++ (P))) := hD
  have hFc := zfree hDf hS hA
  refine va_calli (va_runV (As := [.int 43]) (rest := []) ⟨hx, hb, hml, hown, htz⟩ (m_17 H.size) (cwV 1 htz (z_gV (fun _ h => h) km_TR_41 in_TR_took se_TR_took ini_TR m_TR_took) rfl rfl rfl (by decide +kernel) ⟨(Nat.le_of_ble_eq_true rfl), (Nat.le_of_ble_eq_true rfl)⟩) ⟨z_blind, va_recv hK hP (ci := 1) (q0 := 0) rfl rfl, fun U hU hW => ⟨rfl, by rw [hU], hE.call hS hFc hU hW, by rw [hU]; exact (zPc hPf), va_K.moved hW.alike hK, (zDc hDf)⟩⟩ rfl rfl hl.1 rfl (lv_room (Nat.le_of_ble_eq_true rfl)) d_TR_readJump_17 b_17) hS (fun q _ h => hFc q h) hFc (fun r u t H1 locs ht hvm hw hB hz1 hk1 hS => ?_)
  obtain ⟨hP1, hK1, hD1⟩ := hB
  rw [ht] at hP1
  obtain ⟨hP, hD⟩ := zf hPf hDf hk1 hFc hP1 hD1
  exact k_17 r _ hw H1 locs ls (lv_sub hl [1, 2, 0] rfl) hP hD hS
set_option maxHeartbeats 1000000 in
set_option maxRecDepth 100000 in
theorem k_TR_readJump_20 {C : CT} (X : cX C "QuestionText$TextReader" b_TR_readJump 4 (some (.object "QuestionText$Jump"))) (Post : Option Nat → va_W → Prop) (PX : String → va_W → Prop) {P_28 : Int32 → va_W → Prop} {X_28 : String → va_W → Prop} (x1 : Nat) (x2 : Int32) (y0 : Int32) (f_t : FT) (g_t : GT) (P : va_W) (c0 s0 : Nat)
    (k_35 : (y0 = 0) → zc_TR_readJump C Post PX c0 s0 35 [(0, .ref (ad C.1 20)), (1, .ref x1), (2, .int x2)] [.int 0] (s_t C.1.2.2.2.1 C.1.2.2.2.2 f_t g_t ++ (P)))
    (b_28 : (¬ y0 = 0) → c0 + 3 ≤ 8 ∧ s0 + 18 ≤ 45)
    (m_28 : (¬ y0 = 0) → xI C.1 y_TR_readNumber (Cond.code y_TR_readNumber b_TR_readNumber 6 (some .int)) 1 3 18 [.ref (ad C.1 20), .int 0, .int 999] (s_t C.1.2.2.2.1 C.1.2.2.2.2 f_t g_t) P_28 X_28)
    (k_28 : (¬ y0 = 0) → ∀ (r : Int32) (u : va_W), P_28 r u → zc_TR_readJump C Post PX (c0 + 3) (s0 + 18) 31 [(0, .ref (ad C.1 20)), (1, .ref x1), (2, .int x2)] [.int r] (u ++ (P)))
    (x_28 : (¬ y0 = 0) → ∀ (E : String) (u : va_W), X_28 E u → PX E (u ++ (P))) : zc_TR_readJump C Post PX c0 s0 20 [(0, .ref (ad C.1 20)), (1, .ref x1), (2, .int x2)] [.int y0] (s_t C.1.2.2.2.1 C.1.2.2.2.2 f_t g_t ++ (P)) := by
  obtain ⟨⟨l, dC, dI, k, a⟩, p, e, s, m, args, below, meth, c, A⟩ := C
  obtain ⟨⟨hx, hb, hr, htz, hown, hlocks, hml, hE, hK, hA⟩, hno, hlt⟩ := X
  intro H locs ls hl hP hD hS
  have hl : lv_has ls 4 [(0, .ref (a 20)), (1, .ref x1), (2, .int x2)] := hl
  have hP : va_P (dC, dI) classes (s_t k a f_t g_t ++ (P)) H := hP
  have hD : va_D A (s_t k a f_t g_t ++ (P)) := hD
  show W p l e (z_rm 2 8 45) s m args below meth c H locs c0 s0 _ (F0 m 20 ls [.int y0])
  refine lv_if_eq (tgt := 34) hx hb d_TR_readJump_20 (by decide) (fun c_20 => ?_) (fun c_20 => ?_)
  · refine lv_iconst (v := 0) hx hb d_TR_readJump_34 (by decide) ?_
    exact (k_35 c_20) H locs ls (lv_sub hl [0, 1, 2] rfl) hP hD hS
  · refine lv_aload_n hx hb d_TR_readJump_23 rfl (lv_at hl 0 rfl) ?_
    refine lv_iconst (v := 0) hx hb d_TR_readJump_24 (by decide) ?_
    refine lv_sipush (v := 999) hx hb d_TR_readJump_25 (by decide) ?_
    have hPf : va_P (dC, dI) classes (([]) ++ ((s_t k a f_t g_t) ++ (P))) H := hP
    have hDf : va_D A (([]) ++ ((s_t k a f_t g_t) ++ (P))) := hD
    have hFc := zfree hDf hS hA
    refine vx_calli (vx_runV (As := [.int 0, .int 999]) (rest := []) ⟨hx, hb, hml, hown, htz⟩ ((m_28 c_20) H.size) (cwV 2 htz (z_gV (fun _ h => h) km_TR_57 in_TR_readNumber se_TR_readNumber ini_TR m_TR_readNumber) rfl rfl rfl (by decide +kernel) ⟨(Nat.le_of_ble_eq_true rfl), (Nat.le_of_ble_eq_true rfl)⟩) ⟨z_blind, va_recv hK hP (ci := 1) (q0 := 0) rfl rfl, fun U hU hW => ⟨rfl, by rw [hU], hE.call hS hFc hU hW, by rw [hU]; exact (zPc hPf), va_K.moved hW.alike hK, (zDc hDf)⟩⟩ rfl rfl hl.1 rfl (lv_room (Nat.le_of_ble_eq_true rfl)) d_TR_readJump_28 (b_28 c_20)) hS (fun q _ h => hFc q h) hFc (fun q _ h => hFc q h) (fun E ce q9 u t H1 locs ht hvm hw hB hz1 hk1 hS hce hcv hcl => ?_) (fun r u t H1 locs ht hvm hw hB hz1 hk1 hS => ?_)
    · obtain ⟨hxe, hP1, hK1, hD1⟩ := hB
      rw [ht] at hP1
      obtain ⟨hP, hD⟩ := zf hPf hDf hk1 hFc hP1 hD1
      exact vx_out (fun x hx9 => (hno x hx9).elim) hlocks hce hcv hcl (fun t9 h9 h8 => ⟨_, trivial, ⟨(x_28 c_20) E u hxe, by rw [h9]; exact hP, va_K.moved h8 hK, hD⟩, hS.F h9⟩) hS.2.2 (b_28 c_20).1 (b_28 c_20).2
    · obtain ⟨hP1, hK1, hD1⟩ := hB
      rw [ht] at hP1
      obtain ⟨hP, hD⟩ := zf hPf hDf hk1 hFc hP1 hD1
      exact (k_28 c_20) r _ hw H1 locs ls (lv_sub hl [0, 1, 2] rfl) hP hD hS
set_option maxHeartbeats 1000000 in
set_option maxRecDepth 100000 in
theorem k_TR_readJump_31 {C : CT} (X : cX C "QuestionText$TextReader" b_TR_readJump 4 (some (.object "QuestionText$Jump"))) (Post : Option Nat → va_W → Prop) (PX : String → va_W → Prop) (x1 : Nat) (x2 : Int32) (y0 : Int32) (f_t : FT) (g_t : GT) (P : va_W) (c0 s0 : Nat)
    (k_35 : zc_TR_readJump C Post PX c0 s0 35 [(0, .ref (ad C.1 20)), (1, .ref x1), (2, .int x2)] [.int y0] (s_t C.1.2.2.2.1 C.1.2.2.2.2 f_t g_t ++ (P))) : zc_TR_readJump C Post PX c0 s0 31 [(0, .ref (ad C.1 20)), (1, .ref x1), (2, .int x2)] [.int y0] (s_t C.1.2.2.2.1 C.1.2.2.2.2 f_t g_t ++ (P)) := by
  obtain ⟨⟨l, dC, dI, k, a⟩, p, e, s, m, args, below, meth, c, A⟩ := C
  obtain ⟨⟨hx, hb, hr, htz, hown, hlocks, hml, hE, hK, hA⟩, hno, hlt⟩ := X
  intro H locs ls hl hP hD hS
  have hl : lv_has ls 4 [(0, .ref (a 20)), (1, .ref x1), (2, .int x2)] := hl
  have hP : va_P (dC, dI) classes (s_t k a f_t g_t ++ (P)) H := hP
  have hD : va_D A (s_t k a f_t g_t ++ (P)) := hD
  show W p l e (z_rm 2 8 45) s m args below meth c H locs c0 s0 _ (F0 m 31 ls [.int y0])
  refine lv_goto (tgt := 35) hx hb d_TR_readJump_31 (by decide) ?_
  exact k_35 H locs ls (lv_sub hl [0, 1, 2] rfl) hP hD hS
set_option maxHeartbeats 1000000 in
set_option maxRecDepth 100000 in
theorem k_TR_readJump_35 {C : CT} (X : cX C "QuestionText$TextReader" b_TR_readJump 4 (some (.object "QuestionText$Jump"))) (Post : Option Nat → va_W → Prop) (PX : String → va_W → Prop) {P_43 : Nat → va_W → Prop} (x1 : Nat) (x2 : Int32) (y0 : Int32) (f_t : FT) (g_t : GT) (P : va_W) (c0 s0 : Nat)
    (b_36 : c0 + 1 ≤ 8 ∧ s0 + 3 ≤ 45)
    (b_43 : ∀ w36 : Nat, c0 + 1 ≤ 8 ∧ s0 + 3 ≤ 45)
    (m_43 : ∀ w36 : Nat, uV C.1 y_Ju_init (Cond.code y_Ju_init b_Ju_init 4 none) 0 0 0 [.ref w36, .ref x1, .int x2, .int y0] ([(w36, .inr (8, [.null, .int 0, .int 0]))]) (P_43 w36))
    (k_43 : ∀ w36 : Nat, ∀ (u : va_W), (P_43 w36) u → zc_TR_readJump C Post PX (c0 + 1) (s0 + 3) 46 [(0, .ref (ad C.1 20)), (1, .ref x1), (2, .int x2), (3, .int y0)] [.ref w36] (u ++ (s_t C.1.2.2.2.1 C.1.2.2.2.2 f_t g_t ++ (P)))) : zc_TR_readJump C Post PX c0 s0 35 [(0, .ref (ad C.1 20)), (1, .ref x1), (2, .int x2)] [.int y0] (s_t C.1.2.2.2.1 C.1.2.2.2.2 f_t g_t ++ (P)) := by
  obtain ⟨⟨l, dC, dI, k, a⟩, p, e, s, m, args, below, meth, c, A⟩ := C
  obtain ⟨⟨hx, hb, hr, htz, hown, hlocks, hml, hE, hK, hA⟩, hno, hlt⟩ := X
  intro H locs ls hl hP hD hS
  have hl : lv_has ls 4 [(0, .ref (a 20)), (1, .ref x1), (2, .int x2)] := hl
  have hP : va_P (dC, dI) classes (s_t k a f_t g_t ++ (P)) H := hP
  have hD : va_D A (s_t k a f_t g_t ++ (P)) := hD
  show W p l e (z_rm 2 8 45) s m args below meth c H locs c0 s0 _ (F0 m 35 ls [.int y0])
  refine lv_istore_n (lv' := [(3, .int y0), (0, .ref (a 20)), (1, .ref x1), (2, .int x2)]) hx hb d_TR_readJump_35 rfl hl (by decide) rfl (fun ls hl => ?_)
  refine va_new (ci := 8) (fs := [.null, .int 0, .int 0]) (C := R_Ju) (T := F_Ju) (N := 3) hx hb htz i_Ju t_Ju o_Ju hown (htz _ kc_TR_105) (htz _ mk_Ju) (htz _ ini_Ju) hK hP hD hS hA rfl (by intro j hj; match j, hj with | 0, _ => rfl | 1, _ => rfl | 2, _ => rfl | j + 3, h => exact absurd h (by omega)) b_36.1 b_36.2 d_TR_readJump_36 (fun w36 H hP hD hS => ?_)
  replace hP := zsP hP
  replace hD := zsD hD
  have hP : va_P (dC, dI) classes ([(w36, .inr (8, [.null, .int 0, .int 0]))] ++ (s_t k a f_t g_t ++ (P))) H := hP
  have hD : va_D A ([(w36, .inr (8, [.null, .int 0, .int 0]))] ++ (s_t k a f_t g_t ++ (P))) := hD
  refine lv_dup hx hb d_TR_readJump_39 rfl ?_
  refine lv_aload_n hx hb d_TR_readJump_40 rfl (lv_at hl 2 rfl) ?_
  refine lv_iload_n hx hb d_TR_readJump_41 rfl (lv_at hl 3 rfl) ?_
  refine lv_iload_n hx hb d_TR_readJump_42 rfl (lv_at hl 0 rfl) ?_
  have hPf : va_P (dC, dI) classes (([]) ++ (([(w36, .inr (8, [.null, .int 0, .int 0]))]) ++ (s_t k a f_t g_t ++ (P)))) H := hP
  have hDf : va_D A (([]) ++ (([(w36, .inr (8, [.null, .int 0, .int 0]))]) ++ (s_t k a f_t g_t ++ (P)))) := hD
  have hFc := zfree hDf hS hA
  refine va_callv (va_runI (As := [.ref x1, .int x2, .int y0]) (rest := [.ref w36]) ⟨hx, hb, hml, hown, htz⟩ ((m_43 w36) H.size) (cwI 3 htz (z_gI (fun _ h => h) m_Ju_init) rfl rfl rfl (htz _ ini_Ju) (htz _ km_TR_107) (htz _ in_Ju_init) rfl (by decide +kernel) ⟨(Nat.le_of_ble_eq_true rfl), (Nat.le_of_ble_eq_true rfl)⟩) ⟨z_blind, fun U hU hW => ⟨rfl, by rw [hU], hE.call hS hFc hU hW, by rw [hU]; exact (zPc hPf), va_K.moved hW.alike hK, (zDc hDf)⟩⟩ rfl rfl hl.1 rfl (lv_room (Nat.le_of_ble_eq_true rfl)) d_TR_readJump_43 (b_43 w36)) hS (fun q _ h => hFc q h) hFc (fun u t H1 locs ht hvm hw hB hz1 hk1 hS => ?_)
  obtain ⟨hP1, hK1, hD1⟩ := hB
  rw [ht] at hP1
  obtain ⟨hP, hD⟩ := zf hPf hDf hk1 hFc hP1 hD1
  exact (k_43 w36) _ hw H1 locs ls (lv_sub hl [1, 2, 3, 0] rfl) hP hD hS
set_option maxHeartbeats 1000000 in
set_option maxRecDepth 100000 in
theorem k_TR_readJump_46 {C : CT} (X : cX C "QuestionText$TextReader" b_TR_readJump 4 (some (.object "QuestionText$Jump"))) (Post : Option Nat → va_W → Prop) (PX : String → va_W → Prop) (x1 : Nat) (x2 : Int32) (x3 : Int32) (y0 : Nat) (f_t : FT) (g_t : GT) (P : va_W) (c0 s0 : Nat)
    (b_46 : c0 ≤ 8 ∧ s0 ≤ 45)
    (q_46 : Post (some y0) (s_t C.1.2.2.2.1 C.1.2.2.2.2 f_t g_t ++ (P))) : zc_TR_readJump C Post PX c0 s0 46 [(0, .ref (ad C.1 20)), (1, .ref x1), (2, .int x2), (3, .int x3)] [.ref y0] (s_t C.1.2.2.2.1 C.1.2.2.2.2 f_t g_t ++ (P)) := by
  obtain ⟨⟨l, dC, dI, k, a⟩, p, e, s, m, args, below, meth, c, A⟩ := C
  obtain ⟨⟨hx, hb, hr, htz, hown, hlocks, hml, hE, hK, hA⟩, hno, hlt⟩ := X
  intro H locs ls hl hP hD hS
  have hl : lv_has ls 4 [(0, .ref (a 20)), (1, .ref x1), (2, .int x2), (3, .int x3)] := hl
  have hP : va_P (dC, dI) classes (s_t k a f_t g_t ++ (P)) H := hP
  have hD : va_D A (s_t k a f_t g_t ++ (P)) := hD
  show W p l e (z_rm 2 8 45) s m args below meth c H locs c0 s0 _ (F0 m 46 ls [.ref y0])
  refine W.widen (k := 8) (n := 45) b_46.1 b_46.2 ?_
  refine vx_ret ?_
  exact W.aret (v := .ref y0) hx hb hr (Or.inl ⟨_, rfl⟩) (Or.inr ⟨_, rfl⟩) (fun t ht hW => ⟨⟨(some y0), (s_t k a f_t g_t ++ (P)), rfl, q_46, by rw [ht]; exact hP, va_K.moved hW.alike hK, hD⟩, hS.F ht⟩) hS.2.2 d_TR_readJump_46
set_option maxHeartbeats 1000000 in
set_option maxRecDepth 100000 in
theorem e_TR_readJump (T : ST) (hlt : T.1.stackTraces = false) (Post : Option Nat → va_W → Prop) (PX : String → va_W → Prop) (x1 : Nat) (f_t : FT) (g_t : GT) (P : va_W) (h : ∀ C : CT, C.1 = T → cX C "QuestionText$TextReader" b_TR_readJump 4 (some (.object "QuestionText$Jump")) → zc_TR_readJump C Post PX 0 0 0 [(0, .ref (ad C.1 20)), (1, .ref x1)] [] (s_t C.1.2.2.2.1 C.1.2.2.2.2 f_t g_t ++ (P))) : xR T y_TR_readJump (Cond.code y_TR_readJump b_TR_readJump 4 (some (.object "QuestionText$Jump"))) 2 8 45 [.ref (ad T 20), .ref x1] (s_t T.2.2.2.1 T.2.2.2.2 f_t g_t ++ (P)) Post PX := by
  obtain ⟨l, dC, dI, k, a⟩ := T
  intro sz
  refine vx_ofW (cc := b_TR_readJump) (maxL := 4) (ret := (some (.object "QuestionText$Jump"))) (by decide) rfl ?_
  intro p e s m args below meth c s₁ B hml hno hv
  obtain ⟨rfl, hsz, hE, hP, hK, hD0⟩ := hv
  have hts := atoms_spec (ws := (Cond.code y_TR_readJump b_TR_readJump 4 (some (.object "QuestionText$Jump"))) :: z_T) B.pre
  have htz : ∀ w ∈ z_T, w.before _ s = true := fun w h => hts w (z_cons w h)
  subst hsz
  have hD := hD0.self (sz := s.heap.size)
  generalize hAe : va_A (s_t k a f_t g_t ++ (P)) s.heap.size = A at hD hE ⊢
  have hA : ∀ q : Nat, s.heap.size ≤ q → A q := fun q h => by rw [← hAe]; exact Or.inr h
  have hl := lv_entry ([.ref (a 20), .ref x1]) (n := 4) (Nat.le_of_ble_eq_true rfl)
  rw [lg_entry_eq]
  generalize (lg_sl ([.ref (a 20), .ref x1]) ++ List.replicate (4 - (lg_sl ([.ref (a 20), .ref x1])).length) Slot.unset).toArray = ls at hl ⊢
  exact h ((l, dC, dI, k, a), p, e, s, m, ([.ref (a 20), .ref x1] : List Value).toArray, below, meth, c, A) rfl ⟨⟨B.exec, B.bytes, B.returns, htz, findClass_of_methodNamed B.named, B.notSynchronized, hml, hE, hK, hA⟩, hno, hlt⟩ s.heap [] ls hl hP hD va_S.rf
def zc_TR_readTerm (C : CT) (Post : Option Nat → va_W → Prop) (PX : String → va_W → Prop) (c0 s0 pc : Nat) (loc : List (Nat × Value)) (st : List Value) (ws : va_W) : Prop := zW C (z_rm 2 9 51) 3 (yR C 9 51 Post PX) c0 s0 pc loc st ws
set_option maxHeartbeats 1000000 in
set_option maxRecDepth 100000 in
theorem k_TR_readTerm_0 {C : CT} (X : cX C "QuestionText$TextReader" b_TR_readTerm 3 (some (.object "QuestionText$Term"))) (Post : Option Nat → va_W → Prop) (PX : String → va_W → Prop) {P_5 : Int32 → va_W → Prop} (f_t : FT) (g_t : GT) (P : va_W) (c0 s0 : Nat)
    (b_5 : c0 ≤ 9 ∧ s0 ≤ 51)
    (m_5 : uI C.1 y_TR_took (Cond.code y_TR_took b_TR_took 2 (some .boolean)) 1 0 0 [.ref (ad C.1 20), .int 112] (s_t C.1.2.2.2.1 C.1.2.2.2.2 f_t g_t) P_5)
    (k_5 : ∀ (r : Int32) (u : va_W), P_5 r u → zc_TR_readTerm C Post PX c0 s0 8 [(0, .ref (ad C.1 20)), (1, .int 0)] [.int r] (u ++ (P))) : zc_TR_readTerm C Post PX c0 s0 0 [(0, .ref (ad C.1 20))] [] (s_t C.1.2.2.2.1 C.1.2.2.2.2 f_t g_t ++ (P)) := by
  obtain ⟨⟨l, dC, dI, k, a⟩, p, e, s, m, args, below, meth, c, A⟩ := C
  obtain ⟨⟨hx, hb, hr, htz, hown, hlocks, hml, hE, hK, hA⟩, hno, hlt⟩ := X
  intro H locs ls hl hP hD hS
  have hl : lv_has ls 3 [(0, .ref (a 20))] := hl
  have hP : va_P (dC, dI) classes (s_t k a f_t g_t ++ (P)) H := hP
  have hD : va_D A (s_t k a f_t g_t ++ (P)) := hD
  show W p l e (z_rm 2 9 51) s m args below meth c H locs c0 s0 _ (F0 m 0 ls [])
  refine lv_iconst (v := 0) hx hb d_TR_readTerm_0 (by decide) ?_
  refine lv_istore_n (lv' := [(1, .int 0), (0, .ref (a 20))]) hx hb d_TR_readTerm_1 rfl hl (by decide) rfl (fun ls hl => ?_)
  refine lv_aload_n hx hb d_TR_readTerm_2 rfl (lv_at hl 1 rfl) ?_
  refine lv_bipush (v := 112) hx hb d_TR_readTerm_3 (by decide) ?_
  have hPf : va_P (dC, dI) classes (([]) ++ ((s_t k a f_t g_t) ++ (P))) H := hP
  have hDf : va_D A (([]) ++ ((s_t k a f_t g_t) ++ (P))) := hD
  have hFc := zfree hDf hS hA
  refine va_calli (va_runV (As := [.int 112]) (rest := []) ⟨hx, hb, hml, hown, htz⟩ (m_5 H.size) (cwV 1 htz (z_gV (fun _ h => h) km_TR_41 in_TR_took se_TR_took ini_TR m_TR_took) rfl rfl rfl (by decide +kernel) ⟨(Nat.le_of_ble_eq_true rfl), (Nat.le_of_ble_eq_true rfl)⟩) ⟨z_blind, va_recv hK hP (ci := 1) (q0 := 0) rfl rfl, fun U hU hW => ⟨rfl, by rw [hU], hE.call hS hFc hU hW, by rw [hU]; exact (zPc hPf), va_K.moved hW.alike hK, (zDc hDf)⟩⟩ rfl rfl hl.1 rfl (lv_room (Nat.le_of_ble_eq_true rfl)) d_TR_readTerm_5 b_5) hS (fun q _ h => hFc q h) hFc (fun r u t H1 locs ht hvm hw hB hz1 hk1 hS => ?_)
  obtain ⟨hP1, hK1, hD1⟩ := hB
  rw [ht] at hP1
  obtain ⟨hP, hD⟩ := zf hPf hDf hk1 hFc hP1 hD1
  exact k_5 r _ hw H1 locs ls (lv_sub hl [1, 0] rfl) hP hD hS
set_option maxHeartbeats 1000000 in
set_option maxRecDepth 100000 in
theorem k_TR_readTerm_8 {C : CT} (X : cX C "QuestionText$TextReader" b_TR_readTerm 3 (some (.object "QuestionText$Term"))) (Post : Option Nat → va_W → Prop) (PX : String → va_W → Prop) {P_14 : va_W → Prop} {X_14 : String → va_W → Prop} (x1 : Int32) (y0 : Int32) (f_t : FT) (g_t : GT) (P : va_W) (c0 s0 : Nat)
    (k_25 : (¬ y0 = 0) → zc_TR_readTerm C Post PX c0 s0 25 [(0, .ref (ad C.1 20)), (1, .int x1)] [] (s_t C.1.2.2.2.1 C.1.2.2.2.2 f_t g_t ++ (P)))
    (b_14 : (y0 = 0) → c0 + 1 ≤ 9 ∧ s0 + 6 ≤ 51)
    (m_14 : (y0 = 0) → xV C.1 y_TR_take (Cond.code y_TR_take b_TR_take 2 none) 1 1 6 [.ref (ad C.1 20), .int 113] (s_t C.1.2.2.2.1 C.1.2.2.2.2 f_t g_t) P_14 X_14)
    (k_14 : (y0 = 0) → ∀ (u : va_W), P_14 u → zc_TR_readTerm C Post PX (c0 + 1) (s0 + 6) 17 [(0, .ref (ad C.1 20)), (1, .int x1)] [] (u ++ (P)))
    (x_14 : (y0 = 0) → ∀ (E : String) (u : va_W), X_14 E u → PX E (u ++ (P))) : zc_TR_readTerm C Post PX c0 s0 8 [(0, .ref (ad C.1 20)), (1, .int x1)] [.int y0] (s_t C.1.2.2.2.1 C.1.2.2.2.2 f_t g_t ++ (P)) := by
  obtain ⟨⟨l, dC, dI, k, a⟩, p, e, s, m, args, below, meth, c, A⟩ := C
  obtain ⟨⟨hx, hb, hr, htz, hown, hlocks, hml, hE, hK, hA⟩, hno, hlt⟩ := X
  intro H locs ls hl hP hD hS
  have hl : lv_has ls 3 [(0, .ref (a 20)), (1, .int x1)] := hl
  have hP : va_P (dC, dI) classes (s_t k a f_t g_t ++ (P)) H := hP
  have hD : va_D A (s_t k a f_t g_t ++ (P)) := hD
  show W p l e (z_rm 2 9 51) s m args below meth c H locs c0 s0 _ (F0 m 8 ls [.int y0])
  refine lv_if_ne (tgt := 25) hx hb d_TR_readTerm_8 (by decide) (fun c_8 => ?_) (fun c_8 => ?_)
  · exact (k_25 c_8) H locs ls (lv_sub hl [0, 1] rfl) hP hD hS
  · refine lv_aload_n hx hb d_TR_readTerm_11 rfl (lv_at hl 0 rfl) ?_
    refine lv_bipush (v := 113) hx hb d_TR_readTerm_12 (by decide) ?_
    have hPf : va_P (dC, dI) classes (([]) ++ ((s_t k a f_t g_t) ++ (P))) H := hP
    have hDf : va_D A (([]) ++ ((s_t k a f_t g_t) ++ (P))) := hD
    have hFc := zfree hDf hS hA
    refine vx_callv (vx_runV (As := [.int 113]) (rest := []) ⟨hx, hb, hml, hown, htz⟩ ((m_14 c_8) H.size) (cwV 1 htz (z_gV (fun _ h => h) km_TR_48 in_TR_take se_TR_take ini_TR m_TR_take) rfl rfl rfl (by decide +kernel) ⟨(Nat.le_of_ble_eq_true rfl), (Nat.le_of_ble_eq_true rfl)⟩) ⟨z_blind, va_recv hK hP (ci := 1) (q0 := 0) rfl rfl, fun U hU hW => ⟨rfl, by rw [hU], hE.call hS hFc hU hW, by rw [hU]; exact (zPc hPf), va_K.moved hW.alike hK, (zDc hDf)⟩⟩ rfl rfl hl.1 rfl (lv_room (Nat.le_of_ble_eq_true rfl)) d_TR_readTerm_14 (b_14 c_8)) hS (fun q _ h => hFc q h) hFc (fun q _ h => hFc q h) (fun E ce q9 u t H1 locs ht hvm hw hB hz1 hk1 hS hce hcv hcl => ?_) (fun u t H1 locs ht hvm hw hB hz1 hk1 hS => ?_)
    · obtain ⟨hxe, hP1, hK1, hD1⟩ := hB
      rw [ht] at hP1
      obtain ⟨hP, hD⟩ := zf hPf hDf hk1 hFc hP1 hD1
      exact vx_out (fun x hx9 => (hno x hx9).elim) hlocks hce hcv hcl (fun t9 h9 h8 => ⟨_, trivial, ⟨(x_14 c_8) E u hxe, by rw [h9]; exact hP, va_K.moved h8 hK, hD⟩, hS.F h9⟩) hS.2.2 (b_14 c_8).1 (b_14 c_8).2
    · obtain ⟨hP1, hK1, hD1⟩ := hB
      rw [ht] at hP1
      obtain ⟨hP, hD⟩ := zf hPf hDf hk1 hFc hP1 hD1
      exact (k_14 c_8) _ hw H1 locs ls (lv_sub hl [0, 1] rfl) hP hD hS
set_option maxHeartbeats 1000000 in
set_option maxRecDepth 100000 in
theorem k_TR_readTerm_17 {C : CT} (X : cX C "QuestionText$TextReader" b_TR_readTerm 3 (some (.object "QuestionText$Term"))) (Post : Option Nat → va_W → Prop) (PX : String → va_W → Prop) {P_21 : Int32 → va_W → Prop} {X_21 : String → va_W → Prop} (x1 : Int32) (f_t : FT) (g_t : GT) (P : va_W) (c0 s0 : Nat)
    (b_21 : c0 + 3 ≤ 9 ∧ s0 + 18 ≤ 51)
    (m_21 : xI C.1 y_TR_readNumber (Cond.code y_TR_readNumber b_TR_readNumber 6 (some .int)) 1 3 18 [.ref (ad C.1 20), .int 1, .int 60] (s_t C.1.2.2.2.1 C.1.2.2.2.2 f_t g_t) P_21 X_21)
    (k_21 : ∀ (r : Int32) (u : va_W), P_21 r u → zc_TR_readTerm C Post PX (c0 + 3) (s0 + 18) 24 [(0, .ref (ad C.1 20)), (1, .int x1)] [.int r] (u ++ (P)))
    (x_21 : ∀ (E : String) (u : va_W), X_21 E u → PX E (u ++ (P))) : zc_TR_readTerm C Post PX c0 s0 17 [(0, .ref (ad C.1 20)), (1, .int x1)] [] (s_t C.1.2.2.2.1 C.1.2.2.2.2 f_t g_t ++ (P)) := by
  obtain ⟨⟨l, dC, dI, k, a⟩, p, e, s, m, args, below, meth, c, A⟩ := C
  obtain ⟨⟨hx, hb, hr, htz, hown, hlocks, hml, hE, hK, hA⟩, hno, hlt⟩ := X
  intro H locs ls hl hP hD hS
  have hl : lv_has ls 3 [(0, .ref (a 20)), (1, .int x1)] := hl
  have hP : va_P (dC, dI) classes (s_t k a f_t g_t ++ (P)) H := hP
  have hD : va_D A (s_t k a f_t g_t ++ (P)) := hD
  show W p l e (z_rm 2 9 51) s m args below meth c H locs c0 s0 _ (F0 m 17 ls [])
  refine lv_aload_n hx hb d_TR_readTerm_17 rfl (lv_at hl 0 rfl) ?_
  refine lv_iconst (v := 1) hx hb d_TR_readTerm_18 (by decide) ?_
  refine lv_bipush (v := 60) hx hb d_TR_readTerm_19 (by decide) ?_
  have hPf : va_P (dC, dI) classes (([]) ++ ((s_t k a f_t g_t) ++ (P))) H := hP
  have hDf : va_D A (([]) ++ ((s_t k a f_t g_t) ++ (P))) := hD
  have hFc := zfree hDf hS hA
  refine vx_calli (vx_runV (As := [.int 1, .int 60]) (rest := []) ⟨hx, hb, hml, hown, htz⟩ (m_21 H.size) (cwV 2 htz (z_gV (fun _ h => h) km_TR_57 in_TR_readNumber se_TR_readNumber ini_TR m_TR_readNumber) rfl rfl rfl (by decide +kernel) ⟨(Nat.le_of_ble_eq_true rfl), (Nat.le_of_ble_eq_true rfl)⟩) ⟨z_blind, va_recv hK hP (ci := 1) (q0 := 0) rfl rfl, fun U hU hW => ⟨rfl, by rw [hU], hE.call hS hFc hU hW, by rw [hU]; exact (zPc hPf), va_K.moved hW.alike hK, (zDc hDf)⟩⟩ rfl rfl hl.1 rfl (lv_room (Nat.le_of_ble_eq_true rfl)) d_TR_readTerm_21 b_21) hS (fun q _ h => hFc q h) hFc (fun q _ h => hFc q h) (fun E ce q9 u t H1 locs ht hvm hw hB hz1 hk1 hS hce hcv hcl => ?_) (fun r u t H1 locs ht hvm hw hB hz1 hk1 hS => ?_)
  · obtain ⟨hxe, hP1, hK1, hD1⟩ := hB
    rw [ht] at hP1
    obtain ⟨hP, hD⟩ := zf hPf hDf hk1 hFc hP1 hD1
    exact vx_out (fun x hx9 => (hno x hx9).elim) hlocks hce hcv hcl (fun t9 h9 h8 => ⟨_, trivial, ⟨x_21 E u hxe, by rw [h9]; exact hP, va_K.moved h8 hK, hD⟩, hS.F h9⟩) hS.2.2 b_21.1 b_21.2
  · obtain ⟨hP1, hK1, hD1⟩ := hB
    rw [ht] at hP1
    obtain ⟨hP, hD⟩ := zf hPf hDf hk1 hFc hP1 hD1
    exact k_21 r _ hw H1 locs ls (lv_sub hl [0, 1] rfl) hP hD hS
set_option maxHeartbeats 1000000 in
set_option maxRecDepth 100000 in
theorem k_TR_readTerm_24 {C : CT} (X : cX C "QuestionText$TextReader" b_TR_readTerm 3 (some (.object "QuestionText$Term"))) (Post : Option Nat → va_W → Prop) (PX : String → va_W → Prop) (x1 : Int32) (y0 : Int32) (f_t : FT) (g_t : GT) (P : va_W) (c0 s0 : Nat)
    (k_25 : zc_TR_readTerm C Post PX c0 s0 25 [(0, .ref (ad C.1 20)), (1, .int y0)] [] (s_t C.1.2.2.2.1 C.1.2.2.2.2 f_t g_t ++ (P))) : zc_TR_readTerm C Post PX c0 s0 24 [(0, .ref (ad C.1 20)), (1, .int x1)] [.int y0] (s_t C.1.2.2.2.1 C.1.2.2.2.2 f_t g_t ++ (P)) := by
  obtain ⟨⟨l, dC, dI, k, a⟩, p, e, s, m, args, below, meth, c, A⟩ := C
  obtain ⟨⟨hx, hb, hr, htz, hown, hlocks, hml, hE, hK, hA⟩, hno, hlt⟩ := X
  intro H locs ls hl hP hD hS
  have hl : lv_has ls 3 [(0, .ref (a 20)), (1, .int x1)] := hl
  have hP : va_P (dC, dI) classes (s_t k a f_t g_t ++ (P)) H := hP
  have hD : va_D A (s_t k a f_t g_t ++ (P)) := hD
  show W p l e (z_rm 2 9 51) s m args below meth c H locs c0 s0 _ (F0 m 24 ls [.int y0])
  refine lv_istore_n (lv' := [(1, .int y0), (0, .ref (a 20))]) hx hb d_TR_readTerm_24 rfl hl (by decide) rfl (fun ls hl => ?_)
  exact k_25 H locs ls (lv_sub hl [1, 0] rfl) hP hD hS
set_option maxHeartbeats 1000000 in
set_option maxRecDepth 100000 in
theorem k_TR_readTerm_25 {C : CT} (X : cX C "QuestionText$TextReader" b_TR_readTerm 3 (some (.object "QuestionText$Term"))) (Post : Option Nat → va_W → Prop) (PX : String → va_W → Prop) {P_26 : Int32 → va_W → Prop} (x1 : Int32) (f_t : FT) (g_t : GT) (P : va_W) (c0 s0 : Nat)
    (b_26 : c0 ≤ 9 ∧ s0 ≤ 51)
    (m_26 : uI C.1 y_TR_nextSign (Cond.code y_TR_nextSign b_TR_nextSign 1 (some .int)) 0 0 0 [.ref (ad C.1 20)] (s_t C.1.2.2.2.1 C.1.2.2.2.2 f_t g_t) P_26)
    (k_26 : ∀ (r : Int32) (u : va_W), P_26 r u → zc_TR_readTerm C Post PX c0 s0 29 [(0, .ref (ad C.1 20)), (1, .int x1)] [.int r] (u ++ (P))) : zc_TR_readTerm C Post PX c0 s0 25 [(0, .ref (ad C.1 20)), (1, .int x1)] [] (s_t C.1.2.2.2.1 C.1.2.2.2.2 f_t g_t ++ (P)) := by
  obtain ⟨⟨l, dC, dI, k, a⟩, p, e, s, m, args, below, meth, c, A⟩ := C
  obtain ⟨⟨hx, hb, hr, htz, hown, hlocks, hml, hE, hK, hA⟩, hno, hlt⟩ := X
  intro H locs ls hl hP hD hS
  have hl : lv_has ls 3 [(0, .ref (a 20)), (1, .int x1)] := hl
  have hP : va_P (dC, dI) classes (s_t k a f_t g_t ++ (P)) H := hP
  have hD : va_D A (s_t k a f_t g_t ++ (P)) := hD
  show W p l e (z_rm 2 9 51) s m args below meth c H locs c0 s0 _ (F0 m 25 ls [])
  refine lv_aload_n hx hb d_TR_readTerm_25 rfl (lv_at hl 0 rfl) ?_
  have hPf : va_P (dC, dI) classes (([]) ++ ((s_t k a f_t g_t) ++ (P))) H := hP
  have hDf : va_D A (([]) ++ ((s_t k a f_t g_t) ++ (P))) := hD
  have hFc := zfree hDf hS hA
  refine va_calli (va_runV (As := []) (rest := []) ⟨hx, hb, hml, hown, htz⟩ (m_26 H.size) (cwV 0 htz (z_gV (fun _ h => h) km_TR_37 in_TR_nextSign se_TR_nextSign ini_TR m_TR_nextSign) rfl rfl rfl (by decide +kernel) ⟨(Nat.le_of_ble_eq_true rfl), (Nat.le_of_ble_eq_true rfl)⟩) ⟨z_blind, va_recv hK hP (ci := 1) (q0 := 0) rfl rfl, fun U hU hW => ⟨rfl, by rw [hU], hE.call hS hFc hU hW, by rw [hU]; exact (zPc hPf), va_K.moved hW.alike hK, (zDc hDf)⟩⟩ rfl rfl hl.1 rfl (lv_room (Nat.le_of_ble_eq_true rfl)) d_TR_readTerm_26 b_26) hS (fun q _ h => hFc q h) hFc (fun r u t H1 locs ht hvm hw hB hz1 hk1 hS => ?_)
  obtain ⟨hP1, hK1, hD1⟩ := hB
  rw [ht] at hP1
  obtain ⟨hP, hD⟩ := zf hPf hDf hk1 hFc hP1 hD1
  exact k_26 r _ hw H1 locs ls (lv_sub hl [0, 1] rfl) hP hD hS
set_option maxHeartbeats 1000000 in
set_option maxRecDepth 100000 in
theorem k_TR_readTerm_29 {C : CT} (X : cX C "QuestionText$TextReader" b_TR_readTerm 3 (some (.object "QuestionText$Term"))) (Post : Option Nat → va_W → Prop) (PX : String → va_W → Prop) (x1 : Int32) (y0 : Int32) (f_t : FT) (g_t : GT) (P : va_W) (c0 s0 : Nat)
    (k_60 : (y0 = 60) → zc_TR_readTerm C Post PX c0 s0 60 [(0, .ref (ad C.1 20)), (1, .int x1), (2, .int y0)] [] (s_t C.1.2.2.2.1 C.1.2.2.2.2 f_t g_t ++ (P)))
    (k_60_1 : (¬ y0 = 60) → (y0 = 62) → zc_TR_readTerm C Post PX c0 s0 60 [(0, .ref (ad C.1 20)), (1, .int x1), (2, .int y0)] [] (s_t C.1.2.2.2.1 C.1.2.2.2.2 f_t g_t ++ (P)))
    (k_52 : (¬ y0 = 60) → (¬ y0 = 62) → (¬ y0 = 61) → zc_TR_readTerm C Post PX c0 s0 52 [(0, .ref (ad C.1 20)), (1, .int x1), (2, .int y0)] [] (s_t C.1.2.2.2.1 C.1.2.2.2.2 f_t g_t ++ (P)))
    (k_60_2 : (¬ y0 = 60) → (¬ y0 = 62) → (y0 = 61) → (¬ x1 = 0) → zc_TR_readTerm C Post PX c0 s0 60 [(0, .ref (ad C.1 20)), (1, .int x1), (2, .int y0)] [] (s_t C.1.2.2.2.1 C.1.2.2.2.2 f_t g_t ++ (P)))
    (k_52_1 : (¬ y0 = 60) → (¬ y0 = 62) → (y0 = 61) → (x1 = 0) → zc_TR_readTerm C Post PX c0 s0 52 [(0, .ref (ad C.1 20)), (1, .int x1), (2, .int y0)] [] (s_t C.1.2.2.2.1 C.1.2.2.2.2 f_t g_t ++ (P))) : zc_TR_readTerm C Post PX c0 s0 29 [(0, .ref (ad C.1 20)), (1, .int x1)] [.int y0] (s_t C.1.2.2.2.1 C.1.2.2.2.2 f_t g_t ++ (P)) := by
  obtain ⟨⟨l, dC, dI, k, a⟩, p, e, s, m, args, below, meth, c, A⟩ := C
  obtain ⟨⟨hx, hb, hr, htz, hown, hlocks, hml, hE, hK, hA⟩, hno, hlt⟩ := X
  intro H locs ls hl hP hD hS
  have hl : lv_has ls 3 [(0, .ref (a 20)), (1, .int x1)] := hl
  have hP : va_P (dC, dI) classes (s_t k a f_t g_t ++ (P)) H := hP
  have hD : va_D A (s_t k a f_t g_t ++ (P)) := hD
  show W p l e (z_rm 2 9 51) s m args below meth c H locs c0 s0 _ (F0 m 29 ls [.int y0])
  refine lv_istore_n (lv' := [(2, .int y0), (0, .ref (a 20)), (1, .int x1)]) hx hb d_TR_readTerm_29 rfl hl (by decide) rfl (fun ls hl => ?_)
  refine lv_iload_n hx hb d_TR_readTerm_30 rfl (lv_at hl 0 rfl) ?_
  refine lv_bipush (v := 60) hx hb d_TR_readTerm_31 (by decide) ?_
  refine lv_icmp_eq (tgt := 60) hx hb d_TR_readTerm_33 (by decide) (fun c_33 => ?_) (fun c_33 => ?_)
  · exact (k_60 c_33) H locs ls (lv_sub hl [1, 2, 0] rfl) hP hD hS
  · refine lv_iload_n hx hb d_TR_readTerm_36 rfl (lv_at hl 0 rfl) ?_
    refine lv_bipush (v := 62) hx hb d_TR_readTerm_37 (by decide) ?_
    refine lv_icmp_eq (tgt := 60) hx hb d_TR_readTerm_39 (by decide) (fun c_39 => ?_) (fun c_39 => ?_)
    · exact (k_60_1 c_33 c_39) H locs ls (lv_sub hl [1, 2, 0] rfl) hP hD hS
    · refine lv_iload_n hx hb d_TR_readTerm_42 rfl (lv_at hl 0 rfl) ?_
      refine lv_bipush (v := 61) hx hb d_TR_readTerm_43 (by decide) ?_
      refine lv_icmp_ne (tgt := 52) hx hb d_TR_readTerm_45 (by decide) (fun c_45 => ?_) (fun c_45 => ?_)
      · exact (k_52 c_33 c_39 c_45) H locs ls (lv_sub hl [1, 2, 0] rfl) hP hD hS
      · refine lv_iload_n hx hb d_TR_readTerm_48 rfl (lv_at hl 2 rfl) ?_
        refine lv_if_ne (tgt := 60) hx hb d_TR_readTerm_49 (by decide) (fun c_49 => ?_) (fun c_49 => ?_)
        · exact (k_60_2 c_33 c_39 c_45 c_49) H locs ls (lv_sub hl [1, 2, 0] rfl) hP hD hS
        · exact (k_52_1 c_33 c_39 c_45 c_49) H locs ls (lv_sub hl [1, 2, 0] rfl) hP hD hS
set_option maxHeartbeats 1000000 in
set_option maxRecDepth 100000 in
theorem k_TR_readTerm_52 {C : CT} (X : cX C "QuestionText$TextReader" b_TR_readTerm 3 (some (.object "QuestionText$Term"))) (Post : Option Nat → va_W → Prop) (PX : String → va_W → Prop) {P_57 : va_W → Prop} {X_57 : String → va_W → Prop} (x1 : Int32) (x2 : Int32) (f_t : FT) (g_t : GT) (P : va_W) (c0 s0 : Nat)
    (b_57 : c0 + 1 ≤ 9 ∧ s0 + 6 ≤ 51)
    (m_57 : xV C.1 y_TR_fail (Cond.code y_TR_fail b_TR_fail 2 none) 0 1 6 [.ref (ad C.1 20), .int (f_t 1)] (s_t C.1.2.2.2.1 C.1.2.2.2.2 f_t g_t) P_57 X_57)
    (k_57 : ∀ (u : va_W), P_57 u → zc_TR_readTerm C Post PX (c0 + 1) (s0 + 6) 60 [(0, .ref (ad C.1 20)), (1, .int x1), (2, .int x2)] [] (u ++ (P)))
    (x_57 : ∀ (E : String) (u : va_W), X_57 E u → PX E (u ++ (P))) : zc_TR_readTerm C Post PX c0 s0 52 [(0, .ref (ad C.1 20)), (1, .int x1), (2, .int x2)] [] (s_t C.1.2.2.2.1 C.1.2.2.2.2 f_t g_t ++ (P)) := by
  obtain ⟨⟨l, dC, dI, k, a⟩, p, e, s, m, args, below, meth, c, A⟩ := C
  obtain ⟨⟨hx, hb, hr, htz, hown, hlocks, hml, hE, hK, hA⟩, hno, hlt⟩ := X
  intro H locs ls hl hP hD hS
  have hl : lv_has ls 3 [(0, .ref (a 20)), (1, .int x1), (2, .int x2)] := hl
  have hP : va_P (dC, dI) classes (s_t k a f_t g_t ++ (P)) H := hP
  have hD : va_D A (s_t k a f_t g_t ++ (P)) := hD
  show W p l e (z_rm 2 9 51) s m args below meth c H locs c0 s0 _ (F0 m 52 ls [])
  refine lv_aload_n hx hb d_TR_readTerm_52 rfl (lv_at hl 0 rfl) ?_
  refine lv_aload_n hx hb d_TR_readTerm_53 rfl (lv_at hl 0 rfl) ?_
  refine va_get (D := (dC, dI)) (ci := 1) (v := .int (f_t 1)) (C := R_TR) (T := F_TR) (N := 5) hx hb htz i_TR hown hK hP 0 rfl rfl 4 (by decide) (htz _ kf_TR_31) (fun _ h9 => h9) rfl d_TR_readTerm_54 ?_
  have hPf : va_P (dC, dI) classes (([]) ++ ((s_t k a f_t g_t) ++ (P))) H := hP
  have hDf : va_D A (([]) ++ ((s_t k a f_t g_t) ++ (P))) := hD
  have hFc := zfree hDf hS hA
  refine vx_callv (vx_runV (As := [.int (f_t 1)]) (rest := []) ⟨hx, hb, hml, hown, htz⟩ (m_57 H.size) (cwV 1 htz (z_gV (fun _ h => h) km_TR_61 in_TR_fail se_TR_fail ini_TR m_TR_fail) rfl rfl rfl (by decide +kernel) ⟨(Nat.le_of_ble_eq_true rfl), (Nat.le_of_ble_eq_true rfl)⟩) ⟨z_blind, va_recv hK hP (ci := 1) (q0 := 0) rfl rfl, fun U hU hW => ⟨rfl, by rw [hU], hE.call hS hFc hU hW, by rw [hU]; exact (zPc hPf), va_K.moved hW.alike hK, (zDc hDf)⟩⟩ rfl rfl hl.1 rfl (lv_room (Nat.le_of_ble_eq_true rfl)) d_TR_readTerm_57 b_57) hS (fun q _ h => hFc q h) hFc (fun q _ h => hFc q h) (fun E ce q9 u t H1 locs ht hvm hw hB hz1 hk1 hS hce hcv hcl => ?_) (fun u t H1 locs ht hvm hw hB hz1 hk1 hS => ?_)
  · obtain ⟨hxe, hP1, hK1, hD1⟩ := hB
    rw [ht] at hP1
    obtain ⟨hP, hD⟩ := zf hPf hDf hk1 hFc hP1 hD1
    exact vx_out (fun x hx9 => (hno x hx9).elim) hlocks hce hcv hcl (fun t9 h9 h8 => ⟨_, trivial, ⟨x_57 E u hxe, by rw [h9]; exact hP, va_K.moved h8 hK, hD⟩, hS.F h9⟩) hS.2.2 b_57.1 b_57.2
  · obtain ⟨hP1, hK1, hD1⟩ := hB
    rw [ht] at hP1
    obtain ⟨hP, hD⟩ := zf hPf hDf hk1 hFc hP1 hD1
    exact k_57 _ hw H1 locs ls (lv_sub hl [0, 1, 2] rfl) hP hD hS
set_option maxHeartbeats 1000000 in
set_option maxRecDepth 100000 in
theorem k_TR_readTerm_60 {C : CT} (X : cX C "QuestionText$TextReader" b_TR_readTerm 3 (some (.object "QuestionText$Term"))) (Post : Option Nat → va_W → Prop) (PX : String → va_W → Prop) {P_81 : Nat → Int32 → va_W → Prop} {X_81 : Nat → String → va_W → Prop} (x1 : Int32) (x2 : Int32) (f_t : FT) (g_t : GT) (P : va_W) (c0 s0 : Nat)
    (b_70 : c0 + 1 ≤ 9 ∧ s0 + 3 ≤ 51)
    (b_81 : ∀ w70 : Nat, c0 + 1 + 3 ≤ 9 ∧ s0 + 3 + 18 ≤ 51)
    (m_81 : ∀ w70 : Nat, xI C.1 y_TR_readNumber (Cond.code y_TR_readNumber b_TR_readNumber 6 (some .int)) 1 3 18 [.ref (ad C.1 20), .int 0, .int 9999] (s_t C.1.2.2.2.1 C.1.2.2.2.2 (va_up f_t 1 ((f_t 1) + 1)) g_t) (P_81 w70) (X_81 w70))
    (k_81 : ∀ w70 : Nat, ∀ (r : Int32) (u : va_W), (P_81 w70) r u → zc_TR_readTerm C Post PX (c0 + 1 + 3) (s0 + 3 + 18) 84 [(0, .ref (ad C.1 20)), (1, .int x1), (2, .int x2)] [.int r, .int x2, .int x1, .ref w70, .ref w70] ([(w70, .inr (9, [.int 0, .int 0, .int 0]))] ++ (u ++ (P))))
    (x_81 : ∀ w70 : Nat, ∀ (E : String) (u : va_W), (X_81 w70) E u → PX E ([(w70, .inr (9, [.int 0, .int 0, .int 0]))] ++ (u ++ (P)))) : zc_TR_readTerm C Post PX c0 s0 60 [(0, .ref (ad C.1 20)), (1, .int x1), (2, .int x2)] [] (s_t C.1.2.2.2.1 C.1.2.2.2.2 f_t g_t ++ (P)) := by
  obtain ⟨⟨l, dC, dI, k, a⟩, p, e, s, m, args, below, meth, c, A⟩ := C
  obtain ⟨⟨hx, hb, hr, htz, hown, hlocks, hml, hE, hK, hA⟩, hno, hlt⟩ := X
  intro H locs ls hl hP hD hS
  have hl : lv_has ls 3 [(0, .ref (a 20)), (1, .int x1), (2, .int x2)] := hl
  have hP : va_P (dC, dI) classes (s_t k a f_t g_t ++ (P)) H := hP
  have hD : va_D A (s_t k a f_t g_t ++ (P)) := hD
  show W p l e (z_rm 2 9 51) s m args below meth c H locs c0 s0 _ (F0 m 60 ls [])
  refine lv_aload_n hx hb d_TR_readTerm_60 rfl (lv_at hl 0 rfl) ?_
  refine lv_dup hx hb d_TR_readTerm_61 rfl ?_
  refine va_get (D := (dC, dI)) (ci := 1) (v := .int (f_t 1)) (C := R_TR) (T := F_TR) (N := 5) hx hb htz i_TR hown hK hP 0 rfl rfl 4 (by decide) (htz _ kf_TR_31) (fun _ h9 => h9) rfl d_TR_readTerm_62 ?_
  refine lv_iconst (v := 1) hx hb d_TR_readTerm_65 (by decide) ?_
  refine lv_iadd hx hb d_TR_readTerm_66 ?_
  refine va_put (D := (dC, dI)) (ci := 1) (v := .int ((f_t 1) + 1)) (ty := .int) (C := R_TR) (T := F_TR) (N := 5) hx hb htz i_TR t_TR o_TR n_TR hown hK hP hD hS 0 rfl rfl 4 (by decide) (htz _ kf_TR_31) (fun _ h9 => h9) rfl (by decide +kernel) rfl rfl (Nat.le_of_ble_eq_true rfl) d_TR_readTerm_67 (fun H locs hP hD hS => ?_)
  have hP : va_P (dC, dI) classes (s_t k a (va_up f_t 1 ((f_t 1) + 1)) g_t ++ (P)) H := hP
  have hD : va_D A (s_t k a (va_up f_t 1 ((f_t 1) + 1)) g_t ++ (P)) := hD
  refine va_new (ci := 9) (fs := [.int 0, .int 0, .int 0]) (C := R_Te) (T := F_Te) (N := 3) hx hb htz i_Te t_Te o_Te hown (htz _ kc_TR_126) (htz _ mk_Te) (htz _ ini_Te) hK hP hD hS hA rfl (by intro j hj; match j, hj with | 0, _ => rfl | 1, _ => rfl | 2, _ => rfl | j + 3, h => exact absurd h (by omega)) b_70.1 b_70.2 d_TR_readTerm_70 (fun w70 H hP hD hS => ?_)
  replace hP := zsP hP
  replace hD := zsD hD
  have hP : va_P (dC, dI) classes ([(w70, .inr (9, [.int 0, .int 0, .int 0]))] ++ (s_t k a (va_up f_t 1 ((f_t 1) + 1)) g_t ++ (P))) H := hP
  have hD : va_D A ([(w70, .inr (9, [.int 0, .int 0, .int 0]))] ++ (s_t k a (va_up f_t 1 ((f_t 1) + 1)) g_t ++ (P))) := hD
  refine lv_dup hx hb d_TR_readTerm_73 rfl ?_
  refine lv_iload_n hx hb d_TR_readTerm_74 rfl (lv_at hl 1 rfl) ?_
  refine lv_iload_n hx hb d_TR_readTerm_75 rfl (lv_at hl 2 rfl) ?_
  refine lv_aload_n hx hb d_TR_readTerm_76 rfl (lv_at hl 0 rfl) ?_
  refine lv_iconst (v := 0) hx hb d_TR_readTerm_77 (by decide) ?_
  refine lv_sipush (v := 9999) hx hb d_TR_readTerm_78 (by decide) ?_
  have hPf : va_P (dC, dI) classes (([(w70, .inr (9, [.int 0, .int 0, .int 0]))]) ++ ((s_t k a (va_up f_t 1 ((f_t 1) + 1)) g_t) ++ (P))) H := hP
  have hDf : va_D A (([(w70, .inr (9, [.int 0, .int 0, .int 0]))]) ++ ((s_t k a (va_up f_t 1 ((f_t 1) + 1)) g_t) ++ (P))) := hD
  have hFc := zfree hDf hS hA
  refine vx_calli (vx_runV (As := [.int 0, .int 9999]) (rest := [.int x2, .int x1, .ref w70, .ref w70]) ⟨hx, hb, hml, hown, htz⟩ ((m_81 w70) H.size) (cwV 2 htz (z_gV (fun _ h => h) km_TR_57 in_TR_readNumber se_TR_readNumber ini_TR m_TR_readNumber) rfl rfl rfl (by decide +kernel) ⟨(Nat.le_of_ble_eq_true rfl), (Nat.le_of_ble_eq_true rfl)⟩) ⟨z_blind, va_recv hK hP (ci := 1) (q0 := 1) rfl rfl, fun U hU hW => ⟨rfl, by rw [hU], hE.call hS hFc hU hW, by rw [hU]; exact (zPc hPf), va_K.moved hW.alike hK, (zDc hDf)⟩⟩ rfl rfl hl.1 rfl (lv_room (Nat.le_of_ble_eq_true rfl)) d_TR_readTerm_81 (b_81 w70)) hS (fun q _ h => hFc q h) hFc (fun q _ h => hFc q h) (fun E ce q9 u t H1 locs ht hvm hw hB hz1 hk1 hS hce hcv hcl => ?_) (fun r u t H1 locs ht hvm hw hB hz1 hk1 hS => ?_)
  · obtain ⟨hxe, hP1, hK1, hD1⟩ := hB
    rw [ht] at hP1
    obtain ⟨hP, hD⟩ := zf hPf hDf hk1 hFc hP1 hD1
    exact vx_out (fun x hx9 => (hno x hx9).elim) hlocks hce hcv hcl (fun t9 h9 h8 => ⟨_, trivial, ⟨(x_81 w70) E u hxe, by rw [h9]; exact hP, va_K.moved h8 hK, hD⟩, hS.F h9⟩) hS.2.2 (b_81 w70).1 (b_81 w70).2
  · obtain ⟨hP1, hK1, hD1⟩ := hB
    rw [ht] at hP1
    obtain ⟨hP, hD⟩ := zf hPf hDf hk1 hFc hP1 hD1
    exact (k_81 w70) r _ hw H1 locs ls (lv_sub hl [0, 1, 2] rfl) hP hD hS
set_option maxHeartbeats 1000000 in
set_option maxRecDepth 100000 in
theorem k_TR_readTerm_84 {C : CT} (X : cX C "QuestionText$TextReader" b_TR_readTerm 3 (some (.object "QuestionText$Term"))) (Post : Option Nat → va_W → Prop) (PX : String → va_W → Prop) {P_84 : va_W → Prop} (x1 : Int32) (x2 : Int32) (y0 : Int32) (y1 : Int32) (y2 : Int32) (w70 : Nat) (f_t : FT) (g_t : GT) (P : va_W) (c0 s0 : Nat)
    (b_84 : c0 ≤ 9 ∧ s0 ≤ 51)
    (m_84 : uV C.1 y_Te_init (Cond.code y_Te_init b_Te_init 4 none) 0 0 0 [.ref w70, .int y2, .int y1, .int y0] ([(w70, .inr (9, [.int 0, .int 0, .int 0]))]) P_84)
    (k_84 : ∀ (u : va_W), P_84 u → zc_TR_readTerm C Post PX c0 s0 87 [(0, .ref (ad C.1 20)), (1, .int x1), (2, .int x2)] [.ref w70] (u ++ (s_t C.1.2.2.2.1 C.1.2.2.2.2 f_t g_t ++ (P)))) : zc_TR_readTerm C Post PX c0 s0 84 [(0, .ref (ad C.1 20)), (1, .int x1), (2, .int x2)] [.int y0, .int y1, .int y2, .ref w70, .ref w70] ([(w70, .inr (9, [.int 0, .int 0, .int 0]))] ++ (s_t C.1.2.2.2.1 C.1.2.2.2.2 f_t g_t ++ (P))) := by
  obtain ⟨⟨l, dC, dI, k, a⟩, p, e, s, m, args, below, meth, c, A⟩ := C
  obtain ⟨⟨hx, hb, hr, htz, hown, hlocks, hml, hE, hK, hA⟩, hno, hlt⟩ := X
  intro H locs ls hl hP hD hS
  have hl : lv_has ls 3 [(0, .ref (a 20)), (1, .int x1), (2, .int x2)] := hl
  have hP : va_P (dC, dI) classes ([(w70, .inr (9, [.int 0, .int 0, .int 0]))] ++ (s_t k a f_t g_t ++ (P))) H := hP
  have hD : va_D A ([(w70, .inr (9, [.int 0, .int 0, .int 0]))] ++ (s_t k a f_t g_t ++ (P))) := hD
  show W p l e (z_rm 2 9 51) s m args below meth c H locs c0 s0 _ (F0 m 84 ls [.int y0, .int y1, .int y2, .ref w70, .ref w70])
  have hPf : va_P (dC, dI) classes (([]) ++ (([(w70, .inr (9, [.int 0, .int 0, .int 0]))]) ++ (s_t k a f_t g_t ++ (P)))) H := hP
  have hDf : va_D A (([]) ++ (([(w70, .inr (9, [.int 0, .int 0, .int 0]))]) ++ (s_t k a f_t g_t ++ (P)))) := hD
  have hFc := zfree hDf hS hA
  refine va_callv (va_runI (As := [.int y2, .int y1, .int y0]) (rest := [.ref w70]) ⟨hx, hb, hml, hown, htz⟩ (m_84 H.size) (cwI 3 htz (z_gI (fun _ h => h) m_Te_init) rfl rfl rfl (htz _ ini_Te) (htz _ km_TR_128) (htz _ in_Te_init) rfl (by decide +kernel) ⟨(Nat.le_of_ble_eq_true rfl), (Nat.le_of_ble_eq_true rfl)⟩) ⟨z_blind, fun U hU hW => ⟨rfl, by rw [hU], hE.call hS hFc hU hW, by rw [hU]; exact (zPc hPf), va_K.moved hW.alike hK, (zDc hDf)⟩⟩ rfl rfl hl.1 rfl (lv_room (Nat.le_of_ble_eq_true rfl)) d_TR_readTerm_84 b_84) hS (fun q _ h => hFc q h) hFc (fun u t H1 locs ht hvm hw hB hz1 hk1 hS => ?_)
  obtain ⟨hP1, hK1, hD1⟩ := hB
  rw [ht] at hP1
  obtain ⟨hP, hD⟩ := zf hPf hDf hk1 hFc hP1 hD1
  exact k_84 _ hw H1 locs ls (lv_sub hl [0, 1, 2] rfl) hP hD hS
set_option maxHeartbeats 1000000 in
set_option maxRecDepth 100000 in
theorem k_TR_readTerm_87 {C : CT} (X : cX C "QuestionText$TextReader" b_TR_readTerm 3 (some (.object "QuestionText$Term"))) (Post : Option Nat → va_W → Prop) (PX : String → va_W → Prop) (x1 : Int32) (x2 : Int32) (y0 : Nat) (f_t : FT) (g_t : GT) (P : va_W) (c0 s0 : Nat)
    (b_87 : c0 ≤ 9 ∧ s0 ≤ 51)
    (q_87 : Post (some y0) (s_t C.1.2.2.2.1 C.1.2.2.2.2 f_t g_t ++ (P))) : zc_TR_readTerm C Post PX c0 s0 87 [(0, .ref (ad C.1 20)), (1, .int x1), (2, .int x2)] [.ref y0] (s_t C.1.2.2.2.1 C.1.2.2.2.2 f_t g_t ++ (P)) := by
  obtain ⟨⟨l, dC, dI, k, a⟩, p, e, s, m, args, below, meth, c, A⟩ := C
  obtain ⟨⟨hx, hb, hr, htz, hown, hlocks, hml, hE, hK, hA⟩, hno, hlt⟩ := X
  intro H locs ls hl hP hD hS
  have hl : lv_has ls 3 [(0, .ref (a 20)), (1, .int x1), (2, .int x2)] := hl
  have hP : va_P (dC, dI) classes (s_t k a f_t g_t ++ (P)) H := hP
  have hD : va_D A (s_t k a f_t g_t ++ (P)) := hD
  show W p l e (z_rm 2 9 51) s m args below meth c H locs c0 s0 _ (F0 m 87 ls [.ref y0])
  refine W.widen (k := 9) (n := 51) b_87.1 b_87.2 ?_
  refine vx_ret ?_
  exact W.aret (v := .ref y0) hx hb hr (Or.inl ⟨_, rfl⟩) (Or.inr ⟨_, rfl⟩) (fun t ht hW => ⟨⟨(some y0), (s_t k a f_t g_t ++ (P)), rfl, q_87, by rw [ht]; exact hP, va_K.moved hW.alike hK, hD⟩, hS.F ht⟩) hS.2.2 d_TR_readTerm_87
set_option maxHeartbeats 1000000 in
set_option maxRecDepth 100000 in
theorem e_TR_readTerm (T : ST) (hlt : T.1.stackTraces = false) (Post : Option Nat → va_W → Prop) (PX : String → va_W → Prop) (f_t : FT) (g_t : GT) (P : va_W) (h : ∀ C : CT, C.1 = T → cX C "QuestionText$TextReader" b_TR_readTerm 3 (some (.object "QuestionText$Term")) → zc_TR_readTerm C Post PX 0 0 0 [(0, .ref (ad C.1 20))] [] (s_t C.1.2.2.2.1 C.1.2.2.2.2 f_t g_t ++ (P))) : xR T y_TR_readTerm (Cond.code y_TR_readTerm b_TR_readTerm 3 (some (.object "QuestionText$Term"))) 2 9 51 [.ref (ad T 20)] (s_t T.2.2.2.1 T.2.2.2.2 f_t g_t ++ (P)) Post PX := by
  obtain ⟨l, dC, dI, k, a⟩ := T
  intro sz
  refine vx_ofW (cc := b_TR_readTerm) (maxL := 3) (ret := (some (.object "QuestionText$Term"))) (by decide) rfl ?_
  intro p e s m args below meth c s₁ B hml hno hv
  obtain ⟨rfl, hsz, hE, hP, hK, hD0⟩ := hv
  have hts := atoms_spec (ws := (Cond.code y_TR_readTerm b_TR_readTerm 3 (some (.object "QuestionText$Term"))) :: z_T) B.pre
  have htz : ∀ w ∈ z_T, w.before _ s = true := fun w h => hts w (z_cons w h)
  subst hsz
  have hD := hD0.self (sz := s.heap.size)
  generalize hAe : va_A (s_t k a f_t g_t ++ (P)) s.heap.size = A at hD hE ⊢
  have hA : ∀ q : Nat, s.heap.size ≤ q → A q := fun q h => by rw [← hAe]; exact Or.inr h
  have hl := lv_entry ([.ref (a 20)]) (n := 3) (Nat.le_of_ble_eq_true rfl)
  rw [lg_entry_eq]
  generalize (lg_sl ([.ref (a 20)]) ++ List.replicate (3 - (lg_sl ([.ref (a 20)])).length) Slot.unset).toArray = ls at hl ⊢
  exact h ((l, dC, dI, k, a), p, e, s, m, ([.ref (a 20)] : List Value).toArray, below, meth, c, A) rfl ⟨⟨B.exec, B.bytes, B.returns, htz, findClass_of_methodNamed B.named, B.notSynchronized, hml, hE, hK, hA⟩, hno, hlt⟩ s.heap [] ls hl hP hD va_S.rf
