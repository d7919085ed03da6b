def zc_TR_forgetRows (C : CT) (Post : va_W → Prop) (c0 s0 pc : Nat) (loc : List (Nat × Value)) (st : List Value) (ws : va_W) : Prop := zW C (z_rm 0 0 0) 2 (oV C 0 0 Post) c0 s0 pc loc st ws
set_option maxHeartbeats 1000000 in
set_option maxRecDepth 100000 in
theorem k_TR_forgetRows_0 {C : CT} (X : cM C "QuestionText$TextReader" b_TR_forgetRows 2 none) (Post : va_W → Prop) (f_t : FT) (g_t : GT) (r_r : Nat → Nat → Option Nat) (c0 s0 : Nat)
    (k_2 : zc_TR_forgetRows C Post c0 s0 2 [(0, .ref (ad C.1 20)), (1, .int 0)] [] (s_t C.1.2.2.2.1 C.1.2.2.2.2 f_t g_t ++ (s_r C.1.2.2.2.1 C.1.2.2.2.2 r_r))) : zc_TR_forgetRows C Post c0 s0 0 [(0, .ref (ad C.1 20))] [] (s_t C.1.2.2.2.1 C.1.2.2.2.2 f_t g_t ++ (s_r C.1.2.2.2.1 C.1.2.2.2.2 r_r)) := by
  obtain ⟨⟨l, dC, dI, k, a⟩, p, e, s, m, args, below, meth, c, A⟩ := C
  obtain ⟨hx, hb, hr, htz, hown, hlocks, hml, hE, hK, hA⟩ := X
  intro H locs ls hl hP hD hS
  have hl : lv_has ls 2 [(0, .ref (a 20))] := hl
  have hP : va_P (dC, dI) classes (s_t k a f_t g_t ++ (s_r k a r_r)) H := hP
  have hD : va_D A (s_t k a f_t g_t ++ (s_r k a r_r)) := hD
  show W p l e (z_rm 0 0 0) s m args below meth c H locs c0 s0 _ (F0 m 0 ls [])
  refine lv_iconst (v := 0) hx hb d_TR_forgetRows_0 (by decide) ?_
  refine lv_istore_n (lv' := [(1, .int 0), (0, .ref (a 20))]) hx hb d_TR_forgetRows_1 rfl hl (by decide) rfl (fun ls hl => ?_)
  exact k_2 H locs ls (lv_sub hl [1, 0] rfl) hP hD hS
set_option maxHeartbeats 1000000 in
set_option maxRecDepth 100000 in
theorem k_TR_forgetRows_2 {C : CT} (X : cM C "QuestionText$TextReader" b_TR_forgetRows 2 none) (Post : va_W → Prop) (x1 : Int32) (f_t : FT) (g_t : GT) (r_r : Nat → Nat → Option Nat) (c0 s0 : Nat)
    (k_23 : (60 < x1) → zc_TR_forgetRows C Post c0 s0 23 [(0, .ref (ad C.1 20)), (1, .int 0)] [] (s_t C.1.2.2.2.1 C.1.2.2.2.2 f_t g_t ++ (s_r C.1.2.2.2.1 C.1.2.2.2.2 r_r)))
    (h_14 : (¬ 60 < x1) → vp_in (x1) 61)
    (k_2 : (¬ 60 < x1) → zc_TR_forgetRows C Post c0 s0 2 [(0, .ref (ad C.1 20)), (1, .int (x1 + 1))] [] (s_t C.1.2.2.2.1 C.1.2.2.2.2 f_t g_t ++ (s_r C.1.2.2.2.1 C.1.2.2.2.2 (va_up r_r 0 (va_up (r_r 0) (x1 : Int32).toNatClampNeg none))))) : zc_TR_forgetRows C Post c0 s0 2 [(0, .ref (ad C.1 20)), (1, .int x1)] [] (s_t C.1.2.2.2.1 C.1.2.2.2.2 f_t g_t ++ (s_r C.1.2.2.2.1 C.1.2.2.2.2 r_r)) := by
  obtain ⟨⟨l, dC, dI, k, a⟩, p, e, s, m, args, below, meth, c, A⟩ := C
  obtain ⟨hx, hb, hr, htz, hown, hlocks, hml, hE, hK, hA⟩ := X
  intro H locs ls hl hP hD hS
  have hl : lv_has ls 2 [(0, .ref (a 20)), (1, .int x1)] := hl
  have hP : va_P (dC, dI) classes (s_t k a f_t g_t ++ (s_r k a r_r)) H := hP
  have hD : va_D A (s_t k a f_t g_t ++ (s_r k a r_r)) := hD
  show W p l e (z_rm 0 0 0) s m args below meth c H locs c0 s0 _ (F0 m 2 ls [])
  refine lv_iload_n hx hb d_TR_forgetRows_2 rfl (lv_at hl 1 rfl) ?_
  refine lv_bipush (v := 60) hx hb d_TR_forgetRows_3 (by decide) ?_
  refine lv_icmp_gt (tgt := 21) hx hb d_TR_forgetRows_5 (by decide) (fun c_5 => ?_) (fun c_5 => ?_)
  · refine lv_iconst (v := 0) hx hb d_TR_forgetRows_21 (by decide) ?_
    refine lv_istore_n (lv' := [(1, .int 0), (0, .ref (a 20))]) hx hb d_TR_forgetRows_22 rfl hl (by decide) rfl (fun ls hl => ?_)
    exact (k_23 c_5) H locs ls (lv_sub hl [1, 0] rfl) hP hD hS
  · refine lv_aload_n hx hb d_TR_forgetRows_8 rfl (lv_at hl 0 rfl) ?_
    refine va_get (D := (dC, dI)) (ci := 1) (v := .ref (a 22)) (C := R_TR) (T := F_TR) (N := 5) hx hb htz i_TR hown hK hP 0 rfl rfl 1 (by decide) (htz _ kf_TR_17) (fun _ h9 => h9) rfl d_TR_forgetRows_9 ?_
    refine lv_iload_n hx hb d_TR_forgetRows_12 rfl (lv_at hl 1 rfl) ?_
    refine lv_null hx hb d_TR_forgetRows_13 ?_
    refine va_astqN hx hb hK hP hD hS 2 3 rfl rfl (h_14 c_5) d_TR_forgetRows_14 (fun H locs hP hD hS => ?_)
    have hP : va_P (dC, dI) classes (s_t k a f_t g_t ++ (s_r k a (va_up r_r 0 (va_up (r_r 0) (x1 : Int32).toNatClampNeg none)))) H := hP
    have hD : va_D A (s_t k a f_t g_t ++ (s_r k a (va_up r_r 0 (va_up (r_r 0) (x1 : Int32).toNatClampNeg none)))) := hD
    refine lv_iinc (v := x1 + 1) (lv' := [(1, .int (x1 + 1)), (0, .ref (a 20))]) hx hb d_TR_forgetRows_15 hl (k := 1) rfl (rfl) (by decide) rfl (fun ls hl => ?_)
    refine lv_goto (tgt := 2) hx hb d_TR_forgetRows_18 (by decide) ?_
    exact (k_2 c_5) H locs ls (lv_sub hl [1, 0] rfl) hP hD hS
set_option maxHeartbeats 1000000 in
set_option maxRecDepth 100000 in
theorem k_TR_forgetRows_23 {C : CT} (X : cM C "QuestionText$TextReader" b_TR_forgetRows 2 none) (Post : va_W → Prop) (x1 : Int32) (f_t : FT) (g_t : GT) (r_r : Nat → Nat → Option Nat) (c0 s0 : Nat)
    (b_42 : (9 < x1) → c0 ≤ 0 ∧ s0 ≤ 0)
    (q_42 : (9 < x1) → Post (s_t C.1.2.2.2.1 C.1.2.2.2.2 f_t g_t ++ (s_r C.1.2.2.2.1 C.1.2.2.2.2 r_r)))
    (h_35 : (¬ 9 < x1) → vp_in (x1) 10)
    (k_23 : (¬ 9 < x1) → zc_TR_forgetRows C Post c0 s0 23 [(0, .ref (ad C.1 20)), (1, .int (x1 + 1))] [] (s_t C.1.2.2.2.1 C.1.2.2.2.2 f_t g_t ++ (s_r C.1.2.2.2.1 C.1.2.2.2.2 (va_up r_r 1 (va_up (r_r 1) (x1 : Int32).toNatClampNeg none))))) : zc_TR_forgetRows C Post c0 s0 23 [(0, .ref (ad C.1 20)), (1, .int x1)] [] (s_t C.1.2.2.2.1 C.1.2.2.2.2 f_t g_t ++ (s_r C.1.2.2.2.1 C.1.2.2.2.2 r_r)) := by
  obtain ⟨⟨l, dC, dI, k, a⟩, p, e, s, m, args, below, meth, c, A⟩ := C
  obtain ⟨hx, hb, hr, htz, hown, hlocks, hml, hE, hK, hA⟩ := X
  intro H locs ls hl hP hD hS
  have hl : lv_has ls 2 [(0, .ref (a 20)), (1, .int x1)] := hl
  have hP : va_P (dC, dI) classes (s_t k a f_t g_t ++ (s_r k a r_r)) H := hP
  have hD : va_D A (s_t k a f_t g_t ++ (s_r k a r_r)) := hD
  show W p l e (z_rm 0 0 0) s m args below meth c H locs c0 s0 _ (F0 m 23 ls [])
  refine lv_iload_n hx hb d_TR_forgetRows_23 rfl (lv_at hl 1 rfl) ?_
  refine lv_bipush (v := 9) hx hb d_TR_forgetRows_24 (by decide) ?_
  refine lv_icmp_gt (tgt := 42) hx hb d_TR_forgetRows_26 (by decide) (fun c_26 => ?_) (fun c_26 => ?_)
  · refine W.widen (k := 0) (n := 0) (b_42 c_26).1 (b_42 c_26).2 ?_
    exact W.vret hx hb hr (fun t ht hW => ⟨⟨(s_t k a f_t g_t ++ (s_r k a r_r)), rfl, (q_42 c_26), by rw [ht]; exact hP, va_K.moved hW.alike hK, hD⟩, hS.F ht⟩) hS.2.2 d_TR_forgetRows_42
  · refine lv_aload_n hx hb d_TR_forgetRows_29 rfl (lv_at hl 0 rfl) ?_
    refine va_get (D := (dC, dI)) (ci := 1) (v := .ref (a 23)) (C := R_TR) (T := F_TR) (N := 5) hx hb htz i_TR hown hK hP 0 rfl rfl 2 (by decide) (htz _ kf_TR_23) (fun _ h9 => h9) rfl d_TR_forgetRows_30 ?_
    refine lv_iload_n hx hb d_TR_forgetRows_33 rfl (lv_at hl 1 rfl) ?_
    refine lv_null hx hb d_TR_forgetRows_34 ?_
    refine va_astqN hx hb hK hP hD hS 3 4 rfl rfl (h_35 c_26) d_TR_forgetRows_35 (fun H locs hP hD hS => ?_)
    have hP : va_P (dC, dI) classes (s_t k a f_t g_t ++ (s_r k a (va_up r_r 1 (va_up (r_r 1) (x1 : Int32).toNatClampNeg none)))) H := hP
    have hD : va_D A (s_t k a f_t g_t ++ (s_r k a (va_up r_r 1 (va_up (r_r 1) (x1 : Int32).toNatClampNeg none)))) := hD
    refine lv_iinc (v := x1 + 1) (lv' := [(1, .int (x1 + 1)), (0, .ref (a 20))]) hx hb d_TR_forgetRows_36 hl (k := 1) rfl (rfl) (by decide) rfl (fun ls hl => ?_)
    refine lv_goto (tgt := 23) hx hb d_TR_forgetRows_39 (by decide) ?_
    exact (k_23 c_26) H locs ls (lv_sub hl [1, 0] rfl) hP hD hS
set_option maxHeartbeats 1000000 in
set_option maxRecDepth 100000 in
theorem e_TR_forgetRows (T : ST) (Post : va_W → Prop) (f_t : FT) (g_t : GT) (r_r : Nat → Nat → Option Nat) (h : ∀ C : CT, C.1 = T → cM C "QuestionText$TextReader" b_TR_forgetRows 2 none → zc_TR_forgetRows C Post 0 0 0 [(0, .ref (ad C.1 20))] [] (s_t C.1.2.2.2.1 C.1.2.2.2.2 f_t g_t ++ (s_r C.1.2.2.2.1 C.1.2.2.2.2 r_r))) : uV T y_TR_forgetRows (Cond.code y_TR_forgetRows b_TR_forgetRows 2 none) 0 0 0 [.ref (ad T 20)] (s_t T.2.2.2.1 T.2.2.2.2 f_t g_t ++ (s_r T.2.2.2.1 T.2.2.2.2 r_r)) Post := by
  obtain ⟨l, dC, dI, k, a⟩ := T
  intro sz
  refine Met.ofW (cc := b_TR_forgetRows) (maxL := 2) (ret := none) (by decide) rfl ?_
  intro p e s m args below meth c s₁ B hml hv
  obtain ⟨rfl, hsz, hE, hP, hK, hD0⟩ := hv
  have hts := atoms_spec (ws := (Cond.code y_TR_forgetRows b_TR_forgetRows 2 none) :: z_T) B.pre
  have htz : ∀ w ∈ z_T, w.before _ s = true := fun w h => hts w (z_cons w h)
  subst hsz
  have hD := hD0.self (sz := s.heap.size)
  generalize hAe : va_A (s_t k a f_t g_t ++ (s_r k a r_r)) s.heap.size = A at hD hE ⊢
  have hA : ∀ q : Nat, s.heap.size ≤ q → A q := fun q h => by rw [← hAe]; exact Or.inr h
  have hl := lv_entry ([.ref (a 20)]) (n := 2) (Nat.le_of_ble_eq_true rfl)
  rw [lg_entry_eq]
  generalize (lg_sl ([.ref (a 20)]) ++ List.replicate (2 - (lg_sl ([.ref (a 20)])).length) Slot.unset).toArray = ls at hl ⊢
  exact h ((l, dC, dI, k, a), p, e, s, m, ([.ref (a 20)] : List Value).toArray, below, meth, c, A) rfl ⟨B.exec, B.bytes, B.returns, htz, findClass_of_methodNamed B.named, B.notSynchronized, hml, hE, hK, hA⟩ s.heap [] ls hl hP hD va_S.rf
