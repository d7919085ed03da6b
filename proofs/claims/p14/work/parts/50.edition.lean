def zc_Ar_fill (C : CT) (Post : va_W → Prop) (c0 s0 pc : Nat) (loc : List (Nat × Value)) (st : List Value) (ws : va_W) : Prop := zW C (z_rm 0 0 0) 4 (oV C 0 0 Post) c0 s0 pc loc st ws
set_option maxHeartbeats 1000000 in
set_option maxRecDepth 100000 in
theorem k_Ar_fill_0 {C : CT} (X : cM C "java/util/Arrays" b_Ar_fill 4 none) (Post : va_W → Prop) (x1 : Int32) (f_c : FT) (g_c : GT) (c0 s0 : Nat)
    (k_5 : zc_Ar_fill C Post c0 s0 5 [(0, .ref (ad C.1 28)), (1, .int x1), (2, .int 0), (3, .int (nI 61))] [] (s_c C.1.2.2.2.1 C.1.2.2.2.2 f_c g_c)) : zc_Ar_fill C Post c0 s0 0 [(0, .ref (ad C.1 28)), (1, .int x1)] [] (s_c C.1.2.2.2.1 C.1.2.2.2.2 f_c g_c) := by
  obtain ⟨⟨l, dC, dI, k, a⟩, p, e, s, m, args, below, meth, c, A⟩ := C
  obtain ⟨hx, hb, hr, htz, hown, hlocks, hml, hE, hK, hA⟩ := X
  intro H locs ls hl hP hD hS
  have hl : lv_has ls 4 [(0, .ref (a 28)), (1, .int x1)] := hl
  have hP : va_P (dC, dI) classes (s_c k a f_c g_c) H := hP
  have hD : va_D A (s_c k a f_c g_c) := hD
  show W p l e (z_rm 0 0 0) s m args below meth c H locs c0 s0 _ (F0 m 0 ls [])
  refine lv_iconst (v := 0) hx hb d_Ar_fill_0 (by decide) ?_
  refine lv_istore_n (lv' := [(2, .int 0), (0, .ref (a 28)), (1, .int x1)]) hx hb d_Ar_fill_1 rfl hl (by decide) rfl (fun ls hl => ?_)
  refine lv_aload_n hx hb d_Ar_fill_2 rfl (lv_at hl 1 rfl) ?_
  refine va_alen hx hb hK hP 2 0 rfl rfl (v := nI 61) rfl d_Ar_fill_3 ?_
  refine lv_istore_n (lv' := [(3, .int (nI 61)), (2, .int 0), (0, .ref (a 28)), (1, .int x1)]) hx hb d_Ar_fill_4 rfl hl (by decide) rfl (fun ls hl => ?_)
  exact k_5 H locs ls (lv_sub hl [2, 3, 1, 0] rfl) hP hD hS
set_option maxHeartbeats 1000000 in
set_option maxRecDepth 100000 in
theorem k_Ar_fill_5 {C : CT} (X : cM C "java/util/Arrays" b_Ar_fill 4 none) (Post : va_W → Prop) (x1 : Int32) (x2 : Int32) (x3 : Int32) (f_c : FT) (g_c : GT) (c0 s0 : Nat)
    (b_20 : (x3 ≤ x2) → c0 ≤ 0 ∧ s0 ≤ 0)
    (q_20 : (x3 ≤ x2) → Post (s_c C.1.2.2.2.1 C.1.2.2.2.2 f_c g_c))
    (h_13 : (¬ x3 ≤ x2) → vp_in (x2) 61)
    (k_5 : (¬ x3 ≤ x2) → zc_Ar_fill C Post c0 s0 5 [(0, .ref (ad C.1 28)), (1, .int x1), (2, .int (x2 + 1)), (3, .int x3)] [] (s_c C.1.2.2.2.1 C.1.2.2.2.2 f_c (va_up g_c 1 (upd (g_c 1) (x2 : Int32).toNatClampNeg x1)))) : zc_Ar_fill C Post c0 s0 5 [(0, .ref (ad C.1 28)), (1, .int x1), (2, .int x2), (3, .int x3)] [] (s_c C.1.2.2.2.1 C.1.2.2.2.2 f_c g_c) := by
  obtain ⟨⟨l, dC, dI, k, a⟩, p, e, s, m, args, below, meth, c, A⟩ := C
  obtain ⟨hx, hb, hr, htz, hown, hlocks, hml, hE, hK, hA⟩ := X
  intro H locs ls hl hP hD hS
  have hl : lv_has ls 4 [(0, .ref (a 28)), (1, .int x1), (2, .int x2), (3, .int x3)] := hl
  have hP : va_P (dC, dI) classes (s_c k a f_c g_c) H := hP
  have hD : va_D A (s_c k a f_c g_c) := hD
  show W p l e (z_rm 0 0 0) s m args below meth c H locs c0 s0 _ (F0 m 5 ls [])
  refine lv_iload_n hx hb d_Ar_fill_5 rfl (lv_at hl 2 rfl) ?_
  refine lv_iload_n hx hb d_Ar_fill_6 rfl (lv_at hl 3 rfl) ?_
  refine lv_icmp_ge (tgt := 20) hx hb d_Ar_fill_7 (by decide) (fun c_7 => ?_) (fun c_7 => ?_)
  · refine W.widen (k := 0) (n := 0) (b_20 c_7).1 (b_20 c_7).2 ?_
    exact W.vret hx hb hr (fun t ht hW => ⟨⟨(s_c k a f_c g_c), rfl, (q_20 c_7), by rw [ht]; exact hP, va_K.moved hW.alike hK, hD⟩, hS.F ht⟩) hS.2.2 d_Ar_fill_20
  · refine lv_aload_n hx hb d_Ar_fill_10 rfl (lv_at hl 0 rfl) ?_
    refine lv_iload_n hx hb d_Ar_fill_11 rfl (lv_at hl 2 rfl) ?_
    refine lv_iload_n hx hb d_Ar_fill_12 rfl (lv_at hl 1 rfl) ?_
    refine va_iast hx hb hK hP hD hS 2 0 rfl rfl (h_13 c_7) d_Ar_fill_13 (fun H locs hP hD hS => ?_)
    have hP : va_P (dC, dI) classes (s_c k a f_c (va_up g_c 1 (upd (g_c 1) (x2 : Int32).toNatClampNeg x1))) H := hP
    have hD : va_D A (s_c k a f_c (va_up g_c 1 (upd (g_c 1) (x2 : Int32).toNatClampNeg x1))) := hD
    refine lv_iinc (v := x2 + 1) (lv' := [(2, .int (x2 + 1)), (0, .ref (a 28)), (1, .int x1), (3, .int x3)]) hx hb d_Ar_fill_14 hl (k := 2) rfl (rfl) (by decide) rfl (fun ls hl => ?_)
    refine lv_goto (tgt := 5) hx hb d_Ar_fill_17 (by decide) ?_
    exact (k_5 c_7) H locs ls (lv_sub hl [1, 2, 0, 3] rfl) hP hD hS
set_option maxHeartbeats 1000000 in
set_option maxRecDepth 100000 in
theorem e_Ar_fill (T : ST) (Post : va_W → Prop) (x1 : Int32) (f_c : FT) (g_c : GT) (h : ∀ C : CT, C.1 = T → cM C "java/util/Arrays" b_Ar_fill 4 none → zc_Ar_fill C Post 0 0 0 [(0, .ref (ad C.1 28)), (1, .int x1)] [] (s_c C.1.2.2.2.1 C.1.2.2.2.2 f_c g_c)) : uV T y_Ar_fill (Cond.code y_Ar_fill b_Ar_fill 4 none) 0 0 0 [.ref (ad T 28), .int x1] (s_c T.2.2.2.1 T.2.2.2.2 f_c g_c) Post := by
  obtain ⟨l, dC, dI, k, a⟩ := T
  intro sz
  refine Met.ofW (cc := b_Ar_fill) (maxL := 4) (ret := none) (by decide) rfl ?_
  intro p e s m args below meth c s₁ B hml hv
  obtain ⟨rfl, hsz, hE, hP, hK, hD0⟩ := hv
  have hts := atoms_spec (ws := (Cond.code y_Ar_fill b_Ar_fill 4 none) :: z_T) B.pre
  have htz : ∀ w ∈ z_T, w.before _ s = true := fun w h => hts w (z_cons w h)
  subst hsz
  have hD := hD0.self (sz := s.heap.size)
  generalize hAe : va_A (s_c k a f_c g_c) s.heap.size = A at hD hE ⊢
  have hA : ∀ q : Nat, s.heap.size ≤ q → A q := fun q h => by rw [← hAe]; exact Or.inr h
  have hl := lv_entry ([.ref (a 28), .int x1]) (n := 4) (Nat.le_of_ble_eq_true rfl)
  rw [lg_entry_eq]
  generalize (lg_sl ([.ref (a 28), .int x1]) ++ List.replicate (4 - (lg_sl ([.ref (a 28), .int x1])).length) Slot.unset).toArray = ls at hl ⊢
  exact h ((l, dC, dI, k, a), p, e, s, m, ([.ref (a 28), .int x1] : List Value).toArray, below, meth, c, A) rfl ⟨B.exec, B.bytes, B.returns, htz, findClass_of_methodNamed B.named, B.notSynchronized, hml, hE, hK, hA⟩ s.heap [] ls hl hP hD va_S.rf
def zc_Ca_clear (C : CT) (Post : va_W → Prop) (c0 s0 pc : Nat) (loc : List (Nat × Value)) (st : List Value) (ws : va_W) : Prop := zW C (z_rm 1 0 0) 1 (oV C 0 0 Post) c0 s0 pc loc st ws
set_option maxHeartbeats 1000000 in
set_option maxRecDepth 100000 in
theorem k_Ca_clear_0 {C : CT} (X : cM C "QuestionText$Call" b_Ca_clear 1 none) (Post : va_W → Prop) {P_5 : va_W → Prop} (f_c : FT) (g_c : GT) (c0 s0 : Nat)
    (b_5 : c0 ≤ 0 ∧ s0 ≤ 0)
    (m_5 : uV C.1 y_Ar_fill (Cond.code y_Ar_fill b_Ar_fill 4 none) 0 0 0 [.ref (ad C.1 28), .int (-1)] (s_c C.1.2.2.2.1 C.1.2.2.2.2 f_c g_c) P_5)
    (k_5 : ∀ (u : va_W), P_5 u → zc_Ca_clear C Post c0 s0 8 [(0, .ref (ad C.1 26))] [] (u)) : zc_Ca_clear C Post c0 s0 0 [(0, .ref (ad C.1 26))] [] (s_c C.1.2.2.2.1 C.1.2.2.2.2 f_c g_c) := by
  obtain ⟨⟨l, dC, dI, k, a⟩, p, e, s, m, args, below, meth, c, A⟩ := C
  obtain ⟨hx, hb, hr, htz, hown, hlocks, hml, hE, hK, hA⟩ := X
  intro H locs ls hl hP hD hS
  have hl : lv_has ls 1 [(0, .ref (a 26))] := hl
  have hP : va_P (dC, dI) classes (s_c k a f_c g_c) H := hP
  have hD : va_D A (s_c k a f_c g_c) := hD
  show W p l e (z_rm 1 0 0) s m args below meth c H locs c0 s0 _ (F0 m 0 ls [])
  refine lv_aload_n hx hb d_Ca_clear_0 rfl (lv_at hl 0 rfl) ?_
  refine va_get (D := (dC, dI)) (ci := 2) (v := .ref (a 28)) (C := R_Ca) (T := F_Ca) (N := 6) hx hb htz i_Ca hown hK hP 0 rfl rfl 1 (by decide) (htz _ kf_Ca_15) (fun _ h9 => h9) rfl d_Ca_clear_1 ?_
  refine lv_iconst (v := -1) hx hb d_Ca_clear_4 (by decide) ?_
  have hFc : ∀ q, va_A (s_c k a f_c g_c) H.size q → A q := fun q h => h.elim (fun z => by obtain ⟨i9, e9, h9⟩ := z; exact hD.2 i9 _ h9) (fun z => hA q (Nat.le_trans hS.1 z))
  refine va_callv (va_runS (As := [.ref (a 28), .int (-1)]) (rest := []) ⟨hx, hb, hml, hown, htz⟩ (m_5 H.size) (va_cwS 2 htz (z_gS (fun _ h => h) km_Ca_31 st_Ar_fill ini_Ar m_Ar_fill) rfl rfl rfl (by decide +kernel) ⟨(Nat.le_of_ble_eq_true rfl), (Nat.le_of_ble_eq_true rfl)⟩) ⟨z_blind, fun U hU hW => ⟨rfl, by rw [hU], hE.call hS hFc hU hW, by rw [hU]; exact hP, va_K.moved hW.alike hK, (hD.weaken (fun _ _ _ _ => trivial))⟩⟩ rfl rfl hl.1 rfl (lv_room (Nat.le_of_ble_eq_true rfl)) d_Ca_clear_5 b_5) hS (fun q _ h => hFc q h) hFc (fun u t H1 locs ht hvm hw hB hz1 hk1 hS => ?_)
  obtain ⟨hP1, hK1, hD1⟩ := hB
  rw [ht] at hP1
  have hP := hP1
  have hD := hD1.weaken (fun _ q _ h => hFc _ h)
  exact k_5 _ hw H1 locs ls (lv_sub hl [0] rfl) hP hD hS
set_option maxHeartbeats 1000000 in
set_option maxRecDepth 100000 in
theorem k_Ca_clear_8 {C : CT} (X : cM C "QuestionText$Call" b_Ca_clear 1 none) (Post : va_W → Prop) (f_c : FT) (g_c : GT) (c0 s0 : Nat)
    (b_28 : c0 ≤ 0 ∧ s0 ≤ 0)
    (q_28 : Post (s_c C.1.2.2.2.1 C.1.2.2.2.2 (va_up (va_up (va_up (va_up f_c 0 0) 1 0) 2 0) 3 0) g_c)) : zc_Ca_clear C Post c0 s0 8 [(0, .ref (ad C.1 26))] [] (s_c C.1.2.2.2.1 C.1.2.2.2.2 f_c g_c) := by
  obtain ⟨⟨l, dC, dI, k, a⟩, p, e, s, m, args, below, meth, c, A⟩ := C
  obtain ⟨hx, hb, hr, htz, hown, hlocks, hml, hE, hK, hA⟩ := X
  intro H locs ls hl hP hD hS
  have hl : lv_has ls 1 [(0, .ref (a 26))] := hl
  have hP : va_P (dC, dI) classes (s_c k a f_c g_c) H := hP
  have hD : va_D A (s_c k a f_c g_c) := hD
  show W p l e (z_rm 1 0 0) s m args below meth c H locs c0 s0 _ (F0 m 8 ls [])
  refine lv_aload_n hx hb d_Ca_clear_8 rfl (lv_at hl 0 rfl) ?_
  refine lv_iconst (v := 0) hx hb d_Ca_clear_9 (by decide) ?_
  refine va_put (D := (dC, dI)) (ci := 2) (v := .int 0) (ty := .int) (C := R_Ca) (T := F_Ca) (N := 6) hx hb htz i_Ca t_Ca o_Ca n_Ca hown hK hP hD hS 0 rfl rfl 2 (by decide) (htz _ kf_Ca_18) (fun _ h9 => h9) rfl (by decide +kernel) rfl rfl (Nat.le_of_ble_eq_true rfl) d_Ca_clear_10 (fun H locs hP hD hS => ?_)
  have hP : va_P (dC, dI) classes (s_c k a (va_up f_c 0 0) g_c) H := hP
  have hD : va_D A (s_c k a (va_up f_c 0 0) g_c) := hD
  refine lv_aload_n hx hb d_Ca_clear_13 rfl (lv_at hl 0 rfl) ?_
  refine lv_iconst (v := 0) hx hb d_Ca_clear_14 (by decide) ?_
  refine va_put (D := (dC, dI)) (ci := 2) (v := .int 0) (ty := .int) (C := R_Ca) (T := F_Ca) (N := 6) hx hb htz i_Ca t_Ca o_Ca n_Ca hown hK hP hD hS 0 rfl rfl 3 (by decide) (htz _ kf_Ca_22) (fun _ h9 => h9) rfl (by decide +kernel) rfl rfl (Nat.le_of_ble_eq_true rfl) d_Ca_clear_15 (fun H locs hP hD hS => ?_)
  have hP : va_P (dC, dI) classes (s_c k a (va_up (va_up f_c 0 0) 1 0) g_c) H := hP
  have hD : va_D A (s_c k a (va_up (va_up f_c 0 0) 1 0) g_c) := hD
  refine lv_aload_n hx hb d_Ca_clear_18 rfl (lv_at hl 0 rfl) ?_
  refine lv_iconst (v := 0) hx hb d_Ca_clear_19 (by decide) ?_
  refine va_put (D := (dC, dI)) (ci := 2) (v := .int 0) (ty := .int) (C := R_Ca) (T := F_Ca) (N := 6) hx hb htz i_Ca t_Ca o_Ca n_Ca hown hK hP hD hS 0 rfl rfl 4 (by decide) (htz _ kf_Ca_25) (fun _ h9 => h9) rfl (by decide +kernel) rfl rfl (Nat.le_of_ble_eq_true rfl) d_Ca_clear_20 (fun H locs hP hD hS => ?_)
  have hP : va_P (dC, dI) classes (s_c k a (va_up (va_up (va_up f_c 0 0) 1 0) 2 0) g_c) H := hP
  have hD : va_D A (s_c k a (va_up (va_up (va_up f_c 0 0) 1 0) 2 0) g_c) := hD
  refine lv_aload_n hx hb d_Ca_clear_23 rfl (lv_at hl 0 rfl) ?_
  refine lv_iconst (v := 0) hx hb d_Ca_clear_24 (by decide) ?_
  refine va_put (D := (dC, dI)) (ci := 2) (v := .int 0) (ty := .int) (C := R_Ca) (T := F_Ca) (N := 6) hx hb htz i_Ca t_Ca o_Ca n_Ca hown hK hP hD hS 0 rfl rfl 5 (by decide) (htz _ kf_Ca_28) (fun _ h9 => h9) rfl (by decide +kernel) rfl rfl (Nat.le_of_ble_eq_true rfl) d_Ca_clear_25 (fun H locs hP hD hS => ?_)
  have hP : va_P (dC, dI) classes (s_c k a (va_up (va_up (va_up (va_up f_c 0 0) 1 0) 2 0) 3 0) g_c) H := hP
  have hD : va_D A (s_c k a (va_up (va_up (va_up (va_up f_c 0 0) 1 0) 2 0) 3 0) g_c) := hD
  refine W.widen (k := 0) (n := 0) b_28.1 b_28.2 ?_
  exact W.vret hx hb hr (fun t ht hW => ⟨⟨(s_c k a (va_up (va_up (va_up (va_up f_c 0 0) 1 0) 2 0) 3 0) g_c), rfl, q_28, by rw [ht]; exact hP, va_K.moved hW.alike hK, hD⟩, hS.F ht⟩) hS.2.2 d_Ca_clear_28
set_option maxHeartbeats 1000000 in
set_option maxRecDepth 100000 in
theorem e_Ca_clear (T : ST) (Post : va_W → Prop) (f_c : FT) (g_c : GT) (h : ∀ C : CT, C.1 = T → cM C "QuestionText$Call" b_Ca_clear 1 none → zc_Ca_clear C Post 0 0 0 [(0, .ref (ad C.1 26))] [] (s_c C.1.2.2.2.1 C.1.2.2.2.2 f_c g_c)) : uV T y_Ca_clear (Cond.code y_Ca_clear b_Ca_clear 1 none) 1 0 0 [.ref (ad T 26)] (s_c T.2.2.2.1 T.2.2.2.2 f_c g_c) Post := by
  obtain ⟨l, dC, dI, k, a⟩ := T
  intro sz
  refine Met.ofW (cc := b_Ca_clear) (maxL := 1) (ret := none) (by decide) rfl ?_
  intro p e s m args below meth c s₁ B hml hv
  obtain ⟨rfl, hsz, hE, hP, hK, hD0⟩ := hv
  have hts := atoms_spec (ws := (Cond.code y_Ca_clear b_Ca_clear 1 none) :: z_T) B.pre
  have htz : ∀ w ∈ z_T, w.before _ s = true := fun w h => hts w (z_cons w h)
  subst hsz
  have hD := hD0.self (sz := s.heap.size)
  generalize hAe : va_A (s_c k a f_c g_c) s.heap.size = A at hD hE ⊢
  have hA : ∀ q : Nat, s.heap.size ≤ q → A q := fun q h => by rw [← hAe]; exact Or.inr h
  have hl := lv_entry ([.ref (a 26)]) (n := 1) (Nat.le_of_ble_eq_true rfl)
  rw [lg_entry_eq]
  generalize (lg_sl ([.ref (a 26)]) ++ List.replicate (1 - (lg_sl ([.ref (a 26)])).length) Slot.unset).toArray = ls at hl ⊢
  exact h ((l, dC, dI, k, a), p, e, s, m, ([.ref (a 26)] : List Value).toArray, below, meth, c, A) rfl ⟨B.exec, B.bytes, B.returns, htz, findClass_of_methodNamed B.named, B.notSynchronized, hml, hE, hK, hA⟩ s.heap [] ls hl hP hD va_S.rf
def zc_Ca_ask (C : CT) (Post : va_W → Prop) (c0 s0 pc : Nat) (loc : List (Nat × Value)) (st : List Value) (ws : va_W) : Prop := zW C (z_rm 0 0 0) 2 (oV C 0 0 Post) c0 s0 pc loc st ws
set_option maxHeartbeats 1000000 in
set_option maxRecDepth 100000 in
theorem k_Ca_ask_0 {C : CT} (X : cM C "QuestionText$Call" b_Ca_ask 2 none) (Post : va_W → Prop) (x1 : Int32) (f_c : FT) (g_c : GT) (c0 s0 : Nat)
    (k_38 : (x1 = 0) → zc_Ca_ask C Post c0 s0 38 [(0, .ref (ad C.1 26)), (1, .int x1)] [] (s_c C.1.2.2.2.1 C.1.2.2.2.2 (va_up f_c 1 x1) g_c))
    (k_38_1 : (¬ x1 = 0) → (40 ≤ f_c 0) → zc_Ca_ask C Post c0 s0 38 [(0, .ref (ad C.1 26)), (1, .int x1)] [] (s_c C.1.2.2.2.1 C.1.2.2.2.2 (va_up f_c 1 x1) g_c))
    (h_27 : (¬ x1 = 0) → (¬ 40 ≤ f_c 0) → vp_in (f_c 0) 40)
    (k_38_2 : (¬ x1 = 0) → (¬ 40 ≤ f_c 0) → zc_Ca_ask C Post c0 s0 38 [(0, .ref (ad C.1 26)), (1, .int x1)] [] (s_c C.1.2.2.2.1 C.1.2.2.2.2 (va_up (va_up f_c 1 x1) 0 ((f_c 0) + 1)) (va_up g_c 0 (upd (g_c 0) (f_c 0 : Int32).toNatClampNeg x1)))) : zc_Ca_ask C Post c0 s0 0 [(0, .ref (ad C.1 26)), (1, .int x1)] [] (s_c C.1.2.2.2.1 C.1.2.2.2.2 f_c g_c) := by
  obtain ⟨⟨l, dC, dI, k, a⟩, p, e, s, m, args, below, meth, c, A⟩ := C
  obtain ⟨hx, hb, hr, htz, hown, hlocks, hml, hE, hK, hA⟩ := X
  intro H locs ls hl hP hD hS
  have hl : lv_has ls 2 [(0, .ref (a 26)), (1, .int x1)] := hl
  have hP : va_P (dC, dI) classes (s_c k a f_c g_c) H := hP
  have hD : va_D A (s_c k a f_c g_c) := hD
  show W p l e (z_rm 0 0 0) s m args below meth c H locs c0 s0 _ (F0 m 0 ls [])
  refine lv_aload_n hx hb d_Ca_ask_0 rfl (lv_at hl 0 rfl) ?_
  refine lv_iload_n hx hb d_Ca_ask_1 rfl (lv_at hl 1 rfl) ?_
  refine va_put (D := (dC, dI)) (ci := 2) (v := .int x1) (ty := .int) (C := R_Ca) (T := F_Ca) (N := 6) hx hb htz i_Ca t_Ca o_Ca n_Ca hown hK hP hD hS 0 rfl rfl 3 (by decide) (htz _ kf_Ca_22) (fun _ h9 => h9) rfl (by decide +kernel) rfl rfl (Nat.le_of_ble_eq_true rfl) d_Ca_ask_2 (fun H locs hP hD hS => ?_)
  have hP : va_P (dC, dI) classes (s_c k a (va_up f_c 1 x1) g_c) H := hP
  have hD : va_D A (s_c k a (va_up f_c 1 x1) g_c) := hD
  refine lv_iload_n hx hb d_Ca_ask_5 rfl (lv_at hl 1 rfl) ?_
  refine lv_if_eq (tgt := 38) hx hb d_Ca_ask_6 (by decide) (fun c_6 => ?_) (fun c_6 => ?_)
  · exact (k_38 c_6) H locs ls (lv_sub hl [0, 1] rfl) hP hD hS
  · refine lv_aload_n hx hb d_Ca_ask_9 rfl (lv_at hl 0 rfl) ?_
    refine va_get (D := (dC, dI)) (ci := 2) (v := .int (f_c 0)) (C := R_Ca) (T := F_Ca) (N := 6) hx hb htz i_Ca hown hK hP 0 rfl rfl 2 (by decide) (htz _ kf_Ca_18) (fun _ h9 => h9) rfl d_Ca_ask_10 ?_
    refine lv_bipush (v := 40) hx hb d_Ca_ask_13 (by decide) ?_
    refine lv_icmp_ge (tgt := 38) hx hb d_Ca_ask_15 (by decide) (fun c_15 => ?_) (fun c_15 => ?_)
    · exact (k_38_1 c_6 c_15) H locs ls (lv_sub hl [0, 1] rfl) hP hD hS
    · refine lv_aload_n hx hb d_Ca_ask_18 rfl (lv_at hl 0 rfl) ?_
      refine va_get (D := (dC, dI)) (ci := 2) (v := .ref (a 27)) (C := R_Ca) (T := F_Ca) (N := 6) hx hb htz i_Ca hown hK hP 0 rfl rfl 0 (by decide) (htz _ kf_Ca_9) (fun _ h9 => h9) rfl d_Ca_ask_19 ?_
      refine lv_aload_n hx hb d_Ca_ask_22 rfl (lv_at hl 0 rfl) ?_
      refine va_get (D := (dC, dI)) (ci := 2) (v := .int (f_c 0)) (C := R_Ca) (T := F_Ca) (N := 6) hx hb htz i_Ca hown hK hP 0 rfl rfl 2 (by decide) (htz _ kf_Ca_18) (fun _ h9 => h9) rfl d_Ca_ask_23 ?_
      refine lv_iload_n hx hb d_Ca_ask_26 rfl (lv_at hl 1 rfl) ?_
      refine va_iast hx hb hK hP hD hS 1 0 rfl rfl (h_27 c_6 c_15) d_Ca_ask_27 (fun H locs hP hD hS => ?_)
      have hP : va_P (dC, dI) classes (s_c k a (va_up f_c 1 x1) (va_up g_c 0 (upd (g_c 0) (f_c 0 : Int32).toNatClampNeg x1))) H := hP
      have hD : va_D A (s_c k a (va_up f_c 1 x1) (va_up g_c 0 (upd (g_c 0) (f_c 0 : Int32).toNatClampNeg x1))) := hD
      refine lv_aload_n hx hb d_Ca_ask_28 rfl (lv_at hl 0 rfl) ?_
      refine lv_dup hx hb d_Ca_ask_29 rfl ?_
      refine va_get (D := (dC, dI)) (ci := 2) (v := .int (f_c 0)) (C := R_Ca) (T := F_Ca) (N := 6) hx hb htz i_Ca hown hK hP 0 rfl rfl 2 (by decide) (htz _ kf_Ca_18) (fun _ h9 => h9) rfl d_Ca_ask_30 ?_
      refine lv_iconst (v := 1) hx hb d_Ca_ask_33 (by decide) ?_
      refine lv_iadd hx hb d_Ca_ask_34 ?_
      refine va_put (D := (dC, dI)) (ci := 2) (v := .int ((f_c 0) + 1)) (ty := .int) (C := R_Ca) (T := F_Ca) (N := 6) hx hb htz i_Ca t_Ca o_Ca n_Ca hown hK hP hD hS 0 rfl rfl 2 (by decide) (htz _ kf_Ca_18) (fun _ h9 => h9) rfl (by decide +kernel) rfl rfl (Nat.le_of_ble_eq_true rfl) d_Ca_ask_35 (fun H locs hP hD hS => ?_)
      have hP : va_P (dC, dI) classes (s_c k a (va_up (va_up f_c 1 x1) 0 ((f_c 0) + 1)) (va_up g_c 0 (upd (g_c 0) (f_c 0 : Int32).toNatClampNeg x1))) H := hP
      have hD : va_D A (s_c k a (va_up (va_up f_c 1 x1) 0 ((f_c 0) + 1)) (va_up g_c 0 (upd (g_c 0) (f_c 0 : Int32).toNatClampNeg x1))) := hD
      exact (k_38_2 c_6 c_15) H locs ls (lv_sub hl [0, 1] rfl) hP hD hS
set_option maxHeartbeats 1000000 in
set_option maxRecDepth 100000 in
theorem k_Ca_ask_38 {C : CT} (X : cM C "QuestionText$Call" b_Ca_ask 2 none) (Post : va_W → Prop) (x1 : Int32) (f_c : FT) (g_c : GT) (c0 s0 : Nat)
    (b_38 : c0 ≤ 0 ∧ s0 ≤ 0)
    (q_38 : Post (s_c C.1.2.2.2.1 C.1.2.2.2.2 f_c g_c)) : zc_Ca_ask C Post c0 s0 38 [(0, .ref (ad C.1 26)), (1, .int x1)] [] (s_c C.1.2.2.2.1 C.1.2.2.2.2 f_c g_c) := by
  obtain ⟨⟨l, dC, dI, k, a⟩, p, e, s, m, args, below, meth, c, A⟩ := C
  obtain ⟨hx, hb, hr, htz, hown, hlocks, hml, hE, hK, hA⟩ := X
  intro H locs ls hl hP hD hS
  have hl : lv_has ls 2 [(0, .ref (a 26)), (1, .int x1)] := hl
  have hP : va_P (dC, dI) classes (s_c k a f_c g_c) H := hP
  have hD : va_D A (s_c k a f_c g_c) := hD
  show W p l e (z_rm 0 0 0) s m args below meth c H locs c0 s0 _ (F0 m 38 ls [])
  refine W.widen (k := 0) (n := 0) b_38.1 b_38.2 ?_
  exact W.vret hx hb hr (fun t ht hW => ⟨⟨(s_c k a f_c g_c), rfl, q_38, by rw [ht]; exact hP, va_K.moved hW.alike hK, hD⟩, hS.F ht⟩) hS.2.2 d_Ca_ask_38
set_option maxHeartbeats 1000000 in
set_option maxRecDepth 100000 in
theorem e_Ca_ask (T : ST) (Post : va_W → Prop) (x1 : Int32) (f_c : FT) (g_c : GT) (h : ∀ C : CT, C.1 = T → cM C "QuestionText$Call" b_Ca_ask 2 none → zc_Ca_ask C Post 0 0 0 [(0, .ref (ad C.1 26)), (1, .int x1)] [] (s_c C.1.2.2.2.1 C.1.2.2.2.2 f_c g_c)) : uV T y_Ca_ask (Cond.code y_Ca_ask b_Ca_ask 2 none) 0 0 0 [.ref (ad T 26), .int x1] (s_c T.2.2.2.1 T.2.2.2.2 f_c g_c) Post := by
  obtain ⟨l, dC, dI, k, a⟩ := T
  intro sz
  refine Met.ofW (cc := b_Ca_ask) (maxL := 2) (ret := none) (by decide) rfl ?_
  intro p e s m args below meth c s₁ B hml hv
  obtain ⟨rfl, hsz, hE, hP, hK, hD0⟩ := hv
  have hts := atoms_spec (ws := (Cond.code y_Ca_ask b_Ca_ask 2 none) :: z_T) B.pre
  have htz : ∀ w ∈ z_T, w.before _ s = true := fun w h => hts w (z_cons w h)
  subst hsz
  have hD := hD0.self (sz := s.heap.size)
  generalize hAe : va_A (s_c k a f_c g_c) s.heap.size = A at hD hE ⊢
  have hA : ∀ q : Nat, s.heap.size ≤ q → A q := fun q h => by rw [← hAe]; exact Or.inr h
  have hl := lv_entry ([.ref (a 26), .int x1]) (n := 2) (Nat.le_of_ble_eq_true rfl)
  rw [lg_entry_eq]
  generalize (lg_sl ([.ref (a 26), .int x1]) ++ List.replicate (2 - (lg_sl ([.ref (a 26), .int x1])).length) Slot.unset).toArray = ls at hl ⊢
  exact h ((l, dC, dI, k, a), p, e, s, m, ([.ref (a 26), .int x1] : List Value).toArray, below, meth, c, A) rfl ⟨B.exec, B.bytes, B.returns, htz, findClass_of_methodNamed B.named, B.notSynchronized, hml, hE, hK, hA⟩ s.heap [] ls hl hP hD va_S.rf
def zc_Ed_questionAt (C : CT) (Post : Option Nat → va_W → Prop) (c0 s0 pc : Nat) (loc : List (Nat × Value)) (st : List Value) (ws : va_W) : Prop := zW C (z_rm 0 0 0) 2 (oR C 0 0 Post) c0 s0 pc loc st ws
set_option maxHeartbeats 1000000 in
set_option maxRecDepth 100000 in
theorem k_Ed_questionAt_0 {C : CT} (X : cM C "QuestionText$Edition" b_Ed_questionAt 2 (some (.object "QuestionText$Question"))) (Post : Option Nat → va_W → Prop) (x1 : Int32) (P : va_W) (h0 : Nat) (qa : Nat) (ka : Nat) (es : Int32) (e1 : Int64) (e2 : Int64) (e3 : Int64) (fq : Nat → Option Nat) (fk : Nat → Option Nat) (i1 : Nat) (i2 : Nat) (c0 s0 : Nat) (hf : P[i1]? = some (h0, .inr (3, [.ref qa, .ref ka, .int es, .long e1, .long e2, .long e3]))) (hqa : P[i2]? = some (qa, .inl (C.1.2.2.2.1 3, 61, .inr (.inr (.inr (.inr fq))))))
    (k_11 : (x1 < 1) → zc_Ed_questionAt C Post c0 s0 11 [(0, .ref h0), (1, .int x1)] [] (P))
    (h_20 : (¬ x1 < 1) → (x1 ≤ 60) → vp_in (x1) 61)
    (k_21 : (¬ x1 < 1) → (x1 ≤ 60) → zc_Ed_questionAt C Post c0 s0 21 [(0, .ref h0), (1, .int x1)] [va_rf (fq (x1 : Int32).toNatClampNeg)] (P))
    (k_11_1 : (¬ x1 < 1) → (¬ x1 ≤ 60) → zc_Ed_questionAt C Post c0 s0 11 [(0, .ref h0), (1, .int x1)] [] (P)) : zc_Ed_questionAt C Post c0 s0 0 [(0, .ref h0), (1, .int x1)] [] (P) := by
  obtain ⟨⟨l, dC, dI, k, a⟩, p, e, s, m, args, below, meth, c, A⟩ := C
  obtain ⟨hx, hb, hr, htz, hown, hlocks, hml, hE, hK, hA⟩ := X
  intro H locs ls hl hP hD hS
  have hl : lv_has ls 2 [(0, .ref h0), (1, .int x1)] := hl
  have hP : va_P (dC, dI) classes (P) H := hP
  have hD : va_D A (P) := hD
  show W p l e (z_rm 0 0 0) s m args below meth c H locs c0 s0 _ (F0 m 0 ls [])
  refine lv_iload_n hx hb d_Ed_questionAt_0 rfl (lv_at hl 1 rfl) ?_
  refine lv_iconst (v := 1) hx hb d_Ed_questionAt_1 (by decide) ?_
  refine lv_icmp_lt (tgt := 11) hx hb d_Ed_questionAt_2 (by decide) (fun c_2 => ?_) (fun c_2 => ?_)
  · exact (k_11 c_2) H locs ls (lv_sub hl [0, 1] rfl) hP hD hS
  · refine lv_iload_n hx hb d_Ed_questionAt_5 rfl (lv_at hl 1 rfl) ?_
    refine lv_bipush (v := 60) hx hb d_Ed_questionAt_6 (by decide) ?_
    refine lv_icmp_le (tgt := 15) hx hb d_Ed_questionAt_8 (by decide) (fun c_8 => ?_) (fun c_8 => ?_)
    · refine lv_aload_n hx hb d_Ed_questionAt_15 rfl (lv_at hl 0 rfl) ?_
      refine va_get (D := (dC, dI)) (ci := 3) (v := .ref qa) (C := R_Ed) (T := F_Ed) (N := 6) hx hb htz i_Ed hown hK hP (i1 + 0) hf rfl 0 (by decide) (htz _ kf_Ed_11) (fun _ h9 => h9) rfl d_Ed_questionAt_16 ?_
      refine lv_iload_n hx hb d_Ed_questionAt_19 rfl (lv_at hl 1 rfl) ?_
      refine va_aldq hx hb hK hP (i2 + 0) 3 hqa rfl (h_20 c_2 c_8) d_Ed_questionAt_20 ?_
      exact (k_21 c_2 c_8) H locs ls (lv_sub hl [0, 1] rfl) hP hD hS
    · exact (k_11_1 c_2 c_8) H locs ls (lv_sub hl [0, 1] rfl) hP hD hS
set_option maxHeartbeats 1000000 in
set_option maxRecDepth 100000 in
theorem k_Ed_questionAt_11 {C : CT} (X : cM C "QuestionText$Edition" b_Ed_questionAt 2 (some (.object "QuestionText$Question"))) (Post : Option Nat → va_W → Prop) (x1 : Int32) (P : va_W) (h0 : Nat) (qa : Nat) (ka : Nat) (es : Int32) (e1 : Int64) (e2 : Int64) (e3 : Int64) (fq : Nat → Option Nat) (fk : Nat → Option Nat) (i1 : Nat) (i2 : Nat) (c0 s0 : Nat) (hf : P[i1]? = some (h0, .inr (3, [.ref qa, .ref ka, .int es, .long e1, .long e2, .long e3]))) (hqa : P[i2]? = some (qa, .inl (C.1.2.2.2.1 3, 61, .inr (.inr (.inr (.inr fq))))))
    (k_21 : zc_Ed_questionAt C Post c0 s0 21 [(0, .ref h0), (1, .int x1)] [.null] (P)) : zc_Ed_questionAt C Post c0 s0 11 [(0, .ref h0), (1, .int x1)] [] (P) := by
  obtain ⟨⟨l, dC, dI, k, a⟩, p, e, s, m, args, below, meth, c, A⟩ := C
  obtain ⟨hx, hb, hr, htz, hown, hlocks, hml, hE, hK, hA⟩ := X
  intro H locs ls hl hP hD hS
  have hl : lv_has ls 2 [(0, .ref h0), (1, .int x1)] := hl
  have hP : va_P (dC, dI) classes (P) H := hP
  have hD : va_D A (P) := hD
  show W p l e (z_rm 0 0 0) s m args below meth c H locs c0 s0 _ (F0 m 11 ls [])
  refine lv_null hx hb d_Ed_questionAt_11 ?_
  refine lv_goto (tgt := 21) hx hb d_Ed_questionAt_12 (by decide) ?_
  exact k_21 H locs ls (lv_sub hl [0, 1] rfl) hP hD hS
set_option maxHeartbeats 1000000 in
set_option maxRecDepth 100000 in
theorem k_Ed_questionAt_21 {C : CT} (X : cM C "QuestionText$Edition" b_Ed_questionAt 2 (some (.object "QuestionText$Question"))) (Post : Option Nat → va_W → Prop) (x1 : Int32) (y0 : Option Nat) (P : va_W) (h0 : Nat) (qa : Nat) (ka : Nat) (es : Int32) (e1 : Int64) (e2 : Int64) (e3 : Int64) (fq : Nat → Option Nat) (fk : Nat → Option Nat) (i1 : Nat) (i2 : Nat) (c0 s0 : Nat) (hf : P[i1]? = some (h0, .inr (3, [.ref qa, .ref ka, .int es, .long e1, .long e2, .long e3]))) (hqa : P[i2]? = some (qa, .inl (C.1.2.2.2.1 3, 61, .inr (.inr (.inr (.inr fq))))))
    (b_21 : c0 ≤ 0 ∧ s0 ≤ 0)
    (q_21 : Post y0 (P)) : zc_Ed_questionAt C Post c0 s0 21 [(0, .ref h0), (1, .int x1)] [va_rf y0] (P) := by
  obtain ⟨⟨l, dC, dI, k, a⟩, p, e, s, m, args, below, meth, c, A⟩ := C
  obtain ⟨hx, hb, hr, htz, hown, hlocks, hml, hE, hK, hA⟩ := X
  intro H locs ls hl hP hD hS
  have hl : lv_has ls 2 [(0, .ref h0), (1, .int x1)] := hl
  have hP : va_P (dC, dI) classes (P) H := hP
  have hD : va_D A (P) := hD
  show W p l e (z_rm 0 0 0) s m args below meth c H locs c0 s0 _ (F0 m 21 ls [va_rf y0])
  refine W.widen (k := 0) (n := 0) b_21.1 b_21.2 ?_
  exact W.aret (v := va_rf y0) hx hb hr (Or.inl ⟨_, rfl⟩) (by cases y0 <;> simp [va_rf]) (fun t ht hW => ⟨⟨y0, (P), rfl, q_21, by rw [ht]; exact hP, va_K.moved hW.alike hK, hD⟩, hS.F ht⟩) hS.2.2 d_Ed_questionAt_21
set_option maxHeartbeats 1000000 in
set_option maxRecDepth 100000 in
theorem e_Ed_questionAt (T : ST) (Post : Option Nat → va_W → Prop) (x1 : Int32) (P : va_W) (h0 : Nat) (qa : Nat) (ka : Nat) (es : Int32) (e1 : Int64) (e2 : Int64) (e3 : Int64) (fq : Nat → Option Nat) (fk : Nat → Option Nat) (h : ∀ C : CT, C.1 = T → cM C "QuestionText$Edition" b_Ed_questionAt 2 (some (.object "QuestionText$Question")) → zc_Ed_questionAt C Post 0 0 0 [(0, .ref h0), (1, .int x1)] [] (P)) : uR T y_Ed_questionAt (Cond.code y_Ed_questionAt b_Ed_questionAt 2 (some (.object "QuestionText$Question"))) 0 0 0 [.ref h0, .int x1] (P) Post := by
  obtain ⟨l, dC, dI, k, a⟩ := T
  intro sz
  refine Met.ofW (cc := b_Ed_questionAt) (maxL := 2) (ret := (some (.object "QuestionText$Question"))) (by decide) rfl ?_
  intro p e s m args below meth c s₁ B hml hv
  obtain ⟨rfl, hsz, hE, hP, hK, hD0⟩ := hv
  have hts := atoms_spec (ws := (Cond.code y_Ed_questionAt b_Ed_questionAt 2 (some (.object "QuestionText$Question"))) :: z_T) B.pre
  have htz : ∀ w ∈ z_T, w.before _ s = true := fun w h => hts w (z_cons w h)
  subst hsz
  have hD := hD0.self (sz := s.heap.size)
  generalize hAe : va_A (P) s.heap.size = A at hD hE ⊢
  have hA : ∀ q : Nat, s.heap.size ≤ q → A q := fun q h => by rw [← hAe]; exact Or.inr h
  have hl := lv_entry ([.ref h0, .int x1]) (n := 2) (Nat.le_of_ble_eq_true rfl)
  rw [lg_entry_eq]
  generalize (lg_sl ([.ref h0, .int x1]) ++ List.replicate (2 - (lg_sl ([.ref h0, .int x1])).length) Slot.unset).toArray = ls at hl ⊢
  exact h ((l, dC, dI, k, a), p, e, s, m, ([.ref h0, .int x1] : List Value).toArray, below, meth, c, A) rfl ⟨B.exec, B.bytes, B.returns, htz, findClass_of_methodNamed B.named, B.notSynchronized, hml, hE, hK, hA⟩ s.heap [] ls hl hP hD va_S.rf
def zc_Ed_kindAt (C : CT) (Post : Option Nat → va_W → Prop) (c0 s0 pc : Nat) (loc : List (Nat × Value)) (st : List Value) (ws : va_W) : Prop := zW C (z_rm 0 0 0) 2 (oR C 0 0 Post) c0 s0 pc loc st ws
set_option maxHeartbeats 1000000 in
set_option maxRecDepth 100000 in
theorem k_Ed_kindAt_0 {C : CT} (X : cM C "QuestionText$Edition" b_Ed_kindAt 2 (some (.object "QuestionText$Kind"))) (Post : Option Nat → va_W → Prop) (x1 : Int32) (P : va_W) (h0 : Nat) (qa : Nat) (ka : Nat) (es : Int32) (e1 : Int64) (e2 : Int64) (e3 : Int64) (fq : Nat → Option Nat) (fk : Nat → Option Nat) (i1 : Nat) (i3 : Nat) (c0 s0 : Nat) (hf : P[i1]? = some (h0, .inr (3, [.ref qa, .ref ka, .int es, .long e1, .long e2, .long e3]))) (hka : P[i3]? = some (ka, .inl (C.1.2.2.2.1 4, 10, .inr (.inr (.inr (.inr fk))))))
    (k_11 : (x1 < 1) → zc_Ed_kindAt C Post c0 s0 11 [(0, .ref h0), (1, .int x1)] [] (P))
    (h_20 : (¬ x1 < 1) → (x1 ≤ 9) → vp_in (x1) 10)
    (k_21 : (¬ x1 < 1) → (x1 ≤ 9) → zc_Ed_kindAt C Post c0 s0 21 [(0, .ref h0), (1, .int x1)] [va_rf (fk (x1 : Int32).toNatClampNeg)] (P))
    (k_11_1 : (¬ x1 < 1) → (¬ x1 ≤ 9) → zc_Ed_kindAt C Post c0 s0 11 [(0, .ref h0), (1, .int x1)] [] (P)) : zc_Ed_kindAt C Post c0 s0 0 [(0, .ref h0), (1, .int x1)] [] (P) := by
  obtain ⟨⟨l, dC, dI, k, a⟩, p, e, s, m, args, below, meth, c, A⟩ := C
  obtain ⟨hx, hb, hr, htz, hown, hlocks, hml, hE, hK, hA⟩ := X
  intro H locs ls hl hP hD hS
  have hl : lv_has ls 2 [(0, .ref h0), (1, .int x1)] := hl
  have hP : va_P (dC, dI) classes (P) H := hP
  have hD : va_D A (P) := hD
  show W p l e (z_rm 0 0 0) s m args below meth c H locs c0 s0 _ (F0 m 0 ls [])
  refine lv_iload_n hx hb d_Ed_kindAt_0 rfl (lv_at hl 1 rfl) ?_
  refine lv_iconst (v := 1) hx hb d_Ed_kindAt_1 (by decide) ?_
  refine lv_icmp_lt (tgt := 11) hx hb d_Ed_kindAt_2 (by decide) (fun c_2 => ?_) (fun c_2 => ?_)
  · exact (k_11 c_2) H locs ls (lv_sub hl [0, 1] rfl) hP hD hS
  · refine lv_iload_n hx hb d_Ed_kindAt_5 rfl (lv_at hl 1 rfl) ?_
    refine lv_bipush (v := 9) hx hb d_Ed_kindAt_6 (by decide) ?_
    refine lv_icmp_le (tgt := 15) hx hb d_Ed_kindAt_8 (by decide) (fun c_8 => ?_) (fun c_8 => ?_)
    · refine lv_aload_n hx hb d_Ed_kindAt_15 rfl (lv_at hl 0 rfl) ?_
      refine va_get (D := (dC, dI)) (ci := 3) (v := .ref ka) (C := R_Ed) (T := F_Ed) (N := 6) hx hb htz i_Ed hown hK hP (i1 + 0) hf rfl 1 (by decide) (htz _ kf_Ed_19) (fun _ h9 => h9) rfl d_Ed_kindAt_16 ?_
      refine lv_iload_n hx hb d_Ed_kindAt_19 rfl (lv_at hl 1 rfl) ?_
      refine va_aldq hx hb hK hP (i3 + 0) 4 hka rfl (h_20 c_2 c_8) d_Ed_kindAt_20 ?_
      exact (k_21 c_2 c_8) H locs ls (lv_sub hl [0, 1] rfl) hP hD hS
    · exact (k_11_1 c_2 c_8) H locs ls (lv_sub hl [0, 1] rfl) hP hD hS
set_option maxHeartbeats 1000000 in
set_option maxRecDepth 100000 in
theorem k_Ed_kindAt_11 {C : CT} (X : cM C "QuestionText$Edition" b_Ed_kindAt 2 (some (.object "QuestionText$Kind"))) (Post : Option Nat → va_W → Prop) (x1 : Int32) (P : va_W) (h0 : Nat) (qa : Nat) (ka : Nat) (es : Int32) (e1 : Int64) (e2 : Int64) (e3 : Int64) (fq : Nat → Option Nat) (fk : Nat → Option Nat) (i1 : Nat) (i3 : Nat) (c0 s0 : Nat) (hf : P[i1]? = some (h0, .inr (3, [.ref qa, .ref ka, .int es, .long e1, .long e2, .long e3]))) (hka : P[i3]? = some (ka, .inl (C.1.2.2.2.1 4, 10, .inr (.inr (.inr (.inr fk))))))
    (k_21 : zc_Ed_kindAt C Post c0 s0 21 [(0, .ref h0), (1, .int x1)] [.null] (P)) : zc_Ed_kindAt C Post c0 s0 11 [(0, .ref h0), (1, .int x1)] [] (P) := by
  obtain ⟨⟨l, dC, dI, k, a⟩, p, e, s, m, args, below, meth, c, A⟩ := C
  obtain ⟨hx, hb, hr, htz, hown, hlocks, hml, hE, hK, hA⟩ := X
  intro H locs ls hl hP hD hS
  have hl : lv_has ls 2 [(0, .ref h0), (1, .int x1)] := hl
  have hP : va_P (dC, dI) classes (P) H := hP
  have hD : va_D A (P) := hD
  show W p l e (z_rm 0 0 0) s m args below meth c H locs c0 s0 _ (F0 m 11 ls [])
  refine lv_null hx hb d_Ed_kindAt_11 ?_
  refine lv_goto (tgt := 21) hx hb d_Ed_kindAt_12 (by decide) ?_
  exact k_21 H locs ls (lv_sub hl [0, 1] rfl) hP hD hS
set_option maxHeartbeats 1000000 in
set_option maxRecDepth 100000 in
theorem k_Ed_kindAt_21 {C : CT} (X : cM C "QuestionText$Edition" b_Ed_kindAt 2 (some (.object "QuestionText$Kind"))) (Post : Option Nat → va_W → Prop) (x1 : Int32) (y0 : Option Nat) (P : va_W) (h0 : Nat) (qa : Nat) (ka : Nat) (es : Int32) (e1 : Int64) (e2 : Int64) (e3 : Int64) (fq : Nat → Option Nat) (fk : Nat → Option Nat) (i1 : Nat) (i3 : Nat) (c0 s0 : Nat) (hf : P[i1]? = some (h0, .inr (3, [.ref qa, .ref ka, .int es, .long e1, .long e2, .long e3]))) (hka : P[i3]? = some (ka, .inl (C.1.2.2.2.1 4, 10, .inr (.inr (.inr (.inr fk))))))
    (b_21 : c0 ≤ 0 ∧ s0 ≤ 0)
    (q_21 : Post y0 (P)) : zc_Ed_kindAt C Post c0 s0 21 [(0, .ref h0), (1, .int x1)] [va_rf y0] (P) := by
  obtain ⟨⟨l, dC, dI, k, a⟩, p, e, s, m, args, below, meth, c, A⟩ := C
  obtain ⟨hx, hb, hr, htz, hown, hlocks, hml, hE, hK, hA⟩ := X
  intro H locs ls hl hP hD hS
  have hl : lv_has ls 2 [(0, .ref h0), (1, .int x1)] := hl
  have hP : va_P (dC, dI) classes (P) H := hP
  have hD : va_D A (P) := hD
  show W p l e (z_rm 0 0 0) s m args below meth c H locs c0 s0 _ (F0 m 21 ls [va_rf y0])
  refine W.widen (k := 0) (n := 0) b_21.1 b_21.2 ?_
  exact W.aret (v := va_rf y0) hx hb hr (Or.inl ⟨_, rfl⟩) (by cases y0 <;> simp [va_rf]) (fun t ht hW => ⟨⟨y0, (P), rfl, q_21, by rw [ht]; exact hP, va_K.moved hW.alike hK, hD⟩, hS.F ht⟩) hS.2.2 d_Ed_kindAt_21
set_option maxHeartbeats 1000000 in
set_option maxRecDepth 100000 in
theorem e_Ed_kindAt (T : ST) (Post : Option Nat → va_W → Prop) (x1 : Int32) (P : va_W) (h0 : Nat) (qa : Nat) (ka : Nat) (es : Int32) (e1 : Int64) (e2 : Int64) (e3 : Int64) (fq : Nat → Option Nat) (fk : Nat → Option Nat) (h : ∀ C : CT, C.1 = T → cM C "QuestionText$Edition" b_Ed_kindAt 2 (some (.object "QuestionText$Kind")) → zc_Ed_kindAt C Post 0 0 0 [(0, .ref h0), (1, .int x1)] [] (P)) : uR T y_Ed_kindAt (Cond.code y_Ed_kindAt b_Ed_kindAt 2 (some (.object "QuestionText$Kind"))) 0 0 0 [.ref h0, .int x1] (P) Post := by
  obtain ⟨l, dC, dI, k, a⟩ := T
  intro sz
  refine Met.ofW (cc := b_Ed_kindAt) (maxL := 2) (ret := (some (.object "QuestionText$Kind"))) (by decide) rfl ?_
  intro p e s m args below meth c s₁ B hml hv
  obtain ⟨rfl, hsz, hE, hP, hK, hD0⟩ := hv
  have hts := atoms_spec (ws := (Cond.code y_Ed_kindAt b_Ed_kindAt 2 (some (.object "QuestionText$Kind"))) :: z_T) B.pre
  have htz : ∀ w ∈ z_T, w.before _ s = true := fun w h => hts w (z_cons w h)
  subst hsz
  have hD := hD0.self (sz := s.heap.size)
  generalize hAe : va_A (P) s.heap.size = A at hD hE ⊢
  have hA : ∀ q : Nat, s.heap.size ≤ q → A q := fun q h => by rw [← hAe]; exact Or.inr h
  have hl := lv_entry ([.ref h0, .int x1]) (n := 2) (Nat.le_of_ble_eq_true rfl)
  rw [lg_entry_eq]
  generalize (lg_sl ([.ref h0, .int x1]) ++ List.replicate (2 - (lg_sl ([.ref h0, .int x1])).length) Slot.unset).toArray = ls at hl ⊢
  exact h ((l, dC, dI, k, a), p, e, s, m, ([.ref h0, .int x1] : List Value).toArray, below, meth, c, A) rfl ⟨B.exec, B.bytes, B.returns, htz, findClass_of_methodNamed B.named, B.notSynchronized, hml, hE, hK, hA⟩ s.heap [] ls hl hP hD va_S.rf
def zc_Ed_asNext (C : CT) (Post : Int32 → va_W → Prop) (c0 s0 pc : Nat) (loc : List (Nat × Value)) (st : List Value) (ws : va_W) : Prop := zW C (z_rm 1 0 0) 2 (oI C 0 0 Post) c0 s0 pc loc st ws
set_option maxHeartbeats 1000000 in
set_option maxRecDepth 100000 in
theorem k_Ed_asNext_0 {C : CT} (X : cM C "QuestionText$Edition" b_Ed_asNext 2 (some .int)) (Post : Int32 → va_W → Prop) {P_2 : Option Nat → va_W → Prop} (x1 : Int32) (P : va_W) (h0 : Nat) (qa : Nat) (ka : Nat) (es : Int32) (e1 : Int64) (e2 : Int64) (e3 : Int64) (fq : Nat → Option Nat) (fk : Nat → Option Nat) (i1 : Nat) (i2 : Nat) (c0 s0 : Nat) (hf : P[i1]? = some (h0, .inr (3, [.ref qa, .ref ka, .int es, .long e1, .long e2, .long e3]))) (hqa : P[i2]? = some (qa, .inl (C.1.2.2.2.1 3, 61, .inr (.inr (.inr (.inr fq))))))
    (b_2 : c0 ≤ 0 ∧ s0 ≤ 0)
    (m_2 : uR C.1 y_Ed_questionAt (Cond.code y_Ed_questionAt b_Ed_questionAt 2 (some (.object "QuestionText$Question"))) 0 0 0 [.ref h0, .int x1] (P) P_2)
    (k_2 : ∀ (r : Option Nat) (u : va_W), P_2 r u → zc_Ed_asNext C Post c0 s0 5 [(0, .ref h0), (1, .int x1)] [va_rf r] (u)) : zc_Ed_asNext C Post c0 s0 0 [(0, .ref h0), (1, .int x1)] [] (P) := by
  obtain ⟨⟨l, dC, dI, k, a⟩, p, e, s, m, args, below, meth, c, A⟩ := C
  obtain ⟨hx, hb, hr, htz, hown, hlocks, hml, hE, hK, hA⟩ := X
  intro H locs ls hl hP hD hS
  have hl : lv_has ls 2 [(0, .ref h0), (1, .int x1)] := hl
  have hP : va_P (dC, dI) classes (P) H := hP
  have hD : va_D A (P) := hD
  show W p l e (z_rm 1 0 0) s m args below meth c H locs c0 s0 _ (F0 m 0 ls [])
  refine lv_aload_n hx hb d_Ed_asNext_0 rfl (lv_at hl 0 rfl) ?_
  refine lv_iload_n hx hb d_Ed_asNext_1 rfl (lv_at hl 1 rfl) ?_
  have hFc : ∀ q, va_A (P) H.size q → A q := fun q h => h.elim (fun z => by obtain ⟨i9, e9, h9⟩ := z; exact hD.2 i9 _ h9) (fun z => hA q (Nat.le_trans hS.1 z))
  refine va_callq (va_runV (As := [.int x1]) (rest := []) ⟨hx, hb, hml, hown, htz⟩ (m_2 H.size) (cwV 1 htz (z_gV (fun _ h => h) km_Ed_37 in_Ed_questionAt se_Ed_questionAt ini_Ed m_Ed_questionAt) rfl rfl rfl (by decide +kernel) ⟨(Nat.le_of_ble_eq_true rfl), (Nat.le_of_ble_eq_true rfl)⟩) ⟨z_blind, va_recv hK hP (ci := 3) (q0 := (i1 + 0)) rfl hf, fun U hU hW => ⟨rfl, by rw [hU], hE.call hS hFc hU hW, by rw [hU]; exact hP, va_K.moved hW.alike hK, (hD.weaken (fun _ _ _ _ => trivial))⟩⟩ rfl rfl hl.1 rfl (lv_room (Nat.le_of_ble_eq_true rfl)) d_Ed_asNext_2 b_2) hS (fun q _ h => hFc q h) hFc (fun r u t H1 locs ht hvm hw hB hz1 hk1 hS => ?_)
  obtain ⟨hP1, hK1, hD1⟩ := hB
  rw [ht] at hP1
  have hP := hP1
  have hD := hD1.weaken (fun _ q _ h => hFc _ h)
  exact k_2 r _ hw H1 locs ls (lv_sub hl [0, 1] rfl) hP hD hS
set_option maxHeartbeats 1000000 in
set_option maxRecDepth 100000 in
theorem k_Ed_asNext_5 {C : CT} (X : cM C "QuestionText$Edition" b_Ed_asNext 2 (some .int)) (Post : Int32 → va_W → Prop) (x1 : Int32) (y0 : Option Nat) (P : va_W) (h0 : Nat) (qa : Nat) (ka : Nat) (es : Int32) (e1 : Int64) (e2 : Int64) (e3 : Int64) (fq : Nat → Option Nat) (fk : Nat → Option Nat) (i1 : Nat) (i2 : Nat) (c0 s0 : Nat) (hf : P[i1]? = some (h0, .inr (3, [.ref qa, .ref ka, .int es, .long e1, .long e2, .long e3]))) (hqa : P[i2]? = some (qa, .inl (C.1.2.2.2.1 3, 61, .inr (.inr (.inr (.inr fq))))))
    (k_13 : (¬ y0 = none) → zc_Ed_asNext C Post c0 s0 13 [(0, .ref h0), (1, .int x1)] [.int x1] (P))
    (k_13_1 : (y0 = none) → zc_Ed_asNext C Post c0 s0 13 [(0, .ref h0), (1, .int x1)] [.int 0] (P)) : zc_Ed_asNext C Post c0 s0 5 [(0, .ref h0), (1, .int x1)] [va_rf y0] (P) := by
  obtain ⟨⟨l, dC, dI, k, a⟩, p, e, s, m, args, below, meth, c, A⟩ := C
  obtain ⟨hx, hb, hr, htz, hown, hlocks, hml, hE, hK, hA⟩ := X
  intro H locs ls hl hP hD hS
  have hl : lv_has ls 2 [(0, .ref h0), (1, .int x1)] := hl
  have hP : va_P (dC, dI) classes (P) H := hP
  have hD : va_D A (P) := hD
  show W p l e (z_rm 1 0 0) s m args below meth c H locs c0 s0 _ (F0 m 5 ls [va_rf y0])
  refine qv_nn (tgt := 12) hx hb d_Ed_asNext_5 (by decide) (fun c_5 => ?_) (fun c_5 => ?_)
  · refine lv_iload_n hx hb d_Ed_asNext_12 rfl (lv_at hl 1 rfl) ?_
    exact (k_13 c_5) H locs ls (lv_sub hl [0, 1] rfl) hP hD hS
  · refine lv_iconst (v := 0) hx hb d_Ed_asNext_8 (by decide) ?_
    refine lv_goto (tgt := 13) hx hb d_Ed_asNext_9 (by decide) ?_
    exact (k_13_1 c_5) H locs ls (lv_sub hl [0, 1] rfl) hP hD hS
set_option maxHeartbeats 1000000 in
set_option maxRecDepth 100000 in
theorem k_Ed_asNext_13 {C : CT} (X : cM C "QuestionText$Edition" b_Ed_asNext 2 (some .int)) (Post : Int32 → va_W → Prop) (x1 : Int32) (y0 : Int32) (P : va_W) (h0 : Nat) (qa : Nat) (ka : Nat) (es : Int32) (e1 : Int64) (e2 : Int64) (e3 : Int64) (fq : Nat → Option Nat) (fk : Nat → Option Nat) (i1 : Nat) (i2 : Nat) (c0 s0 : Nat) (hf : P[i1]? = some (h0, .inr (3, [.ref qa, .ref ka, .int es, .long e1, .long e2, .long e3]))) (hqa : P[i2]? = some (qa, .inl (C.1.2.2.2.1 3, 61, .inr (.inr (.inr (.inr fq))))))
    (b_13 : c0 ≤ 0 ∧ s0 ≤ 0)
    (q_13 : Post (y0) (P)) : zc_Ed_asNext C Post c0 s0 13 [(0, .ref h0), (1, .int x1)] [.int y0] (P) := by
  obtain ⟨⟨l, dC, dI, k, a⟩, p, e, s, m, args, below, meth, c, A⟩ := C
  obtain ⟨hx, hb, hr, htz, hown, hlocks, hml, hE, hK, hA⟩ := X
  intro H locs ls hl hP hD hS
  have hl : lv_has ls 2 [(0, .ref h0), (1, .int x1)] := hl
  have hP : va_P (dC, dI) classes (P) H := hP
  have hD : va_D A (P) := hD
  show W p l e (z_rm 1 0 0) s m args below meth c H locs c0 s0 _ (F0 m 13 ls [.int y0])
  refine W.widen (k := 0) (n := 0) b_13.1 b_13.2 ?_
  exact W.iret (v := y0) hx hb hr (fun t ht hW => ⟨⟨_, (P), rfl, q_13, by rw [ht]; exact hP, va_K.moved hW.alike hK, hD⟩, hS.F ht⟩) hS.2.2 d_Ed_asNext_13
set_option maxHeartbeats 1000000 in
set_option maxRecDepth 100000 in
theorem e_Ed_asNext (T : ST) (Post : Int32 → va_W → Prop) (x1 : Int32) (P : va_W) (h0 : Nat) (qa : Nat) (ka : Nat) (es : Int32) (e1 : Int64) (e2 : Int64) (e3 : Int64) (fq : Nat → Option Nat) (fk : Nat → Option Nat) (h : ∀ C : CT, C.1 = T → cM C "QuestionText$Edition" b_Ed_asNext 2 (some .int) → zc_Ed_asNext C Post 0 0 0 [(0, .ref h0), (1, .int x1)] [] (P)) : uI T y_Ed_asNext (Cond.code y_Ed_asNext b_Ed_asNext 2 (some .int)) 1 0 0 [.ref h0, .int x1] (P) Post := by
  obtain ⟨l, dC, dI, k, a⟩ := T
  intro sz
  refine Met.ofW (cc := b_Ed_asNext) (maxL := 2) (ret := (some .int)) (by decide) rfl ?_
  intro p e s m args below meth c s₁ B hml hv
  obtain ⟨rfl, hsz, hE, hP, hK, hD0⟩ := hv
  have hts := atoms_spec (ws := (Cond.code y_Ed_asNext b_Ed_asNext 2 (some .int)) :: z_T) B.pre
  have htz : ∀ w ∈ z_T, w.before _ s = true := fun w h => hts w (z_cons w h)
  subst hsz
  have hD := hD0.self (sz := s.heap.size)
  generalize hAe : va_A (P) s.heap.size = A at hD hE ⊢
  have hA : ∀ q : Nat, s.heap.size ≤ q → A q := fun q h => by rw [← hAe]; exact Or.inr h
  have hl := lv_entry ([.ref h0, .int x1]) (n := 2) (Nat.le_of_ble_eq_true rfl)
  rw [lg_entry_eq]
  generalize (lg_sl ([.ref h0, .int x1]) ++ List.replicate (2 - (lg_sl ([.ref h0, .int x1])).length) Slot.unset).toArray = ls at hl ⊢
  exact h ((l, dC, dI, k, a), p, e, s, m, ([.ref h0, .int x1] : List Value).toArray, below, meth, c, A) rfl ⟨B.exec, B.bytes, B.returns, htz, findClass_of_methodNamed B.named, B.notSynchronized, hml, hE, hK, hA⟩ s.heap [] ls hl hP hD va_S.rf
def zc_Ed_targetsOf (C : CT) (Post : Int64 → va_W → Prop) (c0 s0 pc : Nat) (loc : List (Nat × Value)) (st : List Value) (ws : va_W) : Prop := zW C (z_rm 3 0 0) 5 (oL C 0 0 Post) c0 s0 pc loc st ws
set_option maxHeartbeats 1000000 in
set_option maxRecDepth 100000 in
theorem k_Ed_targetsOf_0 {C : CT} (X : cM C "QuestionText$Edition" b_Ed_targetsOf 5 (some .long)) (Post : Int64 → va_W → Prop) {P_9 : Int32 → va_W → Prop} (x1 : Nat) (P : va_W) (h0 : Nat) (qa : Nat) (ka : Nat) (es : Int32) (e1 : Int64) (e2 : Int64) (e3 : Int64) (fq : Nat → Option Nat) (fk : Nat → Option Nat) (mu : Int32) (sp : Nat) (wa : Nat) (wb : Nat) (l0 : Nat) (jx : Nat) (sj : Nat) (t0 : Int32) (p0 : Int32) (i1 : Nat) (i2 : Nat) (i4 : Nat) (i5 : Nat) (c0 s0 : Nat) (hf : P[i1]? = some (h0, .inr (3, [.ref qa, .ref ka, .int es, .long e1, .long e2, .long e3]))) (hqa : P[i2]? = some (qa, .inl (C.1.2.2.2.1 3, 61, .inr (.inr (.inr (.inr fq)))))) (hq : P[i4]? = some (x1, .inr (6, [.int mu, .ref sp, .ref wa, .ref wb, .ref l0, .ref jx]))) (hj : P[i5]? = some (jx, .inr (8, [.ref sj, .int t0, .int p0])))
    (b_9 : c0 ≤ 0 ∧ s0 ≤ 0)
    (m_9 : uI C.1 y_Ed_asNext (Cond.code y_Ed_asNext b_Ed_asNext 2 (some .int)) 1 0 0 [.ref h0, .int t0] (P) P_9)
    (k_9 : ∀ (r : Int32) (u : va_W), P_9 r u → zc_Ed_targetsOf C Post c0 s0 12 [(0, .ref h0), (1, .ref x1)] [.int r, .long 1] (u)) : zc_Ed_targetsOf C Post c0 s0 0 [(0, .ref h0), (1, .ref x1)] [] (P) := by
  obtain ⟨⟨l, dC, dI, k, a⟩, p, e, s, m, args, below, meth, c, A⟩ := C
  obtain ⟨hx, hb, hr, htz, hown, hlocks, hml, hE, hK, hA⟩ := X
  intro H locs ls hl hP hD hS
  have hl : lv_has ls 5 [(0, .ref h0), (1, .ref x1)] := hl
  have hP : va_P (dC, dI) classes (P) H := hP
  have hD : va_D A (P) := hD
  show W p l e (z_rm 3 0 0) s m args below meth c H locs c0 s0 _ (F0 m 0 ls [])
  refine lv_lconst (v := 1) hx hb d_Ed_targetsOf_0 (by decide) ?_
  refine lv_aload_n hx hb d_Ed_targetsOf_1 rfl (lv_at hl 0 rfl) ?_
  refine lv_aload_n hx hb d_Ed_targetsOf_2 rfl (lv_at hl 1 rfl) ?_
  refine va_getN (D := (dC, dI)) (ci := 6) (v := .ref jx) (C := R_Qu) (T := F_Qu) (N := 6) hx hb htz i_Qu hown hK hP (i4 + 0) hq rfl 5 (by decide) (va_Nw.use rfl (hE.2.1 _ kf_Ed_60)) (fun _ h9 => h9) rfl d_Ed_targetsOf_3 ?_
  refine va_getN (D := (dC, dI)) (ci := 8) (v := .int t0) (C := R_Ju) (T := F_Ju) (N := 3) hx hb htz i_Ju hown hK hP (i5 + 0) hj rfl 1 (by decide) (va_Nw.use rfl (hE.2.1 _ kf_Ed_64)) (fun _ h9 => h9) rfl d_Ed_targetsOf_6 ?_
  have hFc : ∀ q, va_A (P) H.size q → A q := fun q h => h.elim (fun z => by obtain ⟨i9, e9, h9⟩ := z; exact hD.2 i9 _ h9) (fun z => hA q (Nat.le_trans hS.1 z))
  refine va_calli (va_runV (As := [.int t0]) (rest := [.long 1]) ⟨hx, hb, hml, hown, htz⟩ (m_9 H.size) (cwV 1 htz (z_gV (fun _ h => h) km_Ed_48 in_Ed_asNext se_Ed_asNext ini_Ed m_Ed_asNext) rfl rfl rfl (by decide +kernel) ⟨(Nat.le_of_ble_eq_true rfl), (Nat.le_of_ble_eq_true rfl)⟩) ⟨z_blind, va_recv hK hP (ci := 3) (q0 := (i1 + 0)) rfl hf, fun U hU hW => ⟨rfl, by rw [hU], hE.call hS hFc hU hW, by rw [hU]; exact hP, va_K.moved hW.alike hK, (hD.weaken (fun _ _ _ _ => trivial))⟩⟩ rfl rfl hl.1 rfl (lv_room (Nat.le_of_ble_eq_true rfl)) d_Ed_targetsOf_9 b_9) hS (fun q _ h => hFc q h) hFc (fun r u t H1 locs ht hvm hw hB hz1 hk1 hS => ?_)
  obtain ⟨hP1, hK1, hD1⟩ := hB
  rw [ht] at hP1
  have hP := hP1
  have hD := hD1.weaken (fun _ q _ h => hFc _ h)
  exact k_9 r _ hw H1 locs ls (lv_sub hl [0, 1] rfl) hP hD hS
set_option maxHeartbeats 1000000 in
set_option maxRecDepth 100000 in
theorem k_Ed_targetsOf_12 {C : CT} (X : cM C "QuestionText$Edition" b_Ed_targetsOf 5 (some .long)) (Post : Int64 → va_W → Prop) (x1 : Nat) (y0 : Int32) (y1 : Int64) (P : va_W) (h0 : Nat) (qa : Nat) (ka : Nat) (es : Int32) (e1 : Int64) (e2 : Int64) (e3 : Int64) (fq : Nat → Option Nat) (fk : Nat → Option Nat) (mu : Int32) (sp : Nat) (wa : Nat) (wb : Nat) (l0 : Nat) (jx : Nat) (sj : Nat) (t0 : Int32) (p0 : Int32) (i1 : Nat) (i2 : Nat) (i4 : Nat) (i5 : Nat) (c0 s0 : Nat) (hf : P[i1]? = some (h0, .inr (3, [.ref qa, .ref ka, .int es, .long e1, .long e2, .long e3]))) (hqa : P[i2]? = some (qa, .inl (C.1.2.2.2.1 3, 61, .inr (.inr (.inr (.inr fq)))))) (hq : P[i4]? = some (x1, .inr (6, [.int mu, .ref sp, .ref wa, .ref wb, .ref l0, .ref jx]))) (hj : P[i5]? = some (jx, .inr (8, [.ref sj, .int t0, .int p0])))
    (k_17 : zc_Ed_targetsOf C Post c0 s0 17 [(0, .ref h0), (1, .ref x1), (2, .long (y1 <<< (y0.toInt64 &&& 63))), (4, .int 0)] [] (P)) : zc_Ed_targetsOf C Post c0 s0 12 [(0, .ref h0), (1, .ref x1)] [.int y0, .long y1] (P) := by
  obtain ⟨⟨l, dC, dI, k, a⟩, p, e, s, m, args, below, meth, c, A⟩ := C
  obtain ⟨hx, hb, hr, htz, hown, hlocks, hml, hE, hK, hA⟩ := X
  intro H locs ls hl hP hD hS
  have hl : lv_has ls 5 [(0, .ref h0), (1, .ref x1)] := hl
  have hP : va_P (dC, dI) classes (P) H := hP
  have hD : va_D A (P) := hD
  show W p l e (z_rm 3 0 0) s m args below meth c H locs c0 s0 _ (F0 m 12 ls [.int y0, .long y1])
  refine lv_lshl (v := y1 <<< (y0.toInt64 &&& 63)) hx hb d_Ed_targetsOf_12 rfl ?_
  refine lv_lstore_n (lv' := [(2, .long (y1 <<< (y0.toInt64 &&& 63))), (0, .ref h0), (1, .ref x1)]) hx hb d_Ed_targetsOf_13 rfl hl (by decide) rfl (fun ls hl => ?_)
  refine lv_iconst (v := 0) hx hb d_Ed_targetsOf_14 (by decide) ?_
  refine lv_istore (lv' := [(4, .int 0), (2, .long (y1 <<< (y0.toInt64 &&& 63))), (0, .ref h0), (1, .ref x1)]) hx hb d_Ed_targetsOf_15 hl (by decide) rfl (fun ls hl => ?_)
  exact k_17 H locs ls (lv_sub hl [2, 3, 1, 0] rfl) hP hD hS
set_option maxHeartbeats 1000000 in
set_option maxRecDepth 100000 in
theorem k_Ed_targetsOf_17 {C : CT} (X : cM C "QuestionText$Edition" b_Ed_targetsOf 5 (some .long)) (Post : Int64 → va_W → Prop) {P_23 : Int32 → va_W → Prop} (x1 : Nat) (x2 : Int64) (x4 : Int32) (P : va_W) (h0 : Nat) (qa : Nat) (ka : Nat) (es : Int32) (e1 : Int64) (e2 : Int64) (e3 : Int64) (fq : Nat → Option Nat) (fk : Nat → Option Nat) (mu : Int32) (sp : Nat) (wa : Nat) (wb : Nat) (l0 : Nat) (jx : Nat) (sj : Nat) (t0 : Int32) (p0 : Int32) (i1 : Nat) (i2 : Nat) (i4 : Nat) (i5 : Nat) (c0 s0 : Nat) (hf : P[i1]? = some (h0, .inr (3, [.ref qa, .ref ka, .int es, .long e1, .long e2, .long e3]))) (hqa : P[i2]? = some (qa, .inl (C.1.2.2.2.1 3, 61, .inr (.inr (.inr (.inr fq)))))) (hq : P[i4]? = some (x1, .inr (6, [.int mu, .ref sp, .ref wa, .ref wb, .ref l0, .ref jx]))) (hj : P[i5]? = some (jx, .inr (8, [.ref sj, .int t0, .int p0])))
    (b_23 : c0 ≤ 0 ∧ s0 ≤ 0)
    (m_23 : uI C.1 y_AL_size (Cond.code y_AL_size b_AL_size 1 (some .int)) 0 0 0 [.ref l0] (P) P_23)
    (k_23 : ∀ (r : Int32) (u : va_W), P_23 r u → zc_Ed_targetsOf C Post c0 s0 28 [(0, .ref h0), (1, .ref x1), (2, .long x2), (4, .int x4)] [.int r, .int x4] (u))
    (r_23 : ∃ (i : Nat) (fs : List Value), P[i]? = some (l0, .inr (11, fs))) : zc_Ed_targetsOf C Post c0 s0 17 [(0, .ref h0), (1, .ref x1), (2, .long x2), (4, .int x4)] [] (P) := by
  obtain ⟨⟨l, dC, dI, k, a⟩, p, e, s, m, args, below, meth, c, A⟩ := C
  obtain ⟨hx, hb, hr, htz, hown, hlocks, hml, hE, hK, hA⟩ := X
  intro H locs ls hl hP hD hS
  have hl : lv_has ls 5 [(0, .ref h0), (1, .ref x1), (2, .long x2), (4, .int x4)] := hl
  have hP : va_P (dC, dI) classes (P) H := hP
  have hD : va_D A (P) := hD
  show W p l e (z_rm 3 0 0) s m args below meth c H locs c0 s0 _ (F0 m 17 ls [])
  refine lv_iload hx hb d_Ed_targetsOf_17 (lv_at hl 3 rfl) ?_
  refine lv_aload_n hx hb d_Ed_targetsOf_19 rfl (lv_at hl 1 rfl) ?_
  refine va_getN (D := (dC, dI)) (ci := 6) (v := .ref l0) (C := R_Qu) (T := F_Qu) (N := 6) hx hb htz i_Qu hown hK hP (i4 + 0) hq rfl 4 (by decide) (va_Nw.use rfl (hE.2.1 _ kf_Ed_69)) (fun _ h9 => h9) rfl d_Ed_targetsOf_20 ?_
  have hPf : va_P (dC, dI) classes (([]) ++ ((P) ++ ([]))) H := by rw [List.append_nil]; exact hP
  have hDf : va_D A (([]) ++ ((P) ++ ([]))) := by rw [List.append_nil]; exact hD
  have hFc := zfree hDf hS hA
  obtain ⟨i9, fs9, h9r⟩ := r_23
  have h9a := h9r
  refine va_callFi (va_runF (hK.1 11 _ rfl).2 (As := []) (rest := [.int x4]) ⟨hx, hb, hml, hown, htz⟩ (m_23 H.size) (va_cwF 0 htz (z_gF (fun _ h => h) km_Ed_73 sx_AL_size in_AL_size ini_AL m_AL_size) rfl rfl rfl (hE.1.1 (⟨"java/util/List", "size", "()I"⟩, y_AL_size) (by decide +kernel)) (by decide +kernel) ⟨(Nat.le_of_ble_eq_true rfl), (Nat.le_of_ble_eq_true rfl)⟩) ⟨z_blind, va_recv hK (zPc hPf) (ci := 11) (q0 := i9) rfl h9a, fun U hU hW => ⟨rfl, by rw [hU], hE.call hS hFc hU hW, by rw [hU]; exact (zPc hPf), va_K.moved hW.alike hK, (zDc hDf)⟩⟩ rfl rfl hl.1 rfl (lv_room (Nat.le_of_ble_eq_true rfl)) d_Ed_targetsOf_23 b_23) hS (fun q _ h => hFc q h) hFc (fun r u t H1 locs ht hvm hw hB hz1 hk1 hS => ?_)
  obtain ⟨hP1, hK1, hD1⟩ := hB
  rw [ht] at hP1
  obtain ⟨hP, hD⟩ := zf hPf hDf hk1 hFc hP1 hD1
  rw [List.append_nil] at hP hD
  exact k_23 r _ hw H1 locs ls (lv_sub hl [0, 1, 2, 3] rfl) hP hD hS
set_option maxHeartbeats 1000000 in
set_option maxRecDepth 100000 in
theorem k_Ed_targetsOf_28 {C : CT} (X : cM C "QuestionText$Edition" b_Ed_targetsOf 5 (some .long)) (Post : Int64 → va_W → Prop) {P_40 : Option Nat → va_W → Prop} (x1 : Nat) (x2 : Int64) (x4 : Int32) (y0 : Int32) (y1 : Int32) (P : va_W) (h0 : Nat) (qa : Nat) (ka : Nat) (es : Int32) (e1 : Int64) (e2 : Int64) (e3 : Int64) (fq : Nat → Option Nat) (fk : Nat → Option Nat) (mu : Int32) (sp : Nat) (wa : Nat) (wb : Nat) (l0 : Nat) (jx : Nat) (sj : Nat) (t0 : Int32) (p0 : Int32) (i1 : Nat) (i2 : Nat) (i4 : Nat) (i5 : Nat) (c0 s0 : Nat) (hf : P[i1]? = some (h0, .inr (3, [.ref qa, .ref ka, .int es, .long e1, .long e2, .long e3]))) (hqa : P[i2]? = some (qa, .inl (C.1.2.2.2.1 3, 61, .inr (.inr (.inr (.inr fq)))))) (hq : P[i4]? = some (x1, .inr (6, [.int mu, .ref sp, .ref wa, .ref wb, .ref l0, .ref jx]))) (hj : P[i5]? = some (jx, .inr (8, [.ref sj, .int t0, .int p0])))
    (b_64 : (y0 ≤ y1) → c0 ≤ 0 ∧ s0 ≤ 0)
    (q_64 : (y0 ≤ y1) → Post (x2) (P))
    (b_40 : (¬ y0 ≤ y1) → c0 ≤ 0 ∧ s0 ≤ 0)
    (m_40 : (¬ y0 ≤ y1) → uR C.1 y_AL_get (Cond.code y_AL_get b_AL_get 2 (some (.object "java/lang/Object"))) 2 0 0 [.ref l0, .int x4] (P) P_40)
    (k_40 : (¬ y0 ≤ y1) → ∀ (r : Option Nat) (u : va_W), P_40 r u → zc_Ed_targetsOf C Post c0 s0 45 [(0, .ref h0), (1, .ref x1), (2, .long x2), (4, .int x4)] [va_rf r, .ref h0, .long 1, .long x2] (u))
    (r_40 : (¬ y0 ≤ y1) → ∃ (i : Nat) (fs : List Value), P[i]? = some (l0, .inr (11, fs))) : zc_Ed_targetsOf C Post c0 s0 28 [(0, .ref h0), (1, .ref x1), (2, .long x2), (4, .int x4)] [.int y0, .int y1] (P) := by
  obtain ⟨⟨l, dC, dI, k, a⟩, p, e, s, m, args, below, meth, c, A⟩ := C
  obtain ⟨hx, hb, hr, htz, hown, hlocks, hml, hE, hK, hA⟩ := X
  intro H locs ls hl hP hD hS
  have hl : lv_has ls 5 [(0, .ref h0), (1, .ref x1), (2, .long x2), (4, .int x4)] := hl
  have hP : va_P (dC, dI) classes (P) H := hP
  have hD : va_D A (P) := hD
  show W p l e (z_rm 3 0 0) s m args below meth c H locs c0 s0 _ (F0 m 28 ls [.int y0, .int y1])
  refine lv_icmp_ge (tgt := 63) hx hb d_Ed_targetsOf_28 (by decide) (fun c_28 => ?_) (fun c_28 => ?_)
  · refine lv_lload_n hx hb d_Ed_targetsOf_63 rfl (lv_at hl 2 rfl) ?_
    refine W.widen (k := 0) (n := 0) (b_64 c_28).1 (b_64 c_28).2 ?_
    exact W.lret (v := x2) hx hb hr (fun t ht hW => ⟨⟨_, (P), rfl, (q_64 c_28), by rw [ht]; exact hP, va_K.moved hW.alike hK, hD⟩, hS.F ht⟩) hS.2.2 d_Ed_targetsOf_64
  · refine lv_lload_n hx hb d_Ed_targetsOf_31 rfl (lv_at hl 2 rfl) ?_
    refine lv_lconst (v := 1) hx hb d_Ed_targetsOf_32 (by decide) ?_
    refine lv_aload_n hx hb d_Ed_targetsOf_33 rfl (lv_at hl 0 rfl) ?_
    refine lv_aload_n hx hb d_Ed_targetsOf_34 rfl (lv_at hl 1 rfl) ?_
    refine va_getN (D := (dC, dI)) (ci := 6) (v := .ref l0) (C := R_Qu) (T := F_Qu) (N := 6) hx hb htz i_Qu hown hK hP (i4 + 0) hq rfl 4 (by decide) (va_Nw.use rfl (hE.2.1 _ kf_Ed_69)) (fun _ h9 => h9) rfl d_Ed_targetsOf_35 ?_
    refine lv_iload hx hb d_Ed_targetsOf_38 (lv_at hl 3 rfl) ?_
    have hPf : va_P (dC, dI) classes (([]) ++ ((P) ++ ([]))) H := by rw [List.append_nil]; exact hP
    have hDf : va_D A (([]) ++ ((P) ++ ([]))) := by rw [List.append_nil]; exact hD
    have hFc := zfree hDf hS hA
    obtain ⟨i9, fs9, h9r⟩ := (r_40 c_28)
    have h9a := h9r
    refine va_callFq (va_runF (hK.1 11 _ rfl).2 (As := [.int x4]) (rest := [.ref h0, .long 1, .long x2]) ⟨hx, hb, hml, hown, htz⟩ ((m_40 c_28) H.size) (va_cwF 1 htz (z_gF (fun _ h => h) km_Ed_78 sx_AL_get in_AL_get ini_AL m_AL_get) rfl rfl rfl (hE.1.1 (⟨"java/util/List", "get", "(I)Ljava/lang/Object;"⟩, y_AL_get) (by decide +kernel)) (by decide +kernel) ⟨(Nat.le_of_ble_eq_true rfl), (Nat.le_of_ble_eq_true rfl)⟩) ⟨z_blind, va_recv hK (zPc hPf) (ci := 11) (q0 := i9) rfl h9a, fun U hU hW => ⟨rfl, by rw [hU], hE.call hS hFc hU hW, by rw [hU]; exact (zPc hPf), va_K.moved hW.alike hK, (zDc hDf)⟩⟩ rfl rfl hl.1 rfl (lv_room (Nat.le_of_ble_eq_true rfl)) d_Ed_targetsOf_40 (b_40 c_28)) hS (fun q _ h => hFc q h) hFc (fun r u t H1 locs ht hvm hw hB hz1 hk1 hS => ?_)
    obtain ⟨hP1, hK1, hD1⟩ := hB
    rw [ht] at hP1
    obtain ⟨hP, hD⟩ := zf hPf hDf hk1 hFc hP1 hD1
    rw [List.append_nil] at hP hD
    exact (k_40 c_28) r _ hw H1 locs ls (lv_sub hl [0, 1, 2, 3] rfl) hP hD hS
set_option maxHeartbeats 1000000 in
set_option maxRecDepth 100000 in
theorem k_Ed_targetsOf_45 {C : CT} (X : cM C "QuestionText$Edition" b_Ed_targetsOf 5 (some .long)) (Post : Int64 → va_W → Prop) {P_51 : Int32 → va_W → Prop} (x1 : Nat) (x2 : Int64) (x4 : Int32) (y0 : Nat) (y2 : Int64) (y3 : Int64) (P : va_W) (h0 : Nat) (qa : Nat) (ka : Nat) (es : Int32) (e1 : Int64) (e2 : Int64) (e3 : Int64) (fq : Nat → Option Nat) (fk : Nat → Option Nat) (mu : Int32) (sp : Nat) (wa : Nat) (wb : Nat) (l0 : Nat) (jx : Nat) (sj : Nat) (t0 : Int32) (p0 : Int32) (s6 : Nat) (t6 : Int32) (p6 : Int32) (i1 : Nat) (i2 : Nat) (i4 : Nat) (i5 : Nat) (i6 : Nat) (c0 s0 : Nat) (hf : P[i1]? = some (h0, .inr (3, [.ref qa, .ref ka, .int es, .long e1, .long e2, .long e3]))) (hqa : P[i2]? = some (qa, .inl (C.1.2.2.2.1 3, 61, .inr (.inr (.inr (.inr fq)))))) (hq : P[i4]? = some (x1, .inr (6, [.int mu, .ref sp, .ref wa, .ref wb, .ref l0, .ref jx]))) (hj : P[i5]? = some (jx, .inr (8, [.ref sj, .int t0, .int p0]))) (hy : P[i6]? = some (y0, .inr (8, [.ref s6, .int t6, .int p6])))
    (b_51 : c0 ≤ 0 ∧ s0 ≤ 0)
    (m_51 : uI C.1 y_Ed_asNext (Cond.code y_Ed_asNext b_Ed_asNext 2 (some .int)) 1 0 0 [.ref h0, .int t6] (P) P_51)
    (k_51 : ∀ (r : Int32) (u : va_W), P_51 r u → zc_Ed_targetsOf C Post c0 s0 54 [(0, .ref h0), (1, .ref x1), (2, .long x2), (4, .int x4)] [.int r, .long y2, .long y3] (u)) : zc_Ed_targetsOf C Post c0 s0 45 [(0, .ref h0), (1, .ref x1), (2, .long x2), (4, .int x4)] [.ref y0, .ref h0, .long y2, .long y3] (P) := by
  obtain ⟨⟨l, dC, dI, k, a⟩, p, e, s, m, args, below, meth, c, A⟩ := C
  obtain ⟨hx, hb, hr, htz, hown, hlocks, hml, hE, hK, hA⟩ := X
  intro H locs ls hl hP hD hS
  have hl : lv_has ls 5 [(0, .ref h0), (1, .ref x1), (2, .long x2), (4, .int x4)] := hl
  have hP : va_P (dC, dI) classes (P) H := hP
  have hD : va_D A (P) := hD
  show W p l e (z_rm 3 0 0) s m args below meth c H locs c0 s0 _ (F0 m 45 ls [.ref y0, .ref h0, .long y2, .long y3])
  refine va_castY hx hb hown (htz _ kc_Ed_65) (hE.2.1 _ cs_Ju) (va_recv hK hP (ci := 8) (q0 := (i6 + 0)) rfl hy) d_Ed_targetsOf_45 ?_
  refine va_getN (D := (dC, dI)) (ci := 8) (v := .int t6) (C := R_Ju) (T := F_Ju) (N := 3) hx hb htz i_Ju hown hK hP (i6 + 0) hy rfl 1 (by decide) (va_Nw.use rfl (hE.2.1 _ kf_Ed_64)) (fun _ h9 => h9) rfl d_Ed_targetsOf_48 ?_
  have hFc : ∀ q, va_A (P) H.size q → A q := fun q h => h.elim (fun z => by obtain ⟨i9, e9, h9⟩ := z; exact hD.2 i9 _ h9) (fun z => hA q (Nat.le_trans hS.1 z))
  refine va_calli (va_runV (As := [.int t6]) (rest := [.long y2, .long y3]) ⟨hx, hb, hml, hown, htz⟩ (m_51 H.size) (cwV 1 htz (z_gV (fun _ h => h) km_Ed_48 in_Ed_asNext se_Ed_asNext ini_Ed m_Ed_asNext) rfl rfl rfl (by decide +kernel) ⟨(Nat.le_of_ble_eq_true rfl), (Nat.le_of_ble_eq_true rfl)⟩) ⟨z_blind, va_recv hK hP (ci := 3) (q0 := (i1 + 0)) rfl hf, fun U hU hW => ⟨rfl, by rw [hU], hE.call hS hFc hU hW, by rw [hU]; exact hP, va_K.moved hW.alike hK, (hD.weaken (fun _ _ _ _ => trivial))⟩⟩ rfl rfl hl.1 rfl (lv_room (Nat.le_of_ble_eq_true rfl)) d_Ed_targetsOf_51 b_51) hS (fun q _ h => hFc q h) hFc (fun r u t H1 locs ht hvm hw hB hz1 hk1 hS => ?_)
  obtain ⟨hP1, hK1, hD1⟩ := hB
  rw [ht] at hP1
  have hP := hP1
  have hD := hD1.weaken (fun _ q _ h => hFc _ h)
  exact k_51 r _ hw H1 locs ls (lv_sub hl [0, 1, 2, 3] rfl) hP hD hS
set_option maxHeartbeats 1000000 in
set_option maxRecDepth 100000 in
theorem k_Ed_targetsOf_54 {C : CT} (X : cM C "QuestionText$Edition" b_Ed_targetsOf 5 (some .long)) (Post : Int64 → va_W → Prop) (x1 : Nat) (x2 : Int64) (x4 : Int32) (y0 : Int32) (y1 : Int64) (y2 : Int64) (P : va_W) (h0 : Nat) (qa : Nat) (ka : Nat) (es : Int32) (e1 : Int64) (e2 : Int64) (e3 : Int64) (fq : Nat → Option Nat) (fk : Nat → Option Nat) (mu : Int32) (sp : Nat) (wa : Nat) (wb : Nat) (l0 : Nat) (jx : Nat) (sj : Nat) (t0 : Int32) (p0 : Int32) (i1 : Nat) (i2 : Nat) (i4 : Nat) (i5 : Nat) (c0 s0 : Nat) (hf : P[i1]? = some (h0, .inr (3, [.ref qa, .ref ka, .int es, .long e1, .long e2, .long e3]))) (hqa : P[i2]? = some (qa, .inl (C.1.2.2.2.1 3, 61, .inr (.inr (.inr (.inr fq)))))) (hq : P[i4]? = some (x1, .inr (6, [.int mu, .ref sp, .ref wa, .ref wb, .ref l0, .ref jx]))) (hj : P[i5]? = some (jx, .inr (8, [.ref sj, .int t0, .int p0])))
    (k_17 : zc_Ed_targetsOf C Post c0 s0 17 [(0, .ref h0), (1, .ref x1), (2, .long (y2 ||| (y1 <<< (y0.toInt64 &&& 63)))), (4, .int (x4 + 1))] [] (P)) : zc_Ed_targetsOf C Post c0 s0 54 [(0, .ref h0), (1, .ref x1), (2, .long x2), (4, .int x4)] [.int y0, .long y1, .long y2] (P) := by
  obtain ⟨⟨l, dC, dI, k, a⟩, p, e, s, m, args, below, meth, c, A⟩ := C
  obtain ⟨hx, hb, hr, htz, hown, hlocks, hml, hE, hK, hA⟩ := X
  intro H locs ls hl hP hD hS
  have hl : lv_has ls 5 [(0, .ref h0), (1, .ref x1), (2, .long x2), (4, .int x4)] := hl
  have hP : va_P (dC, dI) classes (P) H := hP
  have hD : va_D A (P) := hD
  show W p l e (z_rm 3 0 0) s m args below meth c H locs c0 s0 _ (F0 m 54 ls [.int y0, .long y1, .long y2])
  refine lv_lshl (v := y1 <<< (y0.toInt64 &&& 63)) hx hb d_Ed_targetsOf_54 rfl ?_
  refine lv_lor hx hb d_Ed_targetsOf_55 ?_
  refine lv_lstore_n (lv' := [(2, .long (y2 ||| (y1 <<< (y0.toInt64 &&& 63)))), (0, .ref h0), (1, .ref x1), (4, .int x4)]) hx hb d_Ed_targetsOf_56 rfl hl (by decide) rfl (fun ls hl => ?_)
  refine lv_iinc (v := x4 + 1) (lv' := [(4, .int (x4 + 1)), (2, .long (y2 ||| (y1 <<< (y0.toInt64 &&& 63)))), (0, .ref h0), (1, .ref x1)]) hx hb d_Ed_targetsOf_57 hl (k := 3) rfl (rfl) (by decide) rfl (fun ls hl => ?_)
  refine lv_goto (tgt := 17) hx hb d_Ed_targetsOf_60 (by decide) ?_
  exact k_17 H locs ls (lv_sub hl [2, 3, 1, 0] rfl) hP hD hS
set_option maxHeartbeats 1000000 in
set_option maxRecDepth 100000 in
theorem e_Ed_targetsOf (T : ST) (Post : Int64 → va_W → Prop) (x1 : Nat) (P : va_W) (h0 : Nat) (qa : Nat) (ka : Nat) (es : Int32) (e1 : Int64) (e2 : Int64) (e3 : Int64) (fq : Nat → Option Nat) (fk : Nat → Option Nat) (mu : Int32) (sp : Nat) (wa : Nat) (wb : Nat) (l0 : Nat) (jx : Nat) (sj : Nat) (t0 : Int32) (p0 : Int32) (h : ∀ C : CT, C.1 = T → cM C "QuestionText$Edition" b_Ed_targetsOf 5 (some .long) → zc_Ed_targetsOf C Post 0 0 0 [(0, .ref h0), (1, .ref x1)] [] (P)) : uL T y_Ed_targetsOf (Cond.code y_Ed_targetsOf b_Ed_targetsOf 5 (some .long)) 3 0 0 [.ref h0, .ref x1] (P) Post := by
  obtain ⟨l, dC, dI, k, a⟩ := T
  intro sz
  refine Met.ofW (cc := b_Ed_targetsOf) (maxL := 5) (ret := (some .long)) (by decide) rfl ?_
  intro p e s m args below meth c s₁ B hml hv
  obtain ⟨rfl, hsz, hE, hP, hK, hD0⟩ := hv
  have hts := atoms_spec (ws := (Cond.code y_Ed_targetsOf b_Ed_targetsOf 5 (some .long)) :: z_T) B.pre
  have htz : ∀ w ∈ z_T, w.before _ s = true := fun w h => hts w (z_cons w h)
  subst hsz
  have hD := hD0.self (sz := s.heap.size)
  generalize hAe : va_A (P) s.heap.size = A at hD hE ⊢
  have hA : ∀ q : Nat, s.heap.size ≤ q → A q := fun q h => by rw [← hAe]; exact Or.inr h
  have hl := lv_entry ([.ref h0, .ref x1]) (n := 5) (Nat.le_of_ble_eq_true rfl)
  rw [lg_entry_eq]
  generalize (lg_sl ([.ref h0, .ref x1]) ++ List.replicate (5 - (lg_sl ([.ref h0, .ref x1])).length) Slot.unset).toArray = ls at hl ⊢
  exact h ((l, dC, dI, k, a), p, e, s, m, ([.ref h0, .ref x1] : List Value).toArray, below, meth, c, A) rfl ⟨B.exec, B.bytes, B.returns, htz, findClass_of_methodNamed B.named, B.notSynchronized, hml, hE, hK, hA⟩ s.heap [] ls hl hP hD va_S.rf
def zc_Q_hasMember (C : CT) (Post : Int32 → va_W → Prop) (c0 s0 pc : Nat) (loc : List (Nat × Value)) (st : List Value) (ws : va_W) : Prop := zW C (z_rm 0 0 0) 3 (oI C 0 0 Post) c0 s0 pc loc st ws
set_option maxHeartbeats 1000000 in
set_option maxRecDepth 100000 in
theorem k_Q_hasMember_0 {C : CT} (X : cM C "QuestionText" b_Q_hasMember 3 (some .boolean)) (Post : Int32 → va_W → Prop) (x0 : Int64) (x2 : Int32) (c0 s0 : Nat)
    (k_15 : (lg_cmp (((x0.toUInt64 >>> (x2.toInt64.toUInt64 &&& Int64.toUInt64 63)).toInt64) &&& 1) 0 = 0) → zc_Q_hasMember C Post c0 s0 15 [(0, .long x0), (2, .int x2)] [.int 0] ([]))
    (k_15_1 : (¬ lg_cmp (((x0.toUInt64 >>> (x2.toInt64.toUInt64 &&& Int64.toUInt64 63)).toInt64) &&& 1) 0 = 0) → zc_Q_hasMember C Post c0 s0 15 [(0, .long x0), (2, .int x2)] [.int 1] ([])) : zc_Q_hasMember C Post c0 s0 0 [(0, .long x0), (2, .int x2)] [] ([]) := by
  obtain ⟨⟨l, dC, dI, k, a⟩, p, e, s, m, args, below, meth, c, A⟩ := C
  obtain ⟨hx, hb, hr, htz, hown, hlocks, hml, hE, hK, hA⟩ := X
  intro H locs ls hl hP hD hS
  have hl : lv_has ls 3 [(0, .long x0), (2, .int x2)] := hl
  have hP : va_P (dC, dI) classes ([]) H := hP
  have hD : va_D A ([]) := hD
  show W p l e (z_rm 0 0 0) s m args below meth c H locs c0 s0 _ (F0 m 0 ls [])
  refine lv_lload_n hx hb d_Q_hasMember_0 rfl (lv_at hl 0 rfl) ?_
  refine lv_iload_n hx hb d_Q_hasMember_1 rfl (lv_at hl 1 rfl) ?_
  refine lv_lushr (v := (x0.toUInt64 >>> (x2.toInt64.toUInt64 &&& Int64.toUInt64 63)).toInt64) hx hb d_Q_hasMember_2 rfl ?_
  refine lv_lconst (v := 1) hx hb d_Q_hasMember_3 (by decide) ?_
  refine lv_land hx hb d_Q_hasMember_4 ?_
  refine lv_lconst (v := 0) hx hb d_Q_hasMember_5 (by decide) ?_
  refine W.lcmp hx hb d_Q_hasMember_6 ?_
  refine lv_if_eq (tgt := 14) hx hb d_Q_hasMember_7 (by decide) (fun c_7 => ?_) (fun c_7 => ?_)
  · refine lv_iconst (v := 0) hx hb d_Q_hasMember_14 (by decide) ?_
    exact (k_15 c_7) H locs ls (lv_sub hl [0, 1] rfl) hP hD hS
  · refine lv_iconst (v := 1) hx hb d_Q_hasMember_10 (by decide) ?_
    refine lv_goto (tgt := 15) hx hb d_Q_hasMember_11 (by decide) ?_
    exact (k_15_1 c_7) H locs ls (lv_sub hl [0, 1] rfl) hP hD hS
set_option maxHeartbeats 1000000 in
set_option maxRecDepth 100000 in
theorem k_Q_hasMember_15 {C : CT} (X : cM C "QuestionText" b_Q_hasMember 3 (some .boolean)) (Post : Int32 → va_W → Prop) (x0 : Int64) (x2 : Int32) (y0 : Int32) (c0 s0 : Nat)
    (b_15 : c0 ≤ 0 ∧ s0 ≤ 0)
    (q_15 : Post (y0) ([]))
    (z_15 : narrow .boolean (.int (y0)) = .int (y0)) : zc_Q_hasMember C Post c0 s0 15 [(0, .long x0), (2, .int x2)] [.int y0] ([]) := by
  obtain ⟨⟨l, dC, dI, k, a⟩, p, e, s, m, args, below, meth, c, A⟩ := C
  obtain ⟨hx, hb, hr, htz, hown, hlocks, hml, hE, hK, hA⟩ := X
  intro H locs ls hl hP hD hS
  have hl : lv_has ls 3 [(0, .long x0), (2, .int x2)] := hl
  have hP : va_P (dC, dI) classes ([]) H := hP
  have hD : va_D A ([]) := hD
  show W p l e (z_rm 0 0 0) s m args below meth c H locs c0 s0 _ (F0 m 15 ls [.int y0])
  refine W.widen (k := 0) (n := 0) b_15.1 b_15.2 ?_
  exact W.zret (v := y0) (ty := .boolean) hx hb hr z_15 (fun t ht hW => ⟨⟨_, ([]), rfl, q_15, by rw [ht]; exact hP, va_K.moved hW.alike hK, hD⟩, hS.F ht⟩) hS.2.2 d_Q_hasMember_15
set_option maxHeartbeats 1000000 in
set_option maxRecDepth 100000 in
theorem e_Q_hasMember (T : ST) (Post : Int32 → va_W → Prop) (x0 : Int64) (x2 : Int32) (h : ∀ C : CT, C.1 = T → cM C "QuestionText" b_Q_hasMember 3 (some .boolean) → zc_Q_hasMember C Post 0 0 0 [(0, .long x0), (2, .int x2)] [] ([])) : uI T y_Q_hasMember (Cond.code y_Q_hasMember b_Q_hasMember 3 (some .boolean)) 0 0 0 [.long x0, .int x2] ([]) Post := by
  obtain ⟨l, dC, dI, k, a⟩ := T
  intro sz
  refine Met.ofW (cc := b_Q_hasMember) (maxL := 3) (ret := (some .boolean)) (by decide) rfl ?_
  intro p e s m args below meth c s₁ B hml hv
  obtain ⟨rfl, hsz, hE, hP, hK, hD0⟩ := hv
  have hts := atoms_spec (ws := (Cond.code y_Q_hasMember b_Q_hasMember 3 (some .boolean)) :: z_T) B.pre
  have htz : ∀ w ∈ z_T, w.before _ s = true := fun w h => hts w (z_cons w h)
  subst hsz
  have hD := hD0.self (sz := s.heap.size)
  generalize hAe : va_A ([]) s.heap.size = A at hD hE ⊢
  have hA : ∀ q : Nat, s.heap.size ≤ q → A q := fun q h => by rw [← hAe]; exact Or.inr h
  have hl := lv_entry ([.long x0, .int x2]) (n := 3) (Nat.le_of_ble_eq_true rfl)
  rw [lg_entry_eq]
  generalize (lg_sl ([.long x0, .int x2]) ++ List.replicate (3 - (lg_sl ([.long x0, .int x2])).length) Slot.unset).toArray = ls at hl ⊢
  exact h ((l, dC, dI, k, a), p, e, s, m, ([.long x0, .int x2] : List Value).toArray, below, meth, c, A) rfl ⟨B.exec, B.bytes, B.returns, htz, findClass_of_methodNamed B.named, B.notSynchronized, hml, hE, hK, hA⟩ s.heap [] ls hl hP hD va_S.rf
def zc_Ed_waysByJumps (C : CT) (Post : Option Nat → va_W → Prop) (c0 s0 pc : Nat) (loc : List (Nat × Value)) (st : List Value) (ws : va_W) : Prop := zW C (z_rm 4 1 61) 4 (oR C 1 61 Post) c0 s0 pc loc st ws
set_option maxHeartbeats 1000000 in
set_option maxRecDepth 100000 in
theorem k_Ed_waysByJumps_0 {C : CT} (X : cM C "QuestionText$Edition" b_Ed_waysByJumps 4 (some (.array .long))) (Post : Option Nat → va_W → Prop) (P : va_W) (h0 : Nat) (qa : Nat) (ka : Nat) (es : Int32) (e1 : Int64) (e2 : Int64) (e3 : Int64) (fq : Nat → Option Nat) (fk : Nat → Option Nat) (lf : Nat → Int64) (i1 : Nat) (i2 : Nat) (c0 s0 : Nat) (hf : P[i1]? = some (h0, .inr (3, [.ref qa, .ref ka, .int es, .long e1, .long e2, .long e3]))) (hqa : P[i2]? = some (qa, .inl (C.1.2.2.2.1 3, 61, .inr (.inr (.inr (.inr fq))))))
    (b_2 : c0 + 1 ≤ 1 ∧ s0 + 61 ≤ 61)
    (k_7 : ∀ w2 : Nat, zc_Ed_waysByJumps C Post (c0 + 1) (s0 + 61) 7 [(0, .ref h0), (1, .ref w2), (2, .int 1)] [] ([(w2, .inl (C.1.2.2.2.1 1, 61, .inr (.inl (fun _ => 0))))] ++ (P))) : zc_Ed_waysByJumps C Post c0 s0 0 [(0, .ref h0)] [] (P) := by
  obtain ⟨⟨l, dC, dI, k, a⟩, p, e, s, m, args, below, meth, c, A⟩ := C
  obtain ⟨hx, hb, hr, htz, hown, hlocks, hml, hE, hK, hA⟩ := X
  intro H locs ls hl hP hD hS
  have hl : lv_has ls 4 [(0, .ref h0)] := hl
  have hP : va_P (dC, dI) classes (P) H := hP
  have hD : va_D A (P) := hD
  show W p l e (z_rm 4 1 61) s m args below meth c H locs c0 s0 _ (F0 m 0 ls [])
  refine lv_bipush (v := 61) hx hb d_Ed_waysByJumps_0 (by decide) ?_
  refine z_newa (atype := .long) (n := 61) (a0 := (61, .inr (.inl (fun _ => 0)))) hx hb (htz (.arrayClass .long) az_long) (ty := .long) rfl hK hP hD hS hA 1 rfl (N' := 61) (fun _ => rfl) (by decide) (by decide) (Nat.le_of_ble_eq_true rfl) b_2.1 b_2.2 d_Ed_waysByJumps_2 (fun w2 H hP hD hS => ?_)
  replace hP := zsP hP
  replace hD := zsD hD
  have hP : va_P (dC, dI) classes ([(w2, .inl (k 1, 61, .inr (.inl (fun _ => 0))))] ++ (P)) H := hP
  have hD : va_D A ([(w2, .inl (k 1, 61, .inr (.inl (fun _ => 0))))] ++ (P)) := hD
  refine lv_astore_n (lv' := [(1, .ref w2), (0, .ref h0)]) hx hb d_Ed_waysByJumps_4 rfl hl (by decide) rfl (fun ls hl => ?_)
  refine lv_iconst (v := 1) hx hb d_Ed_waysByJumps_5 (by decide) ?_
  refine lv_istore_n (lv' := [(2, .int 1), (1, .ref w2), (0, .ref h0)]) hx hb d_Ed_waysByJumps_6 rfl hl (by decide) rfl (fun ls hl => ?_)
  exact (k_7 w2) H locs ls (lv_sub hl [2, 1, 0] rfl) hP hD hS
set_option maxHeartbeats 1000000 in
set_option maxRecDepth 100000 in
theorem k_Ed_waysByJumps_7 {C : CT} (X : cM C "QuestionText$Edition" b_Ed_waysByJumps 4 (some (.array .long))) (Post : Option Nat → va_W → Prop) {P_35 : Int64 → va_W → Prop} (x2 : Int32) (w2 : Nat) (P : va_W) (h0 : Nat) (qa : Nat) (ka : Nat) (es : Int32) (e1 : Int64) (e2 : Int64) (e3 : Int64) (fq : Nat → Option Nat) (fk : Nat → Option Nat) (lf : Nat → Int64) (i1 : Nat) (i2 : Nat) (c0 s0 : Nat) (hf : P[i1]? = some (h0, .inr (3, [.ref qa, .ref ka, .int es, .long e1, .long e2, .long e3]))) (hqa : P[i2]? = some (qa, .inl (C.1.2.2.2.1 3, 61, .inr (.inr (.inr (.inr fq))))))
    (k_47 : (60 < x2) → zc_Ed_waysByJumps C Post c0 s0 47 [(0, .ref h0), (1, .ref w2), (2, .int 1)] [] ([(w2, .inl (C.1.2.2.2.1 1, 61, .inr (.inl lf)))] ++ (P)))
    (h_20 : (¬ 60 < x2) → vp_in (x2) 61)
    (h_34 : (¬ 60 < x2) → (¬ fq (x2 : Int32).toNatClampNeg = none) → vp_in (x2) 61)
    (b_35 : (¬ 60 < x2) → (¬ fq (x2 : Int32).toNatClampNeg = none) → c0 ≤ 1 ∧ s0 ≤ 61)
    (m_35 : (¬ 60 < x2) → (¬ fq (x2 : Int32).toNatClampNeg = none) → uL C.1 y_Ed_targetsOf (Cond.code y_Ed_targetsOf b_Ed_targetsOf 5 (some .long)) 3 0 0 [.ref h0, va_rf (fq (x2 : Int32).toNatClampNeg)] ([(w2, .inl (C.1.2.2.2.1 1, 61, .inr (.inl lf)))] ++ (P)) P_35)
    (k_35 : (¬ 60 < x2) → (¬ fq (x2 : Int32).toNatClampNeg = none) → ∀ (r : Int64) (u : va_W), P_35 r u → zc_Ed_waysByJumps C Post c0 s0 38 [(0, .ref h0), (1, .ref w2), (2, .int x2)] [.long r, .int x2, .ref w2] (u))
    (k_38 : (¬ 60 < x2) → (fq (x2 : Int32).toNatClampNeg = none) → zc_Ed_waysByJumps C Post c0 s0 38 [(0, .ref h0), (1, .ref w2), (2, .int x2)] [.long 0, .int x2, .ref w2] ([(w2, .inl (C.1.2.2.2.1 1, 61, .inr (.inl lf)))] ++ (P))) : zc_Ed_waysByJumps C Post c0 s0 7 [(0, .ref h0), (1, .ref w2), (2, .int x2)] [] ([(w2, .inl (C.1.2.2.2.1 1, 61, .inr (.inl lf)))] ++ (P)) := by
  obtain ⟨⟨l, dC, dI, k, a⟩, p, e, s, m, args, below, meth, c, A⟩ := C
  obtain ⟨hx, hb, hr, htz, hown, hlocks, hml, hE, hK, hA⟩ := X
  intro H locs ls hl hP hD hS
  have hl : lv_has ls 4 [(0, .ref h0), (1, .ref w2), (2, .int x2)] := hl
  have hP : va_P (dC, dI) classes ([(w2, .inl (k 1, 61, .inr (.inl lf)))] ++ (P)) H := hP
  have hD : va_D A ([(w2, .inl (k 1, 61, .inr (.inl lf)))] ++ (P)) := hD
  show W p l e (z_rm 4 1 61) s m args below meth c H locs c0 s0 _ (F0 m 7 ls [])
  refine lv_iload_n hx hb d_Ed_waysByJumps_7 rfl (lv_at hl 2 rfl) ?_
  refine lv_bipush (v := 60) hx hb d_Ed_waysByJumps_8 (by decide) ?_
  refine lv_icmp_gt (tgt := 45) hx hb d_Ed_waysByJumps_10 (by decide) (fun c_10 => ?_) (fun c_10 => ?_)
  · refine lv_iconst (v := 1) hx hb d_Ed_waysByJumps_45 (by decide) ?_
    refine lv_istore_n (lv' := [(2, .int 1), (0, .ref h0), (1, .ref w2)]) hx hb d_Ed_waysByJumps_46 rfl hl (by decide) rfl (fun ls hl => ?_)
    exact (k_47 c_10) H locs ls (lv_sub hl [1, 2, 0] rfl) hP hD hS
  · refine lv_aload_n hx hb d_Ed_waysByJumps_13 rfl (lv_at hl 1 rfl) ?_
    refine lv_iload_n hx hb d_Ed_waysByJumps_14 rfl (lv_at hl 2 rfl) ?_
    refine lv_aload_n hx hb d_Ed_waysByJumps_15 rfl (lv_at hl 0 rfl) ?_
    refine va_get (D := (dC, dI)) (ci := 3) (v := .ref qa) (C := R_Ed) (T := F_Ed) (N := 6) hx hb htz i_Ed hown hK hP (i1 + 1) hf rfl 0 (by decide) (htz _ kf_Ed_11) (fun _ h9 => h9) rfl d_Ed_waysByJumps_16 ?_
    refine lv_iload_n hx hb d_Ed_waysByJumps_19 rfl (lv_at hl 2 rfl) ?_
    refine va_aldq hx hb hK hP (i2 + 1) 3 hqa rfl (h_20 c_10) d_Ed_waysByJumps_20 ?_
    refine qv_nn (tgt := 28) hx hb d_Ed_waysByJumps_21 (by decide) (fun c_21 => ?_) (fun c_21 => ?_)
    · refine lv_aload_n hx hb d_Ed_waysByJumps_28 rfl (lv_at hl 0 rfl) ?_
      refine lv_aload_n hx hb d_Ed_waysByJumps_29 rfl (lv_at hl 0 rfl) ?_
      refine va_get (D := (dC, dI)) (ci := 3) (v := .ref qa) (C := R_Ed) (T := F_Ed) (N := 6) hx hb htz i_Ed hown hK hP (i1 + 1) hf rfl 0 (by decide) (htz _ kf_Ed_11) (fun _ h9 => h9) rfl d_Ed_waysByJumps_30 ?_
      refine lv_iload_n hx hb d_Ed_waysByJumps_33 rfl (lv_at hl 2 rfl) ?_
      refine va_aldq hx hb hK hP (i2 + 1) 3 hqa rfl (h_34 c_10 c_21) d_Ed_waysByJumps_34 ?_
      have hFc : ∀ q, va_A ([(w2, .inl (k 1, 61, .inr (.inl lf)))] ++ (P)) H.size q → A q := fun q h => h.elim (fun z => by obtain ⟨i9, e9, h9⟩ := z; exact hD.2 i9 _ h9) (fun z => hA q (Nat.le_trans hS.1 z))
      refine va_calll (va_runV (As := [va_rf (fq (x2 : Int32).toNatClampNeg)]) (rest := [.int x2, .ref w2]) ⟨hx, hb, hml, hown, htz⟩ ((m_35 c_10 c_21) H.size) (cwV 1 htz (z_gV (fun _ h => h) km_Ed_56 in_Ed_targetsOf se_Ed_targetsOf ini_Ed m_Ed_targetsOf) rfl rfl rfl (by decide +kernel) ⟨(Nat.le_of_ble_eq_true rfl), (Nat.le_of_ble_eq_true rfl)⟩) ⟨z_blind, va_recv hK hP (ci := 3) (q0 := (i1 + 1)) rfl hf, fun U hU hW => ⟨rfl, by rw [hU], hE.call hS hFc hU hW, by rw [hU]; exact hP, va_K.moved hW.alike hK, (hD.weaken (fun _ _ _ _ => trivial))⟩⟩ rfl rfl hl.1 rfl (lv_room (Nat.le_of_ble_eq_true rfl)) d_Ed_waysByJumps_35 (b_35 c_10 c_21)) hS (fun q _ h => hFc q h) hFc (fun r u t H1 locs ht hvm hw hB hz1 hk1 hS => ?_)
      obtain ⟨hP1, hK1, hD1⟩ := hB
      rw [ht] at hP1
      have hP := hP1
      have hD := hD1.weaken (fun _ q _ h => hFc _ h)
      exact (k_35 c_10 c_21) r _ hw H1 locs ls (lv_sub hl [0, 1, 2] rfl) hP hD hS
    · refine lv_lconst (v := 0) hx hb d_Ed_waysByJumps_24 (by decide) ?_
      refine lv_goto (tgt := 38) hx hb d_Ed_waysByJumps_25 (by decide) ?_
      exact (k_38 c_10 c_21) H locs ls (lv_sub hl [0, 1, 2] rfl) hP hD hS
set_option maxHeartbeats 1000000 in
set_option maxRecDepth 100000 in
theorem k_Ed_waysByJumps_38 {C : CT} (X : cM C "QuestionText$Edition" b_Ed_waysByJumps 4 (some (.array .long))) (Post : Option Nat → va_W → Prop) (x2 : Int32) (y0 : Int64) (y1 : Int32) (w2 : Nat) (P : va_W) (h0 : Nat) (qa : Nat) (ka : Nat) (es : Int32) (e1 : Int64) (e2 : Int64) (e3 : Int64) (fq : Nat → Option Nat) (fk : Nat → Option Nat) (lf : Nat → Int64) (i1 : Nat) (i2 : Nat) (c0 s0 : Nat) (hf : P[i1]? = some (h0, .inr (3, [.ref qa, .ref ka, .int es, .long e1, .long e2, .long e3]))) (hqa : P[i2]? = some (qa, .inl (C.1.2.2.2.1 3, 61, .inr (.inr (.inr (.inr fq))))))
    (h_38 : vp_in (y1) 61)
    (k_7 : zc_Ed_waysByJumps C Post c0 s0 7 [(0, .ref h0), (1, .ref w2), (2, .int (x2 + 1))] [] ([(w2, .inl (C.1.2.2.2.1 1, 61, .inr (.inl (vp_updL lf (y1 : Int32).toNatClampNeg y0))))] ++ (P))) : zc_Ed_waysByJumps C Post c0 s0 38 [(0, .ref h0), (1, .ref w2), (2, .int x2)] [.long y0, .int y1, .ref w2] ([(w2, .inl (C.1.2.2.2.1 1, 61, .inr (.inl lf)))] ++ (P)) := by
  obtain ⟨⟨l, dC, dI, k, a⟩, p, e, s, m, args, below, meth, c, A⟩ := C
  obtain ⟨hx, hb, hr, htz, hown, hlocks, hml, hE, hK, hA⟩ := X
  intro H locs ls hl hP hD hS
  have hl : lv_has ls 4 [(0, .ref h0), (1, .ref w2), (2, .int x2)] := hl
  have hP : va_P (dC, dI) classes ([(w2, .inl (k 1, 61, .inr (.inl lf)))] ++ (P)) H := hP
  have hD : va_D A ([(w2, .inl (k 1, 61, .inr (.inl lf)))] ++ (P)) := hD
  show W p l e (z_rm 4 1 61) s m args below meth c H locs c0 s0 _ (F0 m 38 ls [.long y0, .int y1, .ref w2])
  refine va_last hx hb hK hP hD hS 0 1 rfl rfl h_38 d_Ed_waysByJumps_38 (fun H locs hP hD hS => ?_)
  have hP : va_P (dC, dI) classes ([(w2, .inl (k 1, 61, .inr (.inl (vp_updL lf (y1 : Int32).toNatClampNeg y0))))] ++ (P)) H := hP
  have hD : va_D A ([(w2, .inl (k 1, 61, .inr (.inl (vp_updL lf (y1 : Int32).toNatClampNeg y0))))] ++ (P)) := hD
  refine lv_iinc (v := x2 + 1) (lv' := [(2, .int (x2 + 1)), (0, .ref h0), (1, .ref w2)]) hx hb d_Ed_waysByJumps_39 hl (k := 2) rfl (rfl) (by decide) rfl (fun ls hl => ?_)
  refine lv_goto (tgt := 7) hx hb d_Ed_waysByJumps_42 (by decide) ?_
  exact k_7 H locs ls (lv_sub hl [1, 2, 0] rfl) hP hD hS
set_option maxHeartbeats 1000000 in
set_option maxRecDepth 100000 in
theorem k_Ed_waysByJumps_47 {C : CT} (X : cM C "QuestionText$Edition" b_Ed_waysByJumps 4 (some (.array .long))) (Post : Option Nat → va_W → Prop) (x2 : Int32) (w2 : Nat) (P : va_W) (h0 : Nat) (qa : Nat) (ka : Nat) (es : Int32) (e1 : Int64) (e2 : Int64) (e3 : Int64) (fq : Nat → Option Nat) (fk : Nat → Option Nat) (lf : Nat → Int64) (i1 : Nat) (i2 : Nat) (c0 s0 : Nat) (hf : P[i1]? = some (h0, .inr (3, [.ref qa, .ref ka, .int es, .long e1, .long e2, .long e3]))) (hqa : P[i2]? = some (qa, .inl (C.1.2.2.2.1 3, 61, .inr (.inr (.inr (.inr fq))))))
    (b_93 : (60 < x2) → c0 ≤ 1 ∧ s0 ≤ 61)
    (q_93 : (60 < x2) → Post (some w2) ([(w2, .inl (C.1.2.2.2.1 1, 61, .inr (.inl lf)))] ++ (P)))
    (k_55 : (¬ 60 < x2) → zc_Ed_waysByJumps C Post c0 s0 55 [(0, .ref h0), (1, .ref w2), (2, .int x2), (3, .int 1)] [] ([(w2, .inl (C.1.2.2.2.1 1, 61, .inr (.inl lf)))] ++ (P))) : zc_Ed_waysByJumps C Post c0 s0 47 [(0, .ref h0), (1, .ref w2), (2, .int x2)] [] ([(w2, .inl (C.1.2.2.2.1 1, 61, .inr (.inl lf)))] ++ (P)) := by
  obtain ⟨⟨l, dC, dI, k, a⟩, p, e, s, m, args, below, meth, c, A⟩ := C
  obtain ⟨hx, hb, hr, htz, hown, hlocks, hml, hE, hK, hA⟩ := X
  intro H locs ls hl hP hD hS
  have hl : lv_has ls 4 [(0, .ref h0), (1, .ref w2), (2, .int x2)] := hl
  have hP : va_P (dC, dI) classes ([(w2, .inl (k 1, 61, .inr (.inl lf)))] ++ (P)) H := hP
  have hD : va_D A ([(w2, .inl (k 1, 61, .inr (.inl lf)))] ++ (P)) := hD
  show W p l e (z_rm 4 1 61) s m args below meth c H locs c0 s0 _ (F0 m 47 ls [])
  refine lv_iload_n hx hb d_Ed_waysByJumps_47 rfl (lv_at hl 2 rfl) ?_
  refine lv_bipush (v := 60) hx hb d_Ed_waysByJumps_48 (by decide) ?_
  refine lv_icmp_gt (tgt := 92) hx hb d_Ed_waysByJumps_50 (by decide) (fun c_50 => ?_) (fun c_50 => ?_)
  · refine lv_aload_n hx hb d_Ed_waysByJumps_92 rfl (lv_at hl 1 rfl) ?_
    refine W.widen (k := 1) (n := 61) (b_93 c_50).1 (b_93 c_50).2 ?_
    exact W.aret (v := .ref w2) hx hb hr (Or.inr ⟨_, rfl⟩) (Or.inr ⟨_, rfl⟩) (fun t ht hW => ⟨⟨(some w2), ([(w2, .inl (k 1, 61, .inr (.inl lf)))] ++ (P)), rfl, (q_93 c_50), by rw [ht]; exact hP, va_K.moved hW.alike hK, hD⟩, hS.F ht⟩) hS.2.2 d_Ed_waysByJumps_93
  · refine lv_iconst (v := 1) hx hb d_Ed_waysByJumps_53 (by decide) ?_
    refine lv_istore_n (lv' := [(3, .int 1), (0, .ref h0), (1, .ref w2), (2, .int x2)]) hx hb d_Ed_waysByJumps_54 rfl hl (by decide) rfl (fun ls hl => ?_)
    exact (k_55 c_50) H locs ls (lv_sub hl [1, 2, 3, 0] rfl) hP hD hS
set_option maxHeartbeats 1000000 in
set_option maxRecDepth 100000 in
theorem k_Ed_waysByJumps_55 {C : CT} (X : cM C "QuestionText$Edition" b_Ed_waysByJumps 4 (some (.array .long))) (Post : Option Nat → va_W → Prop) {P_65 : Int32 → va_W → Prop} (x2 : Int32) (x3 : Int32) (w2 : Nat) (P : va_W) (h0 : Nat) (qa : Nat) (ka : Nat) (es : Int32) (e1 : Int64) (e2 : Int64) (e3 : Int64) (fq : Nat → Option Nat) (fk : Nat → Option Nat) (lf : Nat → Int64) (i1 : Nat) (i2 : Nat) (c0 s0 : Nat) (hf : P[i1]? = some (h0, .inr (3, [.ref qa, .ref ka, .int es, .long e1, .long e2, .long e3]))) (hqa : P[i2]? = some (qa, .inl (C.1.2.2.2.1 3, 61, .inr (.inr (.inr (.inr fq))))))
    (k_47 : (60 < x3) → zc_Ed_waysByJumps C Post c0 s0 47 [(0, .ref h0), (1, .ref w2), (2, .int (x2 + 1))] [] ([(w2, .inl (C.1.2.2.2.1 1, 61, .inr (.inl lf)))] ++ (P)))
    (h_63 : (¬ 60 < x3) → vp_in (x3) 61)
    (b_65 : (¬ 60 < x3) → c0 ≤ 1 ∧ s0 ≤ 61)
    (m_65 : (¬ 60 < x3) → uI C.1 y_Q_hasMember (Cond.code y_Q_hasMember b_Q_hasMember 3 (some .boolean)) 0 0 0 [.long (lf (x3 : Int32).toNatClampNeg), .int x2] ([]) P_65)
    (k_65 : (¬ 60 < x3) → ∀ (r : Int32) (u : va_W), P_65 r u → zc_Ed_waysByJumps C Post c0 s0 68 [(0, .ref h0), (1, .ref w2), (2, .int x2), (3, .int x3)] [.int r] ([(w2, .inl (C.1.2.2.2.1 1, 61, .inr (.inl lf)))] ++ (P))) : zc_Ed_waysByJumps C Post c0 s0 55 [(0, .ref h0), (1, .ref w2), (2, .int x2), (3, .int x3)] [] ([(w2, .inl (C.1.2.2.2.1 1, 61, .inr (.inl lf)))] ++ (P)) := by
  obtain ⟨⟨l, dC, dI, k, a⟩, p, e, s, m, args, below, meth, c, A⟩ := C
  obtain ⟨hx, hb, hr, htz, hown, hlocks, hml, hE, hK, hA⟩ := X
  intro H locs ls hl hP hD hS
  have hl : lv_has ls 4 [(0, .ref h0), (1, .ref w2), (2, .int x2), (3, .int x3)] := hl
  have hP : va_P (dC, dI) classes ([(w2, .inl (k 1, 61, .inr (.inl lf)))] ++ (P)) H := hP
  have hD : va_D A ([(w2, .inl (k 1, 61, .inr (.inl lf)))] ++ (P)) := hD
  show W p l e (z_rm 4 1 61) s m args below meth c H locs c0 s0 _ (F0 m 55 ls [])
  refine lv_iload_n hx hb d_Ed_waysByJumps_55 rfl (lv_at hl 3 rfl) ?_
  refine lv_bipush (v := 60) hx hb d_Ed_waysByJumps_56 (by decide) ?_
  refine lv_icmp_gt (tgt := 86) hx hb d_Ed_waysByJumps_58 (by decide) (fun c_58 => ?_) (fun c_58 => ?_)
  · refine lv_iinc (v := x2 + 1) (lv' := [(2, .int (x2 + 1)), (0, .ref h0), (1, .ref w2), (3, .int x3)]) hx hb d_Ed_waysByJumps_86 hl (k := 2) rfl (rfl) (by decide) rfl (fun ls hl => ?_)
    refine lv_goto (tgt := 47) hx hb d_Ed_waysByJumps_89 (by decide) ?_
    exact (k_47 c_58) H locs ls (lv_sub hl [1, 2, 0] rfl) hP hD hS
  · refine lv_aload_n hx hb d_Ed_waysByJumps_61 rfl (lv_at hl 1 rfl) ?_
    refine lv_iload_n hx hb d_Ed_waysByJumps_62 rfl (lv_at hl 3 rfl) ?_
    refine va_lald hx hb hK hP 0 1 rfl rfl (h_63 c_58) d_Ed_waysByJumps_63 ?_
    refine lv_iload_n hx hb d_Ed_waysByJumps_64 rfl (lv_at hl 2 rfl) ?_
    have hFc : ∀ q, va_A [] H.size q → A q := fun q h => h.elim (fun z => by obtain ⟨i9, e9, h9⟩ := z; cases h9) (fun z => hA q (Nat.le_trans hS.1 z))
    refine va_calli (va_runSN (As := [.long (lf (x3 : Int32).toNatClampNeg), .int x2]) (rest := []) ⟨hx, hb, hml, hown, htz⟩ ((m_65 c_58) H.size) ⟨va_cnB 2 htz (z_gI (fun _ h => h) m_Q_hasMember) rfl rfl rfl (hE.2.1 _ km_Ed_52) (htz _ ini_Q) (by decide +kernel) ⟨(Nat.le_of_ble_eq_true rfl), (Nat.le_of_ble_eq_true rfl)⟩, htz _ st_Q_hasMember, trivial⟩ ⟨z_blind, fun U hU hW => ⟨rfl, by rw [hU], hE.call hS hFc hU hW, by rw [hU]; exact zP0, va_K.moved hW.alike hK, zD0⟩⟩ rfl rfl hl.1 rfl (lv_room (Nat.le_of_ble_eq_true rfl)) d_Ed_waysByJumps_65 (b_65 c_58)) hS (fun q _ h => hFc q h) hFc (fun r u t H1 locs ht hvm hw hB hz1 hk1 hS => ?_)
    obtain ⟨hP1, hK1, hD1⟩ := hB
    rw [ht] at hP1
    have hP : va_P (dC, dI) classes ([(w2, .inl (k 1, 61, .inr (.inl lf)))] ++ (P)) H1 := hP.kept (fun j q hq => hk1 q.1 (hP j q hq).lt (fun z => z.elim (fun z => by obtain ⟨i9, e9, h9⟩ := z; cases h9) (fun z => absurd z (Nat.not_le.mpr (hP j q hq).lt))))
    exact (k_65 c_58) r _ hw H1 locs ls (lv_sub hl [0, 1, 2, 3] rfl) hP hD hS
set_option maxHeartbeats 1000000 in
set_option maxRecDepth 100000 in
theorem k_Ed_waysByJumps_68 {C : CT} (X : cM C "QuestionText$Edition" b_Ed_waysByJumps 4 (some (.array .long))) (Post : Option Nat → va_W → Prop) (x2 : Int32) (x3 : Int32) (y0 : Int32) (w2 : Nat) (P : va_W) (h0 : Nat) (qa : Nat) (ka : Nat) (es : Int32) (e1 : Int64) (e2 : Int64) (e3 : Int64) (fq : Nat → Option Nat) (fk : Nat → Option Nat) (lf : Nat → Int64) (i1 : Nat) (i2 : Nat) (c0 s0 : Nat) (hf : P[i1]? = some (h0, .inr (3, [.ref qa, .ref ka, .int es, .long e1, .long e2, .long e3]))) (hqa : P[i2]? = some (qa, .inl (C.1.2.2.2.1 3, 61, .inr (.inr (.inr (.inr fq))))))
    (k_80 : (y0 = 0) → zc_Ed_waysByJumps C Post c0 s0 80 [(0, .ref h0), (1, .ref w2), (2, .int x2), (3, .int x3)] [] ([(w2, .inl (C.1.2.2.2.1 1, 61, .inr (.inl lf)))] ++ (P)))
    (h_74 : (¬ y0 = 0) → vp_in (x3) 61)
    (h_77 : (¬ y0 = 0) → vp_in (x2) 61)
    (h_79 : (¬ y0 = 0) → vp_in (x3) 61)
    (k_80_1 : (¬ y0 = 0) → zc_Ed_waysByJumps C Post c0 s0 80 [(0, .ref h0), (1, .ref w2), (2, .int x2), (3, .int x3)] [] ([(w2, .inl (C.1.2.2.2.1 1, 61, .inr (.inl (vp_updL lf (x3 : Int32).toNatClampNeg ((lf (x3 : Int32).toNatClampNeg) ||| (lf (x2 : Int32).toNatClampNeg))))))] ++ (P))) : zc_Ed_waysByJumps C Post c0 s0 68 [(0, .ref h0), (1, .ref w2), (2, .int x2), (3, .int x3)] [.int y0] ([(w2, .inl (C.1.2.2.2.1 1, 61, .inr (.inl lf)))] ++ (P)) := by
  obtain ⟨⟨l, dC, dI, k, a⟩, p, e, s, m, args, below, meth, c, A⟩ := C
  obtain ⟨hx, hb, hr, htz, hown, hlocks, hml, hE, hK, hA⟩ := X
  intro H locs ls hl hP hD hS
  have hl : lv_has ls 4 [(0, .ref h0), (1, .ref w2), (2, .int x2), (3, .int x3)] := hl
  have hP : va_P (dC, dI) classes ([(w2, .inl (k 1, 61, .inr (.inl lf)))] ++ (P)) H := hP
  have hD : va_D A ([(w2, .inl (k 1, 61, .inr (.inl lf)))] ++ (P)) := hD
  show W p l e (z_rm 4 1 61) s m args below meth c H locs c0 s0 _ (F0 m 68 ls [.int y0])
  refine lv_if_eq (tgt := 80) hx hb d_Ed_waysByJumps_68 (by decide) (fun c_68 => ?_) (fun c_68 => ?_)
  · exact (k_80 c_68) H locs ls (lv_sub hl [0, 1, 2, 3] rfl) hP hD hS
  · refine lv_aload_n hx hb d_Ed_waysByJumps_71 rfl (lv_at hl 1 rfl) ?_
    refine lv_iload_n hx hb d_Ed_waysByJumps_72 rfl (lv_at hl 3 rfl) ?_
    refine lv_dup2_11 hx hb d_Ed_waysByJumps_73 rfl rfl ?_
    refine va_lald hx hb hK hP 0 1 rfl rfl (h_74 c_68) d_Ed_waysByJumps_74 ?_
    refine lv_aload_n hx hb d_Ed_waysByJumps_75 rfl (lv_at hl 1 rfl) ?_
    refine lv_iload_n hx hb d_Ed_waysByJumps_76 rfl (lv_at hl 2 rfl) ?_
    refine va_lald hx hb hK hP 0 1 rfl rfl (h_77 c_68) d_Ed_waysByJumps_77 ?_
    refine lv_lor hx hb d_Ed_waysByJumps_78 ?_
    refine va_last hx hb hK hP hD hS 0 1 rfl rfl (h_79 c_68) d_Ed_waysByJumps_79 (fun H locs hP hD hS => ?_)
    have hP : va_P (dC, dI) classes ([(w2, .inl (k 1, 61, .inr (.inl (vp_updL lf (x3 : Int32).toNatClampNeg ((lf (x3 : Int32).toNatClampNeg) ||| (lf (x2 : Int32).toNatClampNeg))))))] ++ (P)) H := hP
    have hD : va_D A ([(w2, .inl (k 1, 61, .inr (.inl (vp_updL lf (x3 : Int32).toNatClampNeg ((lf (x3 : Int32).toNatClampNeg) ||| (lf (x2 : Int32).toNatClampNeg))))))] ++ (P)) := hD
    exact (k_80_1 c_68) H locs ls (lv_sub hl [0, 1, 2, 3] rfl) hP hD hS
set_option maxHeartbeats 1000000 in
set_option maxRecDepth 100000 in
theorem k_Ed_waysByJumps_80 {C : CT} (X : cM C "QuestionText$Edition" b_Ed_waysByJumps 4 (some (.array .long))) (Post : Option Nat → va_W → Prop) (x2 : Int32) (x3 : Int32) (w2 : Nat) (P : va_W) (h0 : Nat) (qa : Nat) (ka : Nat) (es : Int32) (e1 : Int64) (e2 : Int64) (e3 : Int64) (fq : Nat → Option Nat) (fk : Nat → Option Nat) (lf : Nat → Int64) (i1 : Nat) (i2 : Nat) (c0 s0 : Nat) (hf : P[i1]? = some (h0, .inr (3, [.ref qa, .ref ka, .int es, .long e1, .long e2, .long e3]))) (hqa : P[i2]? = some (qa, .inl (C.1.2.2.2.1 3, 61, .inr (.inr (.inr (.inr fq))))))
    (k_55 : zc_Ed_waysByJumps C Post c0 s0 55 [(0, .ref h0), (1, .ref w2), (2, .int x2), (3, .int (x3 + 1))] [] ([(w2, .inl (C.1.2.2.2.1 1, 61, .inr (.inl lf)))] ++ (P))) : zc_Ed_waysByJumps C Post c0 s0 80 [(0, .ref h0), (1, .ref w2), (2, .int x2), (3, .int x3)] [] ([(w2, .inl (C.1.2.2.2.1 1, 61, .inr (.inl lf)))] ++ (P)) := by
  obtain ⟨⟨l, dC, dI, k, a⟩, p, e, s, m, args, below, meth, c, A⟩ := C
  obtain ⟨hx, hb, hr, htz, hown, hlocks, hml, hE, hK, hA⟩ := X
  intro H locs ls hl hP hD hS
  have hl : lv_has ls 4 [(0, .ref h0), (1, .ref w2), (2, .int x2), (3, .int x3)] := hl
  have hP : va_P (dC, dI) classes ([(w2, .inl (k 1, 61, .inr (.inl lf)))] ++ (P)) H := hP
  have hD : va_D A ([(w2, .inl (k 1, 61, .inr (.inl lf)))] ++ (P)) := hD
  show W p l e (z_rm 4 1 61) s m args below meth c H locs c0 s0 _ (F0 m 80 ls [])
  refine lv_iinc (v := x3 + 1) (lv' := [(3, .int (x3 + 1)), (0, .ref h0), (1, .ref w2), (2, .int x2)]) hx hb d_Ed_waysByJumps_80 hl (k := 3) rfl (rfl) (by decide) rfl (fun ls hl => ?_)
  refine lv_goto (tgt := 55) hx hb d_Ed_waysByJumps_83 (by decide) ?_
  exact k_55 H locs ls (lv_sub hl [1, 2, 3, 0] rfl) hP hD hS
set_option maxHeartbeats 1000000 in
set_option maxRecDepth 100000 in
theorem e_Ed_waysByJumps (T : ST) (Post : Option Nat → va_W → Prop) (P : va_W) (h0 : Nat) (qa : Nat) (ka : Nat) (es : Int32) (e1 : Int64) (e2 : Int64) (e3 : Int64) (fq : Nat → Option Nat) (fk : Nat → Option Nat) (lf : Nat → Int64) (h : ∀ C : CT, C.1 = T → cM C "QuestionText$Edition" b_Ed_waysByJumps 4 (some (.array .long)) → zc_Ed_waysByJumps C Post 0 0 0 [(0, .ref h0)] [] (P)) : uR T y_Ed_waysByJumps (Cond.code y_Ed_waysByJumps b_Ed_waysByJumps 4 (some (.array .long))) 4 1 61 [.ref h0] (P) Post := by
  obtain ⟨l, dC, dI, k, a⟩ := T
  intro sz
  refine Met.ofW (cc := b_Ed_waysByJumps) (maxL := 4) (ret := (some (.array .long))) (by decide) rfl ?_
  intro p e s m args below meth c s₁ B hml hv
  obtain ⟨rfl, hsz, hE, hP, hK, hD0⟩ := hv
  have hts := atoms_spec (ws := (Cond.code y_Ed_waysByJumps b_Ed_waysByJumps 4 (some (.array .long))) :: z_T) B.pre
  have htz : ∀ w ∈ z_T, w.before _ s = true := fun w h => hts w (z_cons w h)
  subst hsz
  have hD := hD0.self (sz := s.heap.size)
  generalize hAe : va_A (P) s.heap.size = A at hD hE ⊢
  have hA : ∀ q : Nat, s.heap.size ≤ q → A q := fun q h => by rw [← hAe]; exact Or.inr h
  have hl := lv_entry ([.ref h0]) (n := 4) (Nat.le_of_ble_eq_true rfl)
  rw [lg_entry_eq]
  generalize (lg_sl ([.ref h0]) ++ List.replicate (4 - (lg_sl ([.ref h0])).length) Slot.unset).toArray = ls at hl ⊢
  exact h ((l, dC, dI, k, a), p, e, s, m, ([.ref h0] : List Value).toArray, below, meth, c, A) rfl ⟨B.exec, B.bytes, B.returns, htz, findClass_of_methodNamed B.named, B.notSynchronized, hml, hE, hK, hA⟩ s.heap [] ls hl hP hD va_S.rf
