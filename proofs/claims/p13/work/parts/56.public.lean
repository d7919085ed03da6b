def s_q (k : Nat → ClassId) (a : Nat → Nat) (f : FT) (r : Nat → Nat → Option Nat) (c : Nat) : va_W := [(a 24, .inr (0, [.ref (a 20), .ref (a 25), .ref (a 26), .ref c, .int (f 0), .int (f 1)])), (a 25, .inl (k 5, 9, .inr (.inr (.inr (.inr (r 0))))))]
theorem th_Q_45 : ∀ w ∈ vx_atS "QuestionText" 45 "java/lang/IllegalArgumentException" ["java/lang/RuntimeException", "java/lang/Exception"], w ∈ lw_tbl ∧ (goodWord w || z_isN w) = true := by decide +kernel
theorem tg_Q_41_45 : ∀ w ∈ Cond.classLink "QuestionText" 41 "java/lang/IllegalArgumentException" :: Cond.initialized "java/lang/IllegalArgumentException" :: vx_atS "QuestionText" 45 "java/lang/IllegalArgumentException" ["java/lang/RuntimeException", "java/lang/Exception"], vx_ot w = true := by decide +kernel
theorem th_Q_55 : ∀ w ∈ vx_atS "QuestionText" 55 "java/lang/IllegalStateException" ["java/lang/RuntimeException", "java/lang/Exception"], w ∈ lw_tbl ∧ (goodWord w || z_isN w) = true := by decide +kernel
theorem tg_Q_51_55 : ∀ w ∈ Cond.classLink "QuestionText" 51 "java/lang/IllegalStateException" :: Cond.initialized "java/lang/IllegalStateException" :: vx_atS "QuestionText" 55 "java/lang/IllegalStateException" ["java/lang/RuntimeException", "java/lang/Exception"], vx_ot w = true := by decide +kernel
def zc_Q_memberOf (C : CT) (Post : Int32 → va_W → Prop) (c0 s0 pc : Nat) (loc : List (Nat × Value)) (st : List Value) (ws : va_W) : Prop := zW C (z_rm 1 0 0) 5 (oI C 0 0 Post) c0 s0 pc loc st ws
set_option maxHeartbeats 1000000 in
set_option maxRecDepth 100000 in
theorem k_Q_memberOf_0 {C : CT} (X : cM C "QuestionText" b_Q_memberOf 5 (some .int)) (Post : Int32 → va_W → Prop) (x0 : Int64) (x2 : Int32) (c0 s0 : Nat)
    (k_5 : zc_Q_memberOf C Post c0 s0 5 [(0, .long x0), (2, .int x2), (3, .int 0), (4, .int 1)] [] ([])) : zc_Q_memberOf C Post c0 s0 0 [(0, .long x0), (2, .int x2)] [] ([]) := by
  obtain ⟨⟨l, dC, dI, k, a⟩, p, e, s, m, args, below, meth, c, A⟩ := C
  obtain ⟨hx, hb, hr, htz, hown, hlocks, hml, hE, hK, hA⟩ := X
  intro H locs ls hl hP hD hS
  have hl : lv_has ls 5 [(0, .long x0), (2, .int x2)] := hl
  have hP : va_P (dC, dI) classes ([]) H := hP
  have hD : va_D A ([]) := hD
  show W p l e (z_rm 1 0 0) s m args below meth c H locs c0 s0 _ (F0 m 0 ls [])
  refine lv_iconst (v := 0) hx hb d_Q_memberOf_0 (by decide) ?_
  refine lv_istore_n (lv' := [(3, .int 0), (0, .long x0), (2, .int x2)]) hx hb d_Q_memberOf_1 rfl hl (by decide) rfl (fun ls hl => ?_)
  refine lv_iconst (v := 1) hx hb d_Q_memberOf_2 (by decide) ?_
  refine lv_istore (lv' := [(4, .int 1), (3, .int 0), (0, .long x0), (2, .int x2)]) hx hb d_Q_memberOf_3 hl (by decide) rfl (fun ls hl => ?_)
  exact k_5 H locs ls (lv_sub hl [2, 3, 1, 0] rfl) hP hD hS
set_option maxHeartbeats 1000000 in
set_option maxRecDepth 100000 in
theorem k_Q_memberOf_5 {C : CT} (X : cM C "QuestionText" b_Q_memberOf 5 (some .int)) (Post : Int32 → va_W → Prop) {P_15 : Int32 → va_W → Prop} (x0 : Int64) (x2 : Int32) (x3 : Int32) (x4 : Int32) (c0 s0 : Nat)
    (b_39 : (60 < x4) → c0 ≤ 0 ∧ s0 ≤ 0)
    (q_39 : (60 < x4) → Post (0) ([]))
    (b_15 : (¬ 60 < x4) → c0 ≤ 0 ∧ s0 ≤ 0)
    (m_15 : (¬ 60 < x4) → uI C.1 y_Q_hasMember (Cond.code y_Q_hasMember b_Q_hasMember 3 (some .boolean)) 0 0 0 [.long x0, .int x4] ([]) P_15)
    (k_15 : (¬ 60 < x4) → ∀ (r : Int32) (u : va_W), P_15 r u → zc_Q_memberOf C Post c0 s0 18 [(0, .long x0), (2, .int x2), (3, .int x3), (4, .int x4)] [.int r] ([])) : zc_Q_memberOf C Post c0 s0 5 [(0, .long x0), (2, .int x2), (3, .int x3), (4, .int x4)] [] ([]) := by
  obtain ⟨⟨l, dC, dI, k, a⟩, p, e, s, m, args, below, meth, c, A⟩ := C
  obtain ⟨hx, hb, hr, htz, hown, hlocks, hml, hE, hK, hA⟩ := X
  intro H locs ls hl hP hD hS
  have hl : lv_has ls 5 [(0, .long x0), (2, .int x2), (3, .int x3), (4, .int x4)] := hl
  have hP : va_P (dC, dI) classes ([]) H := hP
  have hD : va_D A ([]) := hD
  show W p l e (z_rm 1 0 0) s m args below meth c H locs c0 s0 _ (F0 m 5 ls [])
  refine lv_iload hx hb d_Q_memberOf_5 (lv_at hl 3 rfl) ?_
  refine lv_bipush (v := 60) hx hb d_Q_memberOf_7 (by decide) ?_
  refine lv_icmp_gt (tgt := 38) hx hb d_Q_memberOf_9 (by decide) (fun c_9 => ?_) (fun c_9 => ?_)
  · refine lv_iconst (v := 0) hx hb d_Q_memberOf_38 (by decide) ?_
    refine W.widen (k := 0) (n := 0) (b_39 c_9).1 (b_39 c_9).2 ?_
    exact W.iret (v := 0) hx hb hr (fun t ht hW => ⟨⟨_, ([]), rfl, (q_39 c_9), by rw [ht]; exact hP, va_K.moved hW.alike hK, hD⟩, hS.F ht⟩) hS.2.2 d_Q_memberOf_39
  · refine lv_lload_n hx hb d_Q_memberOf_12 rfl (lv_at hl 0 rfl) ?_
    refine lv_iload hx hb d_Q_memberOf_13 (lv_at hl 3 rfl) ?_
    have hFc : ∀ q, va_A [] H.size q → A q := fun q h => h.elim (fun z => by obtain ⟨i9, e9, h9⟩ := z; cases h9) (fun z => hA q (Nat.le_trans hS.1 z))
    refine va_calli (va_runS (As := [.long x0, .int x4]) (rest := []) ⟨hx, hb, hml, hown, htz⟩ ((m_15 c_9) H.size) (va_cwS 2 htz (z_gS (fun _ h => h) km_Q_186 st_Q_hasMember ini_Q m_Q_hasMember) rfl rfl rfl (by decide +kernel) ⟨(Nat.le_of_ble_eq_true rfl), (Nat.le_of_ble_eq_true rfl)⟩) ⟨z_blind, fun U hU hW => ⟨rfl, by rw [hU], hE.call hS hFc hU hW, by rw [hU]; exact zP0, va_K.moved hW.alike hK, zD0⟩⟩ rfl rfl hl.1 rfl (lv_room (Nat.le_of_ble_eq_true rfl)) d_Q_memberOf_15 (b_15 c_9)) hS (fun q _ h => hFc q h) hFc (fun r u t H1 locs ht hvm hw hB hz1 hk1 hS => ?_)
    obtain ⟨hP1, hK1, hD1⟩ := hB
    rw [ht] at hP1
    have hP : va_P (dC, dI) classes ([]) H1 := hP.kept (fun j q hq => hk1 q.1 (hP j q hq).lt (fun z => z.elim (fun z => by obtain ⟨i9, e9, h9⟩ := z; cases h9) (fun z => absurd z (Nat.not_le.mpr (hP j q hq).lt))))
    exact (k_15 c_9) r _ hw H1 locs ls (lv_sub hl [0, 1, 2, 3] rfl) hP hD hS
set_option maxHeartbeats 1000000 in
set_option maxRecDepth 100000 in
theorem k_Q_memberOf_18 {C : CT} (X : cM C "QuestionText" b_Q_memberOf 5 (some .int)) (Post : Int32 → va_W → Prop) (x0 : Int64) (x2 : Int32) (x3 : Int32) (x4 : Int32) (y0 : Int32) (c0 s0 : Nat)
    (k_32 : (y0 = 0) → zc_Q_memberOf C Post c0 s0 32 [(0, .long x0), (2, .int x2), (3, .int x3), (4, .int x4)] [] ([]))
    (k_32_1 : (¬ y0 = 0) → (¬ x3 = x2) → zc_Q_memberOf C Post c0 s0 32 [(0, .long x0), (2, .int x2), (3, .int (x3 + 1)), (4, .int x4)] [] ([]))
    (b_28 : (¬ y0 = 0) → (x3 = x2) → c0 ≤ 0 ∧ s0 ≤ 0)
    (q_28 : (¬ y0 = 0) → (x3 = x2) → Post (x4) ([])) : zc_Q_memberOf C Post c0 s0 18 [(0, .long x0), (2, .int x2), (3, .int x3), (4, .int x4)] [.int y0] ([]) := by
  obtain ⟨⟨l, dC, dI, k, a⟩, p, e, s, m, args, below, meth, c, A⟩ := C
  obtain ⟨hx, hb, hr, htz, hown, hlocks, hml, hE, hK, hA⟩ := X
  intro H locs ls hl hP hD hS
  have hl : lv_has ls 5 [(0, .long x0), (2, .int x2), (3, .int x3), (4, .int x4)] := hl
  have hP : va_P (dC, dI) classes ([]) H := hP
  have hD : va_D A ([]) := hD
  show W p l e (z_rm 1 0 0) s m args below meth c H locs c0 s0 _ (F0 m 18 ls [.int y0])
  refine lv_if_eq (tgt := 32) hx hb d_Q_memberOf_18 (by decide) (fun c_18 => ?_) (fun c_18 => ?_)
  · exact (k_32 c_18) H locs ls (lv_sub hl [0, 1, 2, 3] rfl) hP hD hS
  · refine lv_iload_n hx hb d_Q_memberOf_21 rfl (lv_at hl 2 rfl) ?_
    refine lv_iload_n hx hb d_Q_memberOf_22 rfl (lv_at hl 1 rfl) ?_
    refine lv_icmp_ne (tgt := 29) hx hb d_Q_memberOf_23 (by decide) (fun c_23 => ?_) (fun c_23 => ?_)
    · refine lv_iinc (v := x3 + 1) (lv' := [(3, .int (x3 + 1)), (0, .long x0), (2, .int x2), (4, .int x4)]) hx hb d_Q_memberOf_29 hl (k := 2) rfl (rfl) (by decide) rfl (fun ls hl => ?_)
      exact (k_32_1 c_18 c_23) H locs ls (lv_sub hl [1, 2, 0, 3] rfl) hP hD hS
    · refine lv_iload hx hb d_Q_memberOf_26 (lv_at hl 3 rfl) ?_
      refine W.widen (k := 0) (n := 0) (b_28 c_18 c_23).1 (b_28 c_18 c_23).2 ?_
      exact W.iret (v := x4) hx hb hr (fun t ht hW => ⟨⟨_, ([]), rfl, (q_28 c_18 c_23), by rw [ht]; exact hP, va_K.moved hW.alike hK, hD⟩, hS.F ht⟩) hS.2.2 d_Q_memberOf_28
set_option maxHeartbeats 1000000 in
set_option maxRecDepth 100000 in
theorem k_Q_memberOf_32 {C : CT} (X : cM C "QuestionText" b_Q_memberOf 5 (some .int)) (Post : Int32 → va_W → Prop) (x0 : Int64) (x2 : Int32) (x3 : Int32) (x4 : Int32) (c0 s0 : Nat)
    (k_5 : zc_Q_memberOf C Post c0 s0 5 [(0, .long x0), (2, .int x2), (3, .int x3), (4, .int (x4 + 1))] [] ([])) : zc_Q_memberOf C Post c0 s0 32 [(0, .long x0), (2, .int x2), (3, .int x3), (4, .int x4)] [] ([]) := by
  obtain ⟨⟨l, dC, dI, k, a⟩, p, e, s, m, args, below, meth, c, A⟩ := C
  obtain ⟨hx, hb, hr, htz, hown, hlocks, hml, hE, hK, hA⟩ := X
  intro H locs ls hl hP hD hS
  have hl : lv_has ls 5 [(0, .long x0), (2, .int x2), (3, .int x3), (4, .int x4)] := hl
  have hP : va_P (dC, dI) classes ([]) H := hP
  have hD : va_D A ([]) := hD
  show W p l e (z_rm 1 0 0) s m args below meth c H locs c0 s0 _ (F0 m 32 ls [])
  refine lv_iinc (v := x4 + 1) (lv' := [(4, .int (x4 + 1)), (0, .long x0), (2, .int x2), (3, .int x3)]) hx hb d_Q_memberOf_32 hl (k := 3) rfl (rfl) (by decide) rfl (fun ls hl => ?_)
  refine lv_goto (tgt := 5) hx hb d_Q_memberOf_35 (by decide) ?_
  exact k_5 H locs ls (lv_sub hl [1, 2, 3, 0] rfl) hP hD hS
set_option maxHeartbeats 1000000 in
set_option maxRecDepth 100000 in
theorem e_Q_memberOf (T : ST) (Post : Int32 → va_W → Prop) (x0 : Int64) (x2 : Int32) (h : ∀ C : CT, C.1 = T → cM C "QuestionText" b_Q_memberOf 5 (some .int) → zc_Q_memberOf C Post 0 0 0 [(0, .long x0), (2, .int x2)] [] ([])) : uI T y_Q_memberOf (Cond.code y_Q_memberOf b_Q_memberOf 5 (some .int)) 1 0 0 [.long x0, .int x2] ([]) Post := by
  obtain ⟨l, dC, dI, k, a⟩ := T
  intro sz
  refine Met.ofW (cc := b_Q_memberOf) (maxL := 5) (ret := (some .int)) (by decide) rfl ?_
  intro p e s m args below meth c s₁ B hml hv
  obtain ⟨rfl, hsz, hE, hP, hK, hD0⟩ := hv
  have hts := atoms_spec (ws := (Cond.code y_Q_memberOf b_Q_memberOf 5 (some .int)) :: z_T) B.pre
  have htz : ∀ w ∈ z_T, w.before _ s = true := fun w h => hts w (z_cons w h)
  subst hsz
  have hD := hD0.self (sz := s.heap.size)
  generalize hAe : va_A ([]) s.heap.size = A at hD hE ⊢
  have hA : ∀ q : Nat, s.heap.size ≤ q → A q := fun q h => by rw [← hAe]; exact Or.inr h
  have hl := lv_entry ([.long x0, .int x2]) (n := 5) (Nat.le_of_ble_eq_true rfl)
  rw [lg_entry_eq]
  generalize (lg_sl ([.long x0, .int x2]) ++ List.replicate (5 - (lg_sl ([.long x0, .int x2])).length) Slot.unset).toArray = ls at hl ⊢
  exact h ((l, dC, dI, k, a), p, e, s, m, ([.long x0, .int x2] : List Value).toArray, below, meth, c, A) rfl ⟨B.exec, B.bytes, B.returns, htz, findClass_of_methodNamed B.named, B.notSynchronized, hml, hE, hK, hA⟩ s.heap [] ls hl hP hD va_S.rf
def zc_Q_place (C : CT) (Post : Int32 → va_W → Prop) (c0 s0 pc : Nat) (loc : List (Nat × Value)) (st : List Value) (ws : va_W) : Prop := zW C (z_rm 0 0 0) 1 (oI C 0 0 Post) c0 s0 pc loc st ws
set_option maxHeartbeats 1000000 in
set_option maxRecDepth 100000 in
theorem k_Q_place_0 {C : CT} (X : cM C "QuestionText" b_Q_place 1 (some .int)) (Post : Int32 → va_W → Prop) (f_q : FT) (r_q : Nat → Nat → Option Nat) (c_q : Nat) (f_t : FT) (g_t : GT) (r_r : Nat → Nat → Option Nat) (f_c : FT) (g_c : GT) (P : va_W) (c0 s0 : Nat)
    (b_4 : c0 ≤ 0 ∧ s0 ≤ 0)
    (q_4 : Post (f_q 1) (s_q C.1.2.2.2.1 C.1.2.2.2.2 f_q r_q c_q ++ (s_t C.1.2.2.2.1 C.1.2.2.2.2 f_t g_t ++ (s_r C.1.2.2.2.1 C.1.2.2.2.2 r_r ++ (s_c C.1.2.2.2.1 C.1.2.2.2.2 f_c g_c ++ (P)))))) : zc_Q_place C Post c0 s0 0 [(0, .ref (ad C.1 24))] [] (s_q C.1.2.2.2.1 C.1.2.2.2.2 f_q r_q c_q ++ (s_t C.1.2.2.2.1 C.1.2.2.2.2 f_t g_t ++ (s_r C.1.2.2.2.1 C.1.2.2.2.2 r_r ++ (s_c C.1.2.2.2.1 C.1.2.2.2.2 f_c g_c ++ (P))))) := by
  obtain ⟨⟨l, dC, dI, k, a⟩, p, e, s, m, args, below, meth, c, A⟩ := C
  obtain ⟨hx, hb, hr, htz, hown, hlocks, hml, hE, hK, hA⟩ := X
  intro H locs ls hl hP hD hS
  have hl : lv_has ls 1 [(0, .ref (a 24))] := hl
  have hP : va_P (dC, dI) classes (s_q k a f_q r_q c_q ++ (s_t k a f_t g_t ++ (s_r k a r_r ++ (s_c k a f_c g_c ++ (P))))) H := hP
  have hD : va_D A (s_q k a f_q r_q c_q ++ (s_t k a f_t g_t ++ (s_r k a r_r ++ (s_c k a f_c g_c ++ (P))))) := hD
  show W p l e (z_rm 0 0 0) s m args below meth c H locs c0 s0 _ (F0 m 0 ls [])
  refine lv_aload_n hx hb d_Q_place_0 rfl (lv_at hl 0 rfl) ?_
  refine va_get (D := (dC, dI)) (ci := 0) (v := .int (f_q 1)) (C := R_Q) (T := F_Q) (N := 6) hx hb htz i_Q hown hK hP 0 rfl rfl 5 (by decide) (htz _ kf_Q_38) (fun _ h9 => h9) rfl d_Q_place_1 ?_
  refine W.widen (k := 0) (n := 0) b_4.1 b_4.2 ?_
  exact W.iret (v := f_q 1) hx hb hr (fun t ht hW => ⟨⟨_, (s_q k a f_q r_q c_q ++ (s_t k a f_t g_t ++ (s_r k a r_r ++ (s_c k a f_c g_c ++ (P))))), rfl, q_4, by rw [ht]; exact hP, va_K.moved hW.alike hK, hD⟩, hS.F ht⟩) hS.2.2 d_Q_place_4
set_option maxHeartbeats 1000000 in
set_option maxRecDepth 100000 in
theorem e_Q_place (T : ST) (Post : Int32 → va_W → Prop) (f_q : FT) (r_q : Nat → Nat → Option Nat) (c_q : Nat) (f_t : FT) (g_t : GT) (r_r : Nat → Nat → Option Nat) (f_c : FT) (g_c : GT) (P : va_W) (h : ∀ C : CT, C.1 = T → cM C "QuestionText" b_Q_place 1 (some .int) → zc_Q_place C Post 0 0 0 [(0, .ref (ad C.1 24))] [] (s_q C.1.2.2.2.1 C.1.2.2.2.2 f_q r_q c_q ++ (s_t C.1.2.2.2.1 C.1.2.2.2.2 f_t g_t ++ (s_r C.1.2.2.2.1 C.1.2.2.2.2 r_r ++ (s_c C.1.2.2.2.1 C.1.2.2.2.2 f_c g_c ++ (P)))))) : uI T y_Q_place (Cond.code y_Q_place b_Q_place 1 (some .int)) 0 0 0 [.ref (ad T 24)] (s_q T.2.2.2.1 T.2.2.2.2 f_q r_q c_q ++ (s_t T.2.2.2.1 T.2.2.2.2 f_t g_t ++ (s_r T.2.2.2.1 T.2.2.2.2 r_r ++ (s_c T.2.2.2.1 T.2.2.2.2 f_c g_c ++ (P))))) Post := by
  obtain ⟨l, dC, dI, k, a⟩ := T
  intro sz
  refine Met.ofW (cc := b_Q_place) (maxL := 1) (ret := (some .int)) (by decide) rfl ?_
  intro p e s m args below meth c s₁ B hml hv
  obtain ⟨rfl, hsz, hE, hP, hK, hD0⟩ := hv
  have hts := atoms_spec (ws := (Cond.code y_Q_place b_Q_place 1 (some .int)) :: z_T) B.pre
  have htz : ∀ w ∈ z_T, w.before _ s = true := fun w h => hts w (z_cons w h)
  subst hsz
  have hD := hD0.self (sz := s.heap.size)
  generalize hAe : va_A (s_q k a f_q r_q c_q ++ (s_t k a f_t g_t ++ (s_r k a r_r ++ (s_c k a f_c g_c ++ (P))))) s.heap.size = A at hD hE ⊢
  have hA : ∀ q : Nat, s.heap.size ≤ q → A q := fun q h => by rw [← hAe]; exact Or.inr h
  have hl := lv_entry ([.ref (a 24)]) (n := 1) (Nat.le_of_ble_eq_true rfl)
  rw [lg_entry_eq]
  generalize (lg_sl ([.ref (a 24)]) ++ List.replicate (1 - (lg_sl ([.ref (a 24)])).length) Slot.unset).toArray = ls at hl ⊢
  exact h ((l, dC, dI, k, a), p, e, s, m, ([.ref (a 24)] : List Value).toArray, below, meth, c, A) rfl ⟨B.exec, B.bytes, B.returns, htz, findClass_of_methodNamed B.named, B.notSynchronized, hml, hE, hK, hA⟩ s.heap [] ls hl hP hD va_S.rf
def zc_Q_kind (C : CT) (Post : Int32 → va_W → Prop) (c0 s0 pc : Nat) (loc : List (Nat × Value)) (st : List Value) (ws : va_W) : Prop := zW C (z_rm 0 0 0) 1 (oI C 0 0 Post) c0 s0 pc loc st ws
set_option maxHeartbeats 1000000 in
set_option maxRecDepth 100000 in
theorem k_Q_kind_0 {C : CT} (X : cM C "QuestionText" b_Q_kind 1 (some .int)) (Post : Int32 → va_W → Prop) (f_q : FT) (r_q : Nat → Nat → Option Nat) (c_q : Nat) (f_t : FT) (g_t : GT) (r_r : Nat → Nat → Option Nat) (f_c : FT) (g_c : GT) (P : va_W) (c0 s0 : Nat)
    (b_7 : c0 ≤ 0 ∧ s0 ≤ 0)
    (q_7 : Post (f_c 3) (s_q C.1.2.2.2.1 C.1.2.2.2.2 f_q r_q c_q ++ (s_t C.1.2.2.2.1 C.1.2.2.2.2 f_t g_t ++ (s_r C.1.2.2.2.1 C.1.2.2.2.2 r_r ++ (s_c C.1.2.2.2.1 C.1.2.2.2.2 f_c g_c ++ (P)))))) : zc_Q_kind C Post c0 s0 0 [(0, .ref (ad C.1 24))] [] (s_q C.1.2.2.2.1 C.1.2.2.2.2 f_q r_q c_q ++ (s_t C.1.2.2.2.1 C.1.2.2.2.2 f_t g_t ++ (s_r C.1.2.2.2.1 C.1.2.2.2.2 r_r ++ (s_c C.1.2.2.2.1 C.1.2.2.2.2 f_c g_c ++ (P))))) := by
  obtain ⟨⟨l, dC, dI, k, a⟩, p, e, s, m, args, below, meth, c, A⟩ := C
  obtain ⟨hx, hb, hr, htz, hown, hlocks, hml, hE, hK, hA⟩ := X
  intro H locs ls hl hP hD hS
  have hl : lv_has ls 1 [(0, .ref (a 24))] := hl
  have hP : va_P (dC, dI) classes (s_q k a f_q r_q c_q ++ (s_t k a f_t g_t ++ (s_r k a r_r ++ (s_c k a f_c g_c ++ (P))))) H := hP
  have hD : va_D A (s_q k a f_q r_q c_q ++ (s_t k a f_t g_t ++ (s_r k a r_r ++ (s_c k a f_c g_c ++ (P))))) := hD
  show W p l e (z_rm 0 0 0) s m args below meth c H locs c0 s0 _ (F0 m 0 ls [])
  refine lv_aload_n hx hb d_Q_kind_0 rfl (lv_at hl 0 rfl) ?_
  refine va_get (D := (dC, dI)) (ci := 0) (v := .ref (a 26)) (C := R_Q) (T := F_Q) (N := 6) hx hb htz i_Q hown hK hP 0 rfl rfl 2 (by decide) (htz _ kf_Q_25) (fun _ h9 => h9) rfl d_Q_kind_1 ?_
  refine va_getN (D := (dC, dI)) (ci := 2) (v := .int (f_c 3)) (C := R_Ca) (T := F_Ca) (N := 6) hx hb htz i_Ca hown hK hP 6 rfl rfl 5 (by decide) (va_Nw.use rfl (hE.2.1 _ kf_Q_99)) (fun _ h9 => h9) rfl d_Q_kind_4 ?_
  refine W.widen (k := 0) (n := 0) b_7.1 b_7.2 ?_
  exact W.iret (v := f_c 3) hx hb hr (fun t ht hW => ⟨⟨_, (s_q k a f_q r_q c_q ++ (s_t k a f_t g_t ++ (s_r k a r_r ++ (s_c k a f_c g_c ++ (P))))), rfl, q_7, by rw [ht]; exact hP, va_K.moved hW.alike hK, hD⟩, hS.F ht⟩) hS.2.2 d_Q_kind_7
set_option maxHeartbeats 1000000 in
set_option maxRecDepth 100000 in
theorem e_Q_kind (T : ST) (Post : Int32 → va_W → Prop) (f_q : FT) (r_q : Nat → Nat → Option Nat) (c_q : Nat) (f_t : FT) (g_t : GT) (r_r : Nat → Nat → Option Nat) (f_c : FT) (g_c : GT) (P : va_W) (h : ∀ C : CT, C.1 = T → cM C "QuestionText" b_Q_kind 1 (some .int) → zc_Q_kind C Post 0 0 0 [(0, .ref (ad C.1 24))] [] (s_q C.1.2.2.2.1 C.1.2.2.2.2 f_q r_q c_q ++ (s_t C.1.2.2.2.1 C.1.2.2.2.2 f_t g_t ++ (s_r C.1.2.2.2.1 C.1.2.2.2.2 r_r ++ (s_c C.1.2.2.2.1 C.1.2.2.2.2 f_c g_c ++ (P)))))) : uI T y_Q_kind (Cond.code y_Q_kind b_Q_kind 1 (some .int)) 0 0 0 [.ref (ad T 24)] (s_q T.2.2.2.1 T.2.2.2.2 f_q r_q c_q ++ (s_t T.2.2.2.1 T.2.2.2.2 f_t g_t ++ (s_r T.2.2.2.1 T.2.2.2.2 r_r ++ (s_c T.2.2.2.1 T.2.2.2.2 f_c g_c ++ (P))))) Post := by
  obtain ⟨l, dC, dI, k, a⟩ := T
  intro sz
  refine Met.ofW (cc := b_Q_kind) (maxL := 1) (ret := (some .int)) (by decide) rfl ?_
  intro p e s m args below meth c s₁ B hml hv
  obtain ⟨rfl, hsz, hE, hP, hK, hD0⟩ := hv
  have hts := atoms_spec (ws := (Cond.code y_Q_kind b_Q_kind 1 (some .int)) :: z_T) B.pre
  have htz : ∀ w ∈ z_T, w.before _ s = true := fun w h => hts w (z_cons w h)
  subst hsz
  have hD := hD0.self (sz := s.heap.size)
  generalize hAe : va_A (s_q k a f_q r_q c_q ++ (s_t k a f_t g_t ++ (s_r k a r_r ++ (s_c k a f_c g_c ++ (P))))) s.heap.size = A at hD hE ⊢
  have hA : ∀ q : Nat, s.heap.size ≤ q → A q := fun q h => by rw [← hAe]; exact Or.inr h
  have hl := lv_entry ([.ref (a 24)]) (n := 1) (Nat.le_of_ble_eq_true rfl)
  rw [lg_entry_eq]
  generalize (lg_sl ([.ref (a 24)]) ++ List.replicate (1 - (lg_sl ([.ref (a 24)])).length) Slot.unset).toArray = ls at hl ⊢
  exact h ((l, dC, dI, k, a), p, e, s, m, ([.ref (a 24)] : List Value).toArray, below, meth, c, A) rfl ⟨B.exec, B.bytes, B.returns, htz, findClass_of_methodNamed B.named, B.notSynchronized, hml, hE, hK, hA⟩ s.heap [] ls hl hP hD va_S.rf
def zc_Q_points (C : CT) (Post : Int32 → va_W → Prop) (PX : String → va_W → Prop) (c0 s0 pc : Nat) (loc : List (Nat × Value)) (st : List Value) (ws : va_W) : Prop := zW C (z_rm 0 1 6) 1 (yI C 1 6 Post PX) c0 s0 pc loc st ws
set_option maxHeartbeats 1000000 in
set_option maxRecDepth 100000 in
theorem k_Q_points_0 {C : CT} (X : cX C "QuestionText" b_Q_points 1 (some .int)) (Post : Int32 → va_W → Prop) (PX : String → va_W → Prop) (f_q : FT) (r_q : Nat → Nat → Option Nat) (c_q : Nat) (f_t : FT) (g_t : GT) (r_r : Nat → Nat → Option Nat) (f_c : FT) (g_c : GT) (P : va_W) (c0 s0 : Nat)
    (b_27 : (¬ f_c 3 = 0) → c0 ≤ 1 ∧ s0 ≤ 6)
    (q_27 : (¬ f_c 3 = 0) → Post (f_c 2) (s_q C.1.2.2.2.1 C.1.2.2.2.2 f_q r_q c_q ++ (s_t C.1.2.2.2.1 C.1.2.2.2.2 f_t g_t ++ (s_r C.1.2.2.2.1 C.1.2.2.2.2 r_r ++ (s_c C.1.2.2.2.1 C.1.2.2.2.2 f_c g_c ++ (P))))))
    (b_10 : (f_c 3 = 0) → c0 + 1 ≤ 1 ∧ s0 + 6 ≤ 6)
    (t_10 : (f_c 3 = 0) → PX "java/lang/IllegalStateException" (s_q C.1.2.2.2.1 C.1.2.2.2.2 f_q r_q c_q ++ (s_t C.1.2.2.2.1 C.1.2.2.2.2 f_t g_t ++ (s_r C.1.2.2.2.1 C.1.2.2.2.2 r_r ++ (s_c C.1.2.2.2.1 C.1.2.2.2.2 f_c g_c ++ (P)))))) : zc_Q_points C Post PX c0 s0 0 [(0, .ref (ad C.1 24))] [] (s_q C.1.2.2.2.1 C.1.2.2.2.2 f_q r_q c_q ++ (s_t C.1.2.2.2.1 C.1.2.2.2.2 f_t g_t ++ (s_r C.1.2.2.2.1 C.1.2.2.2.2 r_r ++ (s_c C.1.2.2.2.1 C.1.2.2.2.2 f_c g_c ++ (P))))) := by
  obtain ⟨⟨l, dC, dI, k, a⟩, p, e, s, m, args, below, meth, c, A⟩ := C
  obtain ⟨⟨hx, hb, hr, htz, hown, hlocks, hml, hE, hK, hA⟩, hno, hlt⟩ := X
  intro H locs ls hl hP hD hS
  have hl : lv_has ls 1 [(0, .ref (a 24))] := hl
  have hP : va_P (dC, dI) classes (s_q k a f_q r_q c_q ++ (s_t k a f_t g_t ++ (s_r k a r_r ++ (s_c k a f_c g_c ++ (P))))) H := hP
  have hD : va_D A (s_q k a f_q r_q c_q ++ (s_t k a f_t g_t ++ (s_r k a r_r ++ (s_c k a f_c g_c ++ (P))))) := hD
  show W p l e (z_rm 0 1 6) s m args below meth c H locs c0 s0 _ (F0 m 0 ls [])
  refine lv_aload_n hx hb d_Q_points_0 rfl (lv_at hl 0 rfl) ?_
  refine va_get (D := (dC, dI)) (ci := 0) (v := .ref (a 26)) (C := R_Q) (T := F_Q) (N := 6) hx hb htz i_Q hown hK hP 0 rfl rfl 2 (by decide) (htz _ kf_Q_25) (fun _ h9 => h9) rfl d_Q_points_1 ?_
  refine va_getN (D := (dC, dI)) (ci := 2) (v := .int (f_c 3)) (C := R_Ca) (T := F_Ca) (N := 6) hx hb htz i_Ca hown hK hP 6 rfl rfl 5 (by decide) (va_Nw.use rfl (hE.2.1 _ kf_Q_99)) (fun _ h9 => h9) rfl d_Q_points_4 ?_
  refine lv_if_ne (tgt := 20) hx hb d_Q_points_7 (by decide) (fun c_7 => ?_) (fun c_7 => ?_)
  · refine lv_aload_n hx hb d_Q_points_20 rfl (lv_at hl 0 rfl) ?_
    refine va_get (D := (dC, dI)) (ci := 0) (v := .ref (a 26)) (C := R_Q) (T := F_Q) (N := 6) hx hb htz i_Q hown hK hP 0 rfl rfl 2 (by decide) (htz _ kf_Q_25) (fun _ h9 => h9) rfl d_Q_points_21 ?_
    refine va_getN (D := (dC, dI)) (ci := 2) (v := .int (f_c 2)) (C := R_Ca) (T := F_Ca) (N := 6) hx hb htz i_Ca hown hK hP 6 rfl rfl 4 (by decide) (va_Nw.use rfl (hE.2.1 _ kf_Q_149)) (fun _ h9 => h9) rfl d_Q_points_24 ?_
    refine W.widen (k := 1) (n := 6) (b_27 c_7).1 (b_27 c_7).2 ?_
    refine vx_ret ?_
    exact W.iret (v := f_c 2) hx hb hr (fun t ht hW => ⟨⟨_, (s_q k a f_q r_q c_q ++ (s_t k a f_t g_t ++ (s_r k a r_r ++ (s_c k a f_c g_c ++ (P))))), rfl, (q_27 c_7), by rw [ht]; exact hP, va_K.moved hW.alike hK, hD⟩, hS.F ht⟩) hS.2.2 d_Q_points_27
  · obtain ⟨sa, hstr⟩ := hE.2.2.2.1 ("QuestionText", 153, "there is no call") (by decide)
    have hB9 := z_thr (dC := dC) (dI := dI) (k := k) hP hK hD hS
    exact vx_throwS (own := "QuestionText") (cls := "java/lang/IllegalStateException") (text := "there is no call") (names := ["java/lang/RuntimeException", "java/lang/Exception"]) (ik := 51) (is := 153) (ic := 55) hx hb hlt hown (by decide +kernel) (by decide +kernel) (htz _ kc_Q_51) (htz _ ini_ISE) hstr (z_hat th_Q_55 htz hE.2.1) tg_Q_51_55 hE.2.2.2.2.1 hE.2.2.2.2.2.1 hS (hl.1.trans hml.symm) d_Q_points_10 d_Q_points_13 d_Q_points_14 d_Q_points_16 d_Q_points_19 (fun x hx9 => (hno x hx9).elim) (Nat.le_of_ble_eq_true rfl) (Nat.le_of_ble_eq_true rfl) (b_10 c_7).1 (b_10 c_7).2 hlocks (fun t h1 h2 h3 => ⟨(s_q k a f_q r_q c_q ++ (s_t k a f_t g_t ++ (s_r k a r_r ++ (s_c k a f_c g_c ++ (P))))), trivial, ⟨(t_10 c_7), (hB9 t h1 h2 h3).1⟩, (hB9 t h1 h2 h3).2⟩) hS.2.2 (b_10 c_7).1 (b_10 c_7).2
set_option maxHeartbeats 1000000 in
set_option maxRecDepth 100000 in
theorem e_Q_points (T : ST) (hlt : T.1.stackTraces = false) (Post : Int32 → va_W → Prop) (PX : String → va_W → Prop) (f_q : FT) (r_q : Nat → Nat → Option Nat) (c_q : Nat) (f_t : FT) (g_t : GT) (r_r : Nat → Nat → Option Nat) (f_c : FT) (g_c : GT) (P : va_W) (h : ∀ C : CT, C.1 = T → cX C "QuestionText" b_Q_points 1 (some .int) → zc_Q_points C Post PX 0 0 0 [(0, .ref (ad C.1 24))] [] (s_q C.1.2.2.2.1 C.1.2.2.2.2 f_q r_q c_q ++ (s_t C.1.2.2.2.1 C.1.2.2.2.2 f_t g_t ++ (s_r C.1.2.2.2.1 C.1.2.2.2.2 r_r ++ (s_c C.1.2.2.2.1 C.1.2.2.2.2 f_c g_c ++ (P)))))) : xI T y_Q_points (Cond.code y_Q_points b_Q_points 1 (some .int)) 0 1 6 [.ref (ad T 24)] (s_q T.2.2.2.1 T.2.2.2.2 f_q r_q c_q ++ (s_t T.2.2.2.1 T.2.2.2.2 f_t g_t ++ (s_r T.2.2.2.1 T.2.2.2.2 r_r ++ (s_c T.2.2.2.1 T.2.2.2.2 f_c g_c ++ (P))))) Post PX := by
  obtain ⟨l, dC, dI, k, a⟩ := T
  intro sz
  refine vx_ofW (cc := b_Q_points) (maxL := 1) (ret := (some .int)) (by decide) rfl ?_
  intro p e s m args below meth c s₁ B hml hno hv
  obtain ⟨rfl, hsz, hE, hP, hK, hD0⟩ := hv
  have hts := atoms_spec (ws := (Cond.code y_Q_points b_Q_points 1 (some .int)) :: z_T) B.pre
  have htz : ∀ w ∈ z_T, w.before _ s = true := fun w h => hts w (z_cons w h)
  subst hsz
  have hD := hD0.self (sz := s.heap.size)
  generalize hAe : va_A (s_q k a f_q r_q c_q ++ (s_t k a f_t g_t ++ (s_r k a r_r ++ (s_c k a f_c g_c ++ (P))))) s.heap.size = A at hD hE ⊢
  have hA : ∀ q : Nat, s.heap.size ≤ q → A q := fun q h => by rw [← hAe]; exact Or.inr h
  have hl := lv_entry ([.ref (a 24)]) (n := 1) (Nat.le_of_ble_eq_true rfl)
  rw [lg_entry_eq]
  generalize (lg_sl ([.ref (a 24)]) ++ List.replicate (1 - (lg_sl ([.ref (a 24)])).length) Slot.unset).toArray = ls at hl ⊢
  exact h ((l, dC, dI, k, a), p, e, s, m, ([.ref (a 24)] : List Value).toArray, below, meth, c, A) rfl ⟨⟨B.exec, B.bytes, B.returns, htz, findClass_of_methodNamed B.named, B.notSynchronized, hml, hE, hK, hA⟩, hno, hlt⟩ s.heap [] ls hl hP hD va_S.rf
def zc_Q_asked (C : CT) (Post : Int32 → va_W → Prop) (PX : String → va_W → Prop) (c0 s0 pc : Nat) (loc : List (Nat × Value)) (st : List Value) (ws : va_W) : Prop := zW C (z_rm 0 1 6) 2 (yI C 1 6 Post PX) c0 s0 pc loc st ws
set_option maxHeartbeats 1000000 in
set_option maxRecDepth 100000 in
theorem k_Q_asked_0 {C : CT} (X : cX C "QuestionText" b_Q_asked 2 (some .int)) (Post : Int32 → va_W → Prop) (PX : String → va_W → Prop) (x1 : Int32) (f_q : FT) (r_q : Nat → Nat → Option Nat) (c_q : Nat) (f_t : FT) (g_t : GT) (r_r : Nat → Nat → Option Nat) (f_c : FT) (g_c : GT) (P : va_W) (c0 s0 : Nat)
    (k_38 : (0 ≤ x1) → (f_c 0 ≤ x1) → zc_Q_asked C Post PX c0 s0 38 [(0, .ref (ad C.1 24)), (1, .int x1)] [.int 0] (s_q C.1.2.2.2.1 C.1.2.2.2.2 f_q r_q c_q ++ (s_t C.1.2.2.2.1 C.1.2.2.2.2 f_t g_t ++ (s_r C.1.2.2.2.1 C.1.2.2.2.2 r_r ++ (s_c C.1.2.2.2.1 C.1.2.2.2.2 f_c g_c ++ (P))))))
    (h_33 : (0 ≤ x1) → (¬ f_c 0 ≤ x1) → vp_in (x1) 40)
    (k_38_1 : (0 ≤ x1) → (¬ f_c 0 ≤ x1) → zc_Q_asked C Post PX c0 s0 38 [(0, .ref (ad C.1 24)), (1, .int x1)] [.int ((g_c 0) (x1 : Int32).toNatClampNeg)] (s_q C.1.2.2.2.1 C.1.2.2.2.2 f_q r_q c_q ++ (s_t C.1.2.2.2.1 C.1.2.2.2.2 f_t g_t ++ (s_r C.1.2.2.2.1 C.1.2.2.2.2 r_r ++ (s_c C.1.2.2.2.1 C.1.2.2.2.2 f_c g_c ++ (P))))))
    (b_4 : (¬ 0 ≤ x1) → c0 + 1 ≤ 1 ∧ s0 + 6 ≤ 6)
    (t_4 : (¬ 0 ≤ x1) → PX "java/lang/IllegalArgumentException" (s_q C.1.2.2.2.1 C.1.2.2.2.2 f_q r_q c_q ++ (s_t C.1.2.2.2.1 C.1.2.2.2.2 f_t g_t ++ (s_r C.1.2.2.2.1 C.1.2.2.2.2 r_r ++ (s_c C.1.2.2.2.1 C.1.2.2.2.2 f_c g_c ++ (P)))))) : zc_Q_asked C Post PX c0 s0 0 [(0, .ref (ad C.1 24)), (1, .int x1)] [] (s_q C.1.2.2.2.1 C.1.2.2.2.2 f_q r_q c_q ++ (s_t C.1.2.2.2.1 C.1.2.2.2.2 f_t g_t ++ (s_r C.1.2.2.2.1 C.1.2.2.2.2 r_r ++ (s_c C.1.2.2.2.1 C.1.2.2.2.2 f_c g_c ++ (P))))) := by
  obtain ⟨⟨l, dC, dI, k, a⟩, p, e, s, m, args, below, meth, c, A⟩ := C
  obtain ⟨⟨hx, hb, hr, htz, hown, hlocks, hml, hE, hK, hA⟩, hno, hlt⟩ := X
  intro H locs ls hl hP hD hS
  have hl : lv_has ls 2 [(0, .ref (a 24)), (1, .int x1)] := hl
  have hP : va_P (dC, dI) classes (s_q k a f_q r_q c_q ++ (s_t k a f_t g_t ++ (s_r k a r_r ++ (s_c k a f_c g_c ++ (P))))) H := hP
  have hD : va_D A (s_q k a f_q r_q c_q ++ (s_t k a f_t g_t ++ (s_r k a r_r ++ (s_c k a f_c g_c ++ (P))))) := hD
  show W p l e (z_rm 0 1 6) s m args below meth c H locs c0 s0 _ (F0 m 0 ls [])
  refine lv_iload_n hx hb d_Q_asked_0 rfl (lv_at hl 1 rfl) ?_
  refine lv_if_ge (tgt := 14) hx hb d_Q_asked_1 (by decide) (fun c_1 => ?_) (fun c_1 => ?_)
  · refine lv_iload_n hx hb d_Q_asked_14 rfl (lv_at hl 1 rfl) ?_
    refine lv_aload_n hx hb d_Q_asked_15 rfl (lv_at hl 0 rfl) ?_
    refine va_get (D := (dC, dI)) (ci := 0) (v := .ref (a 26)) (C := R_Q) (T := F_Q) (N := 6) hx hb htz i_Q hown hK hP 0 rfl rfl 2 (by decide) (htz _ kf_Q_25) (fun _ h9 => h9) rfl d_Q_asked_16 ?_
    refine va_getN (D := (dC, dI)) (ci := 2) (v := .int (f_c 0)) (C := R_Ca) (T := F_Ca) (N := 6) hx hb htz i_Ca hown hK hP 6 rfl rfl 2 (by decide) (va_Nw.use rfl (hE.2.1 _ kf_Q_140)) (fun _ h9 => h9) rfl d_Q_asked_19 ?_
    refine lv_icmp_ge (tgt := 37) hx hb d_Q_asked_22 (by decide) (fun c_22 => ?_) (fun c_22 => ?_)
    · refine lv_iconst (v := 0) hx hb d_Q_asked_37 (by decide) ?_
      exact (k_38 c_1 c_22) H locs ls (lv_sub hl [0, 1] rfl) hP hD hS
    · refine lv_aload_n hx hb d_Q_asked_25 rfl (lv_at hl 0 rfl) ?_
      refine va_get (D := (dC, dI)) (ci := 0) (v := .ref (a 26)) (C := R_Q) (T := F_Q) (N := 6) hx hb htz i_Q hown hK hP 0 rfl rfl 2 (by decide) (htz _ kf_Q_25) (fun _ h9 => h9) rfl d_Q_asked_26 ?_
      refine va_getN (D := (dC, dI)) (ci := 2) (v := .ref (a 27)) (C := R_Ca) (T := F_Ca) (N := 6) hx hb htz i_Ca hown hK hP 6 rfl rfl 0 (by decide) (va_Nw.use rfl (hE.2.1 _ kf_Q_161)) (fun _ h9 => h9) rfl d_Q_asked_29 ?_
      refine lv_iload_n hx hb d_Q_asked_32 rfl (lv_at hl 1 rfl) ?_
      refine va_iald hx hb hK hP 7 0 rfl rfl (h_33 c_1 c_22) d_Q_asked_33 ?_
      refine lv_goto (tgt := 38) hx hb d_Q_asked_34 (by decide) ?_
      exact (k_38_1 c_1 c_22) H locs ls (lv_sub hl [0, 1] rfl) hP hD hS
  · obtain ⟨sa, hstr⟩ := hE.2.2.2.1 ("QuestionText", 159, "below 0") (by decide)
    have hB9 := z_thr (dC := dC) (dI := dI) (k := k) hP hK hD hS
    exact vx_throwS (own := "QuestionText") (cls := "java/lang/IllegalArgumentException") (text := "below 0") (names := ["java/lang/RuntimeException", "java/lang/Exception"]) (ik := 41) (is := 159) (ic := 45) hx hb hlt hown (by decide +kernel) (by decide +kernel) (htz _ kc_Q_41) (htz _ ini_IAE) hstr (z_hat th_Q_45 htz hE.2.1) tg_Q_41_45 hE.2.2.2.2.1 hE.2.2.2.2.2.1 hS (hl.1.trans hml.symm) d_Q_asked_4 d_Q_asked_7 d_Q_asked_8 d_Q_asked_10 d_Q_asked_13 (fun x hx9 => (hno x hx9).elim) (Nat.le_of_ble_eq_true rfl) (Nat.le_of_ble_eq_true rfl) (b_4 c_1).1 (b_4 c_1).2 hlocks (fun t h1 h2 h3 => ⟨(s_q k a f_q r_q c_q ++ (s_t k a f_t g_t ++ (s_r k a r_r ++ (s_c k a f_c g_c ++ (P))))), trivial, ⟨(t_4 c_1), (hB9 t h1 h2 h3).1⟩, (hB9 t h1 h2 h3).2⟩) hS.2.2 (b_4 c_1).1 (b_4 c_1).2
set_option maxHeartbeats 1000000 in
set_option maxRecDepth 100000 in
theorem k_Q_asked_38 {C : CT} (X : cX C "QuestionText" b_Q_asked 2 (some .int)) (Post : Int32 → va_W → Prop) (PX : String → va_W → Prop) (x1 : Int32) (y0 : Int32) (f_q : FT) (r_q : Nat → Nat → Option Nat) (c_q : Nat) (f_t : FT) (g_t : GT) (r_r : Nat → Nat → Option Nat) (f_c : FT) (g_c : GT) (P : va_W) (c0 s0 : Nat)
    (b_38 : c0 ≤ 1 ∧ s0 ≤ 6)
    (q_38 : Post (y0) (s_q C.1.2.2.2.1 C.1.2.2.2.2 f_q r_q c_q ++ (s_t C.1.2.2.2.1 C.1.2.2.2.2 f_t g_t ++ (s_r C.1.2.2.2.1 C.1.2.2.2.2 r_r ++ (s_c C.1.2.2.2.1 C.1.2.2.2.2 f_c g_c ++ (P)))))) : zc_Q_asked C Post PX c0 s0 38 [(0, .ref (ad C.1 24)), (1, .int x1)] [.int y0] (s_q C.1.2.2.2.1 C.1.2.2.2.2 f_q r_q c_q ++ (s_t C.1.2.2.2.1 C.1.2.2.2.2 f_t g_t ++ (s_r C.1.2.2.2.1 C.1.2.2.2.2 r_r ++ (s_c C.1.2.2.2.1 C.1.2.2.2.2 f_c g_c ++ (P))))) := by
  obtain ⟨⟨l, dC, dI, k, a⟩, p, e, s, m, args, below, meth, c, A⟩ := C
  obtain ⟨⟨hx, hb, hr, htz, hown, hlocks, hml, hE, hK, hA⟩, hno, hlt⟩ := X
  intro H locs ls hl hP hD hS
  have hl : lv_has ls 2 [(0, .ref (a 24)), (1, .int x1)] := hl
  have hP : va_P (dC, dI) classes (s_q k a f_q r_q c_q ++ (s_t k a f_t g_t ++ (s_r k a r_r ++ (s_c k a f_c g_c ++ (P))))) H := hP
  have hD : va_D A (s_q k a f_q r_q c_q ++ (s_t k a f_t g_t ++ (s_r k a r_r ++ (s_c k a f_c g_c ++ (P))))) := hD
  show W p l e (z_rm 0 1 6) s m args below meth c H locs c0 s0 _ (F0 m 38 ls [.int y0])
  refine W.widen (k := 1) (n := 6) b_38.1 b_38.2 ?_
  refine vx_ret ?_
  exact W.iret (v := y0) hx hb hr (fun t ht hW => ⟨⟨_, (s_q k a f_q r_q c_q ++ (s_t k a f_t g_t ++ (s_r k a r_r ++ (s_c k a f_c g_c ++ (P))))), rfl, q_38, by rw [ht]; exact hP, va_K.moved hW.alike hK, hD⟩, hS.F ht⟩) hS.2.2 d_Q_asked_38
set_option maxHeartbeats 1000000 in
set_option maxRecDepth 100000 in
theorem e_Q_asked (T : ST) (hlt : T.1.stackTraces = false) (Post : Int32 → va_W → Prop) (PX : String → va_W → Prop) (x1 : Int32) (f_q : FT) (r_q : Nat → Nat → Option Nat) (c_q : Nat) (f_t : FT) (g_t : GT) (r_r : Nat → Nat → Option Nat) (f_c : FT) (g_c : GT) (P : va_W) (h : ∀ C : CT, C.1 = T → cX C "QuestionText" b_Q_asked 2 (some .int) → zc_Q_asked C Post PX 0 0 0 [(0, .ref (ad C.1 24)), (1, .int x1)] [] (s_q C.1.2.2.2.1 C.1.2.2.2.2 f_q r_q c_q ++ (s_t C.1.2.2.2.1 C.1.2.2.2.2 f_t g_t ++ (s_r C.1.2.2.2.1 C.1.2.2.2.2 r_r ++ (s_c C.1.2.2.2.1 C.1.2.2.2.2 f_c g_c ++ (P)))))) : xI T y_Q_asked (Cond.code y_Q_asked b_Q_asked 2 (some .int)) 0 1 6 [.ref (ad T 24), .int x1] (s_q T.2.2.2.1 T.2.2.2.2 f_q r_q c_q ++ (s_t T.2.2.2.1 T.2.2.2.2 f_t g_t ++ (s_r T.2.2.2.1 T.2.2.2.2 r_r ++ (s_c T.2.2.2.1 T.2.2.2.2 f_c g_c ++ (P))))) Post PX := by
  obtain ⟨l, dC, dI, k, a⟩ := T
  intro sz
  refine vx_ofW (cc := b_Q_asked) (maxL := 2) (ret := (some .int)) (by decide) rfl ?_
  intro p e s m args below meth c s₁ B hml hno hv
  obtain ⟨rfl, hsz, hE, hP, hK, hD0⟩ := hv
  have hts := atoms_spec (ws := (Cond.code y_Q_asked b_Q_asked 2 (some .int)) :: z_T) B.pre
  have htz : ∀ w ∈ z_T, w.before _ s = true := fun w h => hts w (z_cons w h)
  subst hsz
  have hD := hD0.self (sz := s.heap.size)
  generalize hAe : va_A (s_q k a f_q r_q c_q ++ (s_t k a f_t g_t ++ (s_r k a r_r ++ (s_c k a f_c g_c ++ (P))))) s.heap.size = A at hD hE ⊢
  have hA : ∀ q : Nat, s.heap.size ≤ q → A q := fun q h => by rw [← hAe]; exact Or.inr h
  have hl := lv_entry ([.ref (a 24), .int x1]) (n := 2) (Nat.le_of_ble_eq_true rfl)
  rw [lg_entry_eq]
  generalize (lg_sl ([.ref (a 24), .int x1]) ++ List.replicate (2 - (lg_sl ([.ref (a 24), .int x1])).length) Slot.unset).toArray = ls at hl ⊢
  exact h ((l, dC, dI, k, a), p, e, s, m, ([.ref (a 24), .int x1] : List Value).toArray, below, meth, c, A) rfl ⟨⟨B.exec, B.bytes, B.returns, htz, findClass_of_methodNamed B.named, B.notSynchronized, hml, hE, hK, hA⟩, hno, hlt⟩ s.heap [] ls hl hP hD va_S.rf
def zc_Q_loop (C : CT) (Post : Int32 → va_W → Prop) (PX : String → va_W → Prop) (c0 s0 pc : Nat) (loc : List (Nat × Value)) (st : List Value) (ws : va_W) : Prop := zW C (z_rm 2 1 6) 2 (yI C 1 6 Post PX) c0 s0 pc loc st ws
set_option maxHeartbeats 1000000 in
set_option maxRecDepth 100000 in
theorem k_Q_loop_0 {C : CT} (X : cX C "QuestionText" b_Q_loop 2 (some .int)) (Post : Int32 → va_W → Prop) (PX : String → va_W → Prop) {P_22 : Int32 → va_W → Prop} (x1 : Int32) (f_q : FT) (r_q : Nat → Nat → Option Nat) (c_q : Nat) (f_t : FT) (g_t : GT) (r_r : Nat → Nat → Option Nat) (f_c : FT) (g_c : GT) (P : va_W) (qa : Nat) (ka : Nat) (es : Int32) (e1 : Int64) (e2 : Int64) (e3 : Int64) (i1 : Nat) (c0 s0 : Nat) (hf : P[i1]? = some (c_q, .inr (3, [.ref qa, .ref ka, .int es, .long e1, .long e2, .long e3])))
    (b_22 : (0 ≤ x1) → c0 ≤ 1 ∧ s0 ≤ 6)
    (m_22 : (0 ≤ x1) → uI C.1 y_Q_memberOf (Cond.code y_Q_memberOf b_Q_memberOf 5 (some .int)) 1 0 0 [.long e1, .int x1] ([]) P_22)
    (k_22 : (0 ≤ x1) → ∀ (r : Int32) (u : va_W), P_22 r u → zc_Q_loop C Post PX c0 s0 25 [(0, .ref (ad C.1 24)), (1, .int x1)] [.int r] (s_q C.1.2.2.2.1 C.1.2.2.2.2 f_q r_q c_q ++ (s_t C.1.2.2.2.1 C.1.2.2.2.2 f_t g_t ++ (s_r C.1.2.2.2.1 C.1.2.2.2.2 r_r ++ (s_c C.1.2.2.2.1 C.1.2.2.2.2 f_c g_c ++ (P))))))
    (b_4 : (¬ 0 ≤ x1) → c0 + 1 ≤ 1 ∧ s0 + 6 ≤ 6)
    (t_4 : (¬ 0 ≤ x1) → PX "java/lang/IllegalArgumentException" (s_q C.1.2.2.2.1 C.1.2.2.2.2 f_q r_q c_q ++ (s_t C.1.2.2.2.1 C.1.2.2.2.2 f_t g_t ++ (s_r C.1.2.2.2.1 C.1.2.2.2.2 r_r ++ (s_c C.1.2.2.2.1 C.1.2.2.2.2 f_c g_c ++ (P)))))) : zc_Q_loop C Post PX c0 s0 0 [(0, .ref (ad C.1 24)), (1, .int x1)] [] (s_q C.1.2.2.2.1 C.1.2.2.2.2 f_q r_q c_q ++ (s_t C.1.2.2.2.1 C.1.2.2.2.2 f_t g_t ++ (s_r C.1.2.2.2.1 C.1.2.2.2.2 r_r ++ (s_c C.1.2.2.2.1 C.1.2.2.2.2 f_c g_c ++ (P))))) := by
  obtain ⟨⟨l, dC, dI, k, a⟩, p, e, s, m, args, below, meth, c, A⟩ := C
  obtain ⟨⟨hx, hb, hr, htz, hown, hlocks, hml, hE, hK, hA⟩, hno, hlt⟩ := X
  intro H locs ls hl hP hD hS
  have hl : lv_has ls 2 [(0, .ref (a 24)), (1, .int x1)] := hl
  have hP : va_P (dC, dI) classes (s_q k a f_q r_q c_q ++ (s_t k a f_t g_t ++ (s_r k a r_r ++ (s_c k a f_c g_c ++ (P))))) H := hP
  have hD : va_D A (s_q k a f_q r_q c_q ++ (s_t k a f_t g_t ++ (s_r k a r_r ++ (s_c k a f_c g_c ++ (P))))) := hD
  show W p l e (z_rm 2 1 6) s m args below meth c H locs c0 s0 _ (F0 m 0 ls [])
  refine lv_iload_n hx hb d_Q_loop_0 rfl (lv_at hl 1 rfl) ?_
  refine lv_if_ge (tgt := 14) hx hb d_Q_loop_1 (by decide) (fun c_1 => ?_) (fun c_1 => ?_)
  · refine lv_aload_n hx hb d_Q_loop_14 rfl (lv_at hl 0 rfl) ?_
    refine va_get (D := (dC, dI)) (ci := 0) (v := .ref c_q) (C := R_Q) (T := F_Q) (N := 6) hx hb htz i_Q hown hK hP 0 rfl rfl 3 (by decide) (htz _ kf_Q_30) (fun _ h9 => h9) rfl d_Q_loop_15 ?_
    refine va_getN (D := (dC, dI)) (ci := 3) (v := .long e1) (C := R_Ed) (T := F_Ed) (N := 6) hx hb htz i_Ed hown hK hP (i1 + 9) hf rfl 3 (by decide) (va_Nw.use rfl (hE.2.1 _ kf_Q_164)) (fun _ h9 => h9) rfl d_Q_loop_18 ?_
    refine lv_iload_n hx hb d_Q_loop_21 rfl (lv_at hl 1 rfl) ?_
    have hFc : ∀ q, va_A [] H.size q → A q := fun q h => h.elim (fun z => by obtain ⟨i9, e9, h9⟩ := z; cases h9) (fun z => hA q (Nat.le_trans hS.1 z))
    refine va_calli (va_runS (As := [.long e1, .int x1]) (rest := []) ⟨hx, hb, hml, hown, htz⟩ ((m_22 c_1) H.size) (va_cwS 2 htz (z_gS (fun _ h => h) km_Q_168 st_Q_memberOf ini_Q m_Q_memberOf) rfl rfl rfl (by decide +kernel) ⟨(Nat.le_of_ble_eq_true rfl), (Nat.le_of_ble_eq_true rfl)⟩) ⟨z_blind, fun U hU hW => ⟨rfl, by rw [hU], hE.call hS hFc hU hW, by rw [hU]; exact zP0, va_K.moved hW.alike hK, zD0⟩⟩ rfl rfl hl.1 rfl (lv_room (Nat.le_of_ble_eq_true rfl)) d_Q_loop_22 (b_22 c_1)) hS (fun q _ h => hFc q h) hFc (fun r u t H1 locs ht hvm hw hB hz1 hk1 hS => ?_)
    obtain ⟨hP1, hK1, hD1⟩ := hB
    rw [ht] at hP1
    have hP : va_P (dC, dI) classes (s_q k a f_q r_q c_q ++ (s_t k a f_t g_t ++ (s_r k a r_r ++ (s_c k a f_c g_c ++ (P))))) H1 := hP.kept (fun j q hq => hk1 q.1 (hP j q hq).lt (fun z => z.elim (fun z => by obtain ⟨i9, e9, h9⟩ := z; cases h9) (fun z => absurd z (Nat.not_le.mpr (hP j q hq).lt))))
    exact (k_22 c_1) r _ hw H1 locs ls (lv_sub hl [0, 1] rfl) hP hD hS
  · obtain ⟨sa, hstr⟩ := hE.2.2.2.1 ("QuestionText", 159, "below 0") (by decide)
    have hB9 := z_thr (dC := dC) (dI := dI) (k := k) hP hK hD hS
    exact vx_throwS (own := "QuestionText") (cls := "java/lang/IllegalArgumentException") (text := "below 0") (names := ["java/lang/RuntimeException", "java/lang/Exception"]) (ik := 41) (is := 159) (ic := 45) hx hb hlt hown (by decide +kernel) (by decide +kernel) (htz _ kc_Q_41) (htz _ ini_IAE) hstr (z_hat th_Q_45 htz hE.2.1) tg_Q_41_45 hE.2.2.2.2.1 hE.2.2.2.2.2.1 hS (hl.1.trans hml.symm) d_Q_loop_4 d_Q_loop_7 d_Q_loop_8 d_Q_loop_10 d_Q_loop_13 (fun x hx9 => (hno x hx9).elim) (Nat.le_of_ble_eq_true rfl) (Nat.le_of_ble_eq_true rfl) (b_4 c_1).1 (b_4 c_1).2 hlocks (fun t h1 h2 h3 => ⟨(s_q k a f_q r_q c_q ++ (s_t k a f_t g_t ++ (s_r k a r_r ++ (s_c k a f_c g_c ++ (P))))), trivial, ⟨(t_4 c_1), (hB9 t h1 h2 h3).1⟩, (hB9 t h1 h2 h3).2⟩) hS.2.2 (b_4 c_1).1 (b_4 c_1).2
set_option maxHeartbeats 1000000 in
set_option maxRecDepth 100000 in
theorem k_Q_loop_25 {C : CT} (X : cX C "QuestionText" b_Q_loop 2 (some .int)) (Post : Int32 → va_W → Prop) (PX : String → va_W → Prop) (x1 : Int32) (y0 : Int32) (f_q : FT) (r_q : Nat → Nat → Option Nat) (c_q : Nat) (f_t : FT) (g_t : GT) (r_r : Nat → Nat → Option Nat) (f_c : FT) (g_c : GT) (P : va_W) (qa : Nat) (ka : Nat) (es : Int32) (e1 : Int64) (e2 : Int64) (e3 : Int64) (i1 : Nat) (c0 s0 : Nat) (hf : P[i1]? = some (c_q, .inr (3, [.ref qa, .ref ka, .int es, .long e1, .long e2, .long e3])))
    (b_25 : c0 ≤ 1 ∧ s0 ≤ 6)
    (q_25 : Post (y0) (s_q C.1.2.2.2.1 C.1.2.2.2.2 f_q r_q c_q ++ (s_t C.1.2.2.2.1 C.1.2.2.2.2 f_t g_t ++ (s_r C.1.2.2.2.1 C.1.2.2.2.2 r_r ++ (s_c C.1.2.2.2.1 C.1.2.2.2.2 f_c g_c ++ (P)))))) : zc_Q_loop C Post PX c0 s0 25 [(0, .ref (ad C.1 24)), (1, .int x1)] [.int y0] (s_q C.1.2.2.2.1 C.1.2.2.2.2 f_q r_q c_q ++ (s_t C.1.2.2.2.1 C.1.2.2.2.2 f_t g_t ++ (s_r C.1.2.2.2.1 C.1.2.2.2.2 r_r ++ (s_c C.1.2.2.2.1 C.1.2.2.2.2 f_c g_c ++ (P))))) := by
  obtain ⟨⟨l, dC, dI, k, a⟩, p, e, s, m, args, below, meth, c, A⟩ := C
  obtain ⟨⟨hx, hb, hr, htz, hown, hlocks, hml, hE, hK, hA⟩, hno, hlt⟩ := X
  intro H locs ls hl hP hD hS
  have hl : lv_has ls 2 [(0, .ref (a 24)), (1, .int x1)] := hl
  have hP : va_P (dC, dI) classes (s_q k a f_q r_q c_q ++ (s_t k a f_t g_t ++ (s_r k a r_r ++ (s_c k a f_c g_c ++ (P))))) H := hP
  have hD : va_D A (s_q k a f_q r_q c_q ++ (s_t k a f_t g_t ++ (s_r k a r_r ++ (s_c k a f_c g_c ++ (P))))) := hD
  show W p l e (z_rm 2 1 6) s m args below meth c H locs c0 s0 _ (F0 m 25 ls [.int y0])
  refine W.widen (k := 1) (n := 6) b_25.1 b_25.2 ?_
  refine vx_ret ?_
  exact W.iret (v := y0) hx hb hr (fun t ht hW => ⟨⟨_, (s_q k a f_q r_q c_q ++ (s_t k a f_t g_t ++ (s_r k a r_r ++ (s_c k a f_c g_c ++ (P))))), rfl, q_25, by rw [ht]; exact hP, va_K.moved hW.alike hK, hD⟩, hS.F ht⟩) hS.2.2 d_Q_loop_25
set_option maxHeartbeats 1000000 in
set_option maxRecDepth 100000 in
theorem e_Q_loop (T : ST) (hlt : T.1.stackTraces = false) (Post : Int32 → va_W → Prop) (PX : String → va_W → Prop) (x1 : Int32) (f_q : FT) (r_q : Nat → Nat → Option Nat) (c_q : Nat) (f_t : FT) (g_t : GT) (r_r : Nat → Nat → Option Nat) (f_c : FT) (g_c : GT) (P : va_W) (qa : Nat) (ka : Nat) (es : Int32) (e1 : Int64) (e2 : Int64) (e3 : Int64) (h : ∀ C : CT, C.1 = T → cX C "QuestionText" b_Q_loop 2 (some .int) → zc_Q_loop C Post PX 0 0 0 [(0, .ref (ad C.1 24)), (1, .int x1)] [] (s_q C.1.2.2.2.1 C.1.2.2.2.2 f_q r_q c_q ++ (s_t C.1.2.2.2.1 C.1.2.2.2.2 f_t g_t ++ (s_r C.1.2.2.2.1 C.1.2.2.2.2 r_r ++ (s_c C.1.2.2.2.1 C.1.2.2.2.2 f_c g_c ++ (P)))))) : xI T y_Q_loop (Cond.code y_Q_loop b_Q_loop 2 (some .int)) 2 1 6 [.ref (ad T 24), .int x1] (s_q T.2.2.2.1 T.2.2.2.2 f_q r_q c_q ++ (s_t T.2.2.2.1 T.2.2.2.2 f_t g_t ++ (s_r T.2.2.2.1 T.2.2.2.2 r_r ++ (s_c T.2.2.2.1 T.2.2.2.2 f_c g_c ++ (P))))) Post PX := by
  obtain ⟨l, dC, dI, k, a⟩ := T
  intro sz
  refine vx_ofW (cc := b_Q_loop) (maxL := 2) (ret := (some .int)) (by decide) rfl ?_
  intro p e s m args below meth c s₁ B hml hno hv
  obtain ⟨rfl, hsz, hE, hP, hK, hD0⟩ := hv
  have hts := atoms_spec (ws := (Cond.code y_Q_loop b_Q_loop 2 (some .int)) :: z_T) B.pre
  have htz : ∀ w ∈ z_T, w.before _ s = true := fun w h => hts w (z_cons w h)
  subst hsz
  have hD := hD0.self (sz := s.heap.size)
  generalize hAe : va_A (s_q k a f_q r_q c_q ++ (s_t k a f_t g_t ++ (s_r k a r_r ++ (s_c k a f_c g_c ++ (P))))) s.heap.size = A at hD hE ⊢
  have hA : ∀ q : Nat, s.heap.size ≤ q → A q := fun q h => by rw [← hAe]; exact Or.inr h
  have hl := lv_entry ([.ref (a 24), .int x1]) (n := 2) (Nat.le_of_ble_eq_true rfl)
  rw [lg_entry_eq]
  generalize (lg_sl ([.ref (a 24), .int x1]) ++ List.replicate (2 - (lg_sl ([.ref (a 24), .int x1])).length) Slot.unset).toArray = ls at hl ⊢
  exact h ((l, dC, dI, k, a), p, e, s, m, ([.ref (a 24), .int x1] : List Value).toArray, below, meth, c, A) rfl ⟨⟨B.exec, B.bytes, B.returns, htz, findClass_of_methodNamed B.named, B.notSynchronized, hml, hE, hK, hA⟩, hno, hlt⟩ s.heap [] ls hl hP hD va_S.rf
def zc_Q_never (C : CT) (Post : Int32 → va_W → Prop) (PX : String → va_W → Prop) (c0 s0 pc : Nat) (loc : List (Nat × Value)) (st : List Value) (ws : va_W) : Prop := zW C (z_rm 2 1 6) 2 (yI C 1 6 Post PX) c0 s0 pc loc st ws
set_option maxHeartbeats 1000000 in
set_option maxRecDepth 100000 in
theorem k_Q_never_0 {C : CT} (X : cX C "QuestionText" b_Q_never 2 (some .int)) (Post : Int32 → va_W → Prop) (PX : String → va_W → Prop) {P_22 : Int32 → va_W → Prop} (x1 : Int32) (f_q : FT) (r_q : Nat → Nat → Option Nat) (c_q : Nat) (f_t : FT) (g_t : GT) (r_r : Nat → Nat → Option Nat) (f_c : FT) (g_c : GT) (P : va_W) (qa : Nat) (ka : Nat) (es : Int32) (e1 : Int64) (e2 : Int64) (e3 : Int64) (i1 : Nat) (c0 s0 : Nat) (hf : P[i1]? = some (c_q, .inr (3, [.ref qa, .ref ka, .int es, .long e1, .long e2, .long e3])))
    (b_22 : (0 ≤ x1) → c0 ≤ 1 ∧ s0 ≤ 6)
    (m_22 : (0 ≤ x1) → uI C.1 y_Q_memberOf (Cond.code y_Q_memberOf b_Q_memberOf 5 (some .int)) 1 0 0 [.long e2, .int x1] ([]) P_22)
    (k_22 : (0 ≤ x1) → ∀ (r : Int32) (u : va_W), P_22 r u → zc_Q_never C Post PX c0 s0 25 [(0, .ref (ad C.1 24)), (1, .int x1)] [.int r] (s_q C.1.2.2.2.1 C.1.2.2.2.2 f_q r_q c_q ++ (s_t C.1.2.2.2.1 C.1.2.2.2.2 f_t g_t ++ (s_r C.1.2.2.2.1 C.1.2.2.2.2 r_r ++ (s_c C.1.2.2.2.1 C.1.2.2.2.2 f_c g_c ++ (P))))))
    (b_4 : (¬ 0 ≤ x1) → c0 + 1 ≤ 1 ∧ s0 + 6 ≤ 6)
    (t_4 : (¬ 0 ≤ x1) → PX "java/lang/IllegalArgumentException" (s_q C.1.2.2.2.1 C.1.2.2.2.2 f_q r_q c_q ++ (s_t C.1.2.2.2.1 C.1.2.2.2.2 f_t g_t ++ (s_r C.1.2.2.2.1 C.1.2.2.2.2 r_r ++ (s_c C.1.2.2.2.1 C.1.2.2.2.2 f_c g_c ++ (P)))))) : zc_Q_never C Post PX c0 s0 0 [(0, .ref (ad C.1 24)), (1, .int x1)] [] (s_q C.1.2.2.2.1 C.1.2.2.2.2 f_q r_q c_q ++ (s_t C.1.2.2.2.1 C.1.2.2.2.2 f_t g_t ++ (s_r C.1.2.2.2.1 C.1.2.2.2.2 r_r ++ (s_c C.1.2.2.2.1 C.1.2.2.2.2 f_c g_c ++ (P))))) := by
  obtain ⟨⟨l, dC, dI, k, a⟩, p, e, s, m, args, below, meth, c, A⟩ := C
  obtain ⟨⟨hx, hb, hr, htz, hown, hlocks, hml, hE, hK, hA⟩, hno, hlt⟩ := X
  intro H locs ls hl hP hD hS
  have hl : lv_has ls 2 [(0, .ref (a 24)), (1, .int x1)] := hl
  have hP : va_P (dC, dI) classes (s_q k a f_q r_q c_q ++ (s_t k a f_t g_t ++ (s_r k a r_r ++ (s_c k a f_c g_c ++ (P))))) H := hP
  have hD : va_D A (s_q k a f_q r_q c_q ++ (s_t k a f_t g_t ++ (s_r k a r_r ++ (s_c k a f_c g_c ++ (P))))) := hD
  show W p l e (z_rm 2 1 6) s m args below meth c H locs c0 s0 _ (F0 m 0 ls [])
  refine lv_iload_n hx hb d_Q_never_0 rfl (lv_at hl 1 rfl) ?_
  refine lv_if_ge (tgt := 14) hx hb d_Q_never_1 (by decide) (fun c_1 => ?_) (fun c_1 => ?_)
  · refine lv_aload_n hx hb d_Q_never_14 rfl (lv_at hl 0 rfl) ?_
    refine va_get (D := (dC, dI)) (ci := 0) (v := .ref c_q) (C := R_Q) (T := F_Q) (N := 6) hx hb htz i_Q hown hK hP 0 rfl rfl 3 (by decide) (htz _ kf_Q_30) (fun _ h9 => h9) rfl d_Q_never_15 ?_
    refine va_getN (D := (dC, dI)) (ci := 3) (v := .long e2) (C := R_Ed) (T := F_Ed) (N := 6) hx hb htz i_Ed hown hK hP (i1 + 9) hf rfl 4 (by decide) (va_Nw.use rfl (hE.2.1 _ kf_Q_172)) (fun _ h9 => h9) rfl d_Q_never_18 ?_
    refine lv_iload_n hx hb d_Q_never_21 rfl (lv_at hl 1 rfl) ?_
    have hFc : ∀ q, va_A [] H.size q → A q := fun q h => h.elim (fun z => by obtain ⟨i9, e9, h9⟩ := z; cases h9) (fun z => hA q (Nat.le_trans hS.1 z))
    refine va_calli (va_runS (As := [.long e2, .int x1]) (rest := []) ⟨hx, hb, hml, hown, htz⟩ ((m_22 c_1) H.size) (va_cwS 2 htz (z_gS (fun _ h => h) km_Q_168 st_Q_memberOf ini_Q m_Q_memberOf) rfl rfl rfl (by decide +kernel) ⟨(Nat.le_of_ble_eq_true rfl), (Nat.le_of_ble_eq_true rfl)⟩) ⟨z_blind, fun U hU hW => ⟨rfl, by rw [hU], hE.call hS hFc hU hW, by rw [hU]; exact zP0, va_K.moved hW.alike hK, zD0⟩⟩ rfl rfl hl.1 rfl (lv_room (Nat.le_of_ble_eq_true rfl)) d_Q_never_22 (b_22 c_1)) hS (fun q _ h => hFc q h) hFc (fun r u t H1 locs ht hvm hw hB hz1 hk1 hS => ?_)
    obtain ⟨hP1, hK1, hD1⟩ := hB
    rw [ht] at hP1
    have hP : va_P (dC, dI) classes (s_q k a f_q r_q c_q ++ (s_t k a f_t g_t ++ (s_r k a r_r ++ (s_c k a f_c g_c ++ (P))))) H1 := hP.kept (fun j q hq => hk1 q.1 (hP j q hq).lt (fun z => z.elim (fun z => by obtain ⟨i9, e9, h9⟩ := z; cases h9) (fun z => absurd z (Nat.not_le.mpr (hP j q hq).lt))))
    exact (k_22 c_1) r _ hw H1 locs ls (lv_sub hl [0, 1] rfl) hP hD hS
  · obtain ⟨sa, hstr⟩ := hE.2.2.2.1 ("QuestionText", 159, "below 0") (by decide)
    have hB9 := z_thr (dC := dC) (dI := dI) (k := k) hP hK hD hS
    exact vx_throwS (own := "QuestionText") (cls := "java/lang/IllegalArgumentException") (text := "below 0") (names := ["java/lang/RuntimeException", "java/lang/Exception"]) (ik := 41) (is := 159) (ic := 45) hx hb hlt hown (by decide +kernel) (by decide +kernel) (htz _ kc_Q_41) (htz _ ini_IAE) hstr (z_hat th_Q_45 htz hE.2.1) tg_Q_41_45 hE.2.2.2.2.1 hE.2.2.2.2.2.1 hS (hl.1.trans hml.symm) d_Q_never_4 d_Q_never_7 d_Q_never_8 d_Q_never_10 d_Q_never_13 (fun x hx9 => (hno x hx9).elim) (Nat.le_of_ble_eq_true rfl) (Nat.le_of_ble_eq_true rfl) (b_4 c_1).1 (b_4 c_1).2 hlocks (fun t h1 h2 h3 => ⟨(s_q k a f_q r_q c_q ++ (s_t k a f_t g_t ++ (s_r k a r_r ++ (s_c k a f_c g_c ++ (P))))), trivial, ⟨(t_4 c_1), (hB9 t h1 h2 h3).1⟩, (hB9 t h1 h2 h3).2⟩) hS.2.2 (b_4 c_1).1 (b_4 c_1).2
set_option maxHeartbeats 1000000 in
set_option maxRecDepth 100000 in
theorem k_Q_never_25 {C : CT} (X : cX C "QuestionText" b_Q_never 2 (some .int)) (Post : Int32 → va_W → Prop) (PX : String → va_W → Prop) (x1 : Int32) (y0 : Int32) (f_q : FT) (r_q : Nat → Nat → Option Nat) (c_q : Nat) (f_t : FT) (g_t : GT) (r_r : Nat → Nat → Option Nat) (f_c : FT) (g_c : GT) (P : va_W) (qa : Nat) (ka : Nat) (es : Int32) (e1 : Int64) (e2 : Int64) (e3 : Int64) (i1 : Nat) (c0 s0 : Nat) (hf : P[i1]? = some (c_q, .inr (3, [.ref qa, .ref ka, .int es, .long e1, .long e2, .long e3])))
    (b_25 : c0 ≤ 1 ∧ s0 ≤ 6)
    (q_25 : Post (y0) (s_q C.1.2.2.2.1 C.1.2.2.2.2 f_q r_q c_q ++ (s_t C.1.2.2.2.1 C.1.2.2.2.2 f_t g_t ++ (s_r C.1.2.2.2.1 C.1.2.2.2.2 r_r ++ (s_c C.1.2.2.2.1 C.1.2.2.2.2 f_c g_c ++ (P)))))) : zc_Q_never C Post PX c0 s0 25 [(0, .ref (ad C.1 24)), (1, .int x1)] [.int y0] (s_q C.1.2.2.2.1 C.1.2.2.2.2 f_q r_q c_q ++ (s_t C.1.2.2.2.1 C.1.2.2.2.2 f_t g_t ++ (s_r C.1.2.2.2.1 C.1.2.2.2.2 r_r ++ (s_c C.1.2.2.2.1 C.1.2.2.2.2 f_c g_c ++ (P))))) := by
  obtain ⟨⟨l, dC, dI, k, a⟩, p, e, s, m, args, below, meth, c, A⟩ := C
  obtain ⟨⟨hx, hb, hr, htz, hown, hlocks, hml, hE, hK, hA⟩, hno, hlt⟩ := X
  intro H locs ls hl hP hD hS
  have hl : lv_has ls 2 [(0, .ref (a 24)), (1, .int x1)] := hl
  have hP : va_P (dC, dI) classes (s_q k a f_q r_q c_q ++ (s_t k a f_t g_t ++ (s_r k a r_r ++ (s_c k a f_c g_c ++ (P))))) H := hP
  have hD : va_D A (s_q k a f_q r_q c_q ++ (s_t k a f_t g_t ++ (s_r k a r_r ++ (s_c k a f_c g_c ++ (P))))) := hD
  show W p l e (z_rm 2 1 6) s m args below meth c H locs c0 s0 _ (F0 m 25 ls [.int y0])
  refine W.widen (k := 1) (n := 6) b_25.1 b_25.2 ?_
  refine vx_ret ?_
  exact W.iret (v := y0) hx hb hr (fun t ht hW => ⟨⟨_, (s_q k a f_q r_q c_q ++ (s_t k a f_t g_t ++ (s_r k a r_r ++ (s_c k a f_c g_c ++ (P))))), rfl, q_25, by rw [ht]; exact hP, va_K.moved hW.alike hK, hD⟩, hS.F ht⟩) hS.2.2 d_Q_never_25
set_option maxHeartbeats 1000000 in
set_option maxRecDepth 100000 in
theorem e_Q_never (T : ST) (hlt : T.1.stackTraces = false) (Post : Int32 → va_W → Prop) (PX : String → va_W → Prop) (x1 : Int32) (f_q : FT) (r_q : Nat → Nat → Option Nat) (c_q : Nat) (f_t : FT) (g_t : GT) (r_r : Nat → Nat → Option Nat) (f_c : FT) (g_c : GT) (P : va_W) (qa : Nat) (ka : Nat) (es : Int32) (e1 : Int64) (e2 : Int64) (e3 : Int64) (h : ∀ C : CT, C.1 = T → cX C "QuestionText" b_Q_never 2 (some .int) → zc_Q_never C Post PX 0 0 0 [(0, .ref (ad C.1 24)), (1, .int x1)] [] (s_q C.1.2.2.2.1 C.1.2.2.2.2 f_q r_q c_q ++ (s_t C.1.2.2.2.1 C.1.2.2.2.2 f_t g_t ++ (s_r C.1.2.2.2.1 C.1.2.2.2.2 r_r ++ (s_c C.1.2.2.2.1 C.1.2.2.2.2 f_c g_c ++ (P)))))) : xI T y_Q_never (Cond.code y_Q_never b_Q_never 2 (some .int)) 2 1 6 [.ref (ad T 24), .int x1] (s_q T.2.2.2.1 T.2.2.2.2 f_q r_q c_q ++ (s_t T.2.2.2.1 T.2.2.2.2 f_t g_t ++ (s_r T.2.2.2.1 T.2.2.2.2 r_r ++ (s_c T.2.2.2.1 T.2.2.2.2 f_c g_c ++ (P))))) Post PX := by
  obtain ⟨l, dC, dI, k, a⟩ := T
  intro sz
  refine vx_ofW (cc := b_Q_never) (maxL := 2) (ret := (some .int)) (by decide) rfl ?_
  intro p e s m args below meth c s₁ B hml hno hv
  obtain ⟨rfl, hsz, hE, hP, hK, hD0⟩ := hv
  have hts := atoms_spec (ws := (Cond.code y_Q_never b_Q_never 2 (some .int)) :: z_T) B.pre
  have htz : ∀ w ∈ z_T, w.before _ s = true := fun w h => hts w (z_cons w h)
  subst hsz
  have hD := hD0.self (sz := s.heap.size)
  generalize hAe : va_A (s_q k a f_q r_q c_q ++ (s_t k a f_t g_t ++ (s_r k a r_r ++ (s_c k a f_c g_c ++ (P))))) s.heap.size = A at hD hE ⊢
  have hA : ∀ q : Nat, s.heap.size ≤ q → A q := fun q h => by rw [← hAe]; exact Or.inr h
  have hl := lv_entry ([.ref (a 24), .int x1]) (n := 2) (Nat.le_of_ble_eq_true rfl)
  rw [lg_entry_eq]
  generalize (lg_sl ([.ref (a 24), .int x1]) ++ List.replicate (2 - (lg_sl ([.ref (a 24), .int x1])).length) Slot.unset).toArray = ls at hl ⊢
  exact h ((l, dC, dI, k, a), p, e, s, m, ([.ref (a 24), .int x1] : List Value).toArray, below, meth, c, A) rfl ⟨⟨B.exec, B.bytes, B.returns, htz, findClass_of_methodNamed B.named, B.notSynchronized, hml, hE, hK, hA⟩, hno, hlt⟩ s.heap [] ls hl hP hD va_S.rf
def zc_Q_endless (C : CT) (Post : Int32 → va_W → Prop) (PX : String → va_W → Prop) (c0 s0 pc : Nat) (loc : List (Nat × Value)) (st : List Value) (ws : va_W) : Prop := zW C (z_rm 2 1 6) 2 (yI C 1 6 Post PX) c0 s0 pc loc st ws
set_option maxHeartbeats 1000000 in
set_option maxRecDepth 100000 in
theorem k_Q_endless_0 {C : CT} (X : cX C "QuestionText" b_Q_endless 2 (some .int)) (Post : Int32 → va_W → Prop) (PX : String → va_W → Prop) {P_22 : Int32 → va_W → Prop} (x1 : Int32) (f_q : FT) (r_q : Nat → Nat → Option Nat) (c_q : Nat) (f_t : FT) (g_t : GT) (r_r : Nat → Nat → Option Nat) (f_c : FT) (g_c : GT) (P : va_W) (qa : Nat) (ka : Nat) (es : Int32) (e1 : Int64) (e2 : Int64) (e3 : Int64) (i1 : Nat) (c0 s0 : Nat) (hf : P[i1]? = some (c_q, .inr (3, [.ref qa, .ref ka, .int es, .long e1, .long e2, .long e3])))
    (b_22 : (0 ≤ x1) → c0 ≤ 1 ∧ s0 ≤ 6)
    (m_22 : (0 ≤ x1) → uI C.1 y_Q_memberOf (Cond.code y_Q_memberOf b_Q_memberOf 5 (some .int)) 1 0 0 [.long e3, .int x1] ([]) P_22)
    (k_22 : (0 ≤ x1) → ∀ (r : Int32) (u : va_W), P_22 r u → zc_Q_endless C Post PX c0 s0 25 [(0, .ref (ad C.1 24)), (1, .int x1)] [.int r] (s_q C.1.2.2.2.1 C.1.2.2.2.2 f_q r_q c_q ++ (s_t C.1.2.2.2.1 C.1.2.2.2.2 f_t g_t ++ (s_r C.1.2.2.2.1 C.1.2.2.2.2 r_r ++ (s_c C.1.2.2.2.1 C.1.2.2.2.2 f_c g_c ++ (P))))))
    (b_4 : (¬ 0 ≤ x1) → c0 + 1 ≤ 1 ∧ s0 + 6 ≤ 6)
    (t_4 : (¬ 0 ≤ x1) → PX "java/lang/IllegalArgumentException" (s_q C.1.2.2.2.1 C.1.2.2.2.2 f_q r_q c_q ++ (s_t C.1.2.2.2.1 C.1.2.2.2.2 f_t g_t ++ (s_r C.1.2.2.2.1 C.1.2.2.2.2 r_r ++ (s_c C.1.2.2.2.1 C.1.2.2.2.2 f_c g_c ++ (P)))))) : zc_Q_endless C Post PX c0 s0 0 [(0, .ref (ad C.1 24)), (1, .int x1)] [] (s_q C.1.2.2.2.1 C.1.2.2.2.2 f_q r_q c_q ++ (s_t C.1.2.2.2.1 C.1.2.2.2.2 f_t g_t ++ (s_r C.1.2.2.2.1 C.1.2.2.2.2 r_r ++ (s_c C.1.2.2.2.1 C.1.2.2.2.2 f_c g_c ++ (P))))) := by
  obtain ⟨⟨l, dC, dI, k, a⟩, p, e, s, m, args, below, meth, c, A⟩ := C
  obtain ⟨⟨hx, hb, hr, htz, hown, hlocks, hml, hE, hK, hA⟩, hno, hlt⟩ := X
  intro H locs ls hl hP hD hS
  have hl : lv_has ls 2 [(0, .ref (a 24)), (1, .int x1)] := hl
  have hP : va_P (dC, dI) classes (s_q k a f_q r_q c_q ++ (s_t k a f_t g_t ++ (s_r k a r_r ++ (s_c k a f_c g_c ++ (P))))) H := hP
  have hD : va_D A (s_q k a f_q r_q c_q ++ (s_t k a f_t g_t ++ (s_r k a r_r ++ (s_c k a f_c g_c ++ (P))))) := hD
  show W p l e (z_rm 2 1 6) s m args below meth c H locs c0 s0 _ (F0 m 0 ls [])
  refine lv_iload_n hx hb d_Q_endless_0 rfl (lv_at hl 1 rfl) ?_
  refine lv_if_ge (tgt := 14) hx hb d_Q_endless_1 (by decide) (fun c_1 => ?_) (fun c_1 => ?_)
  · refine lv_aload_n hx hb d_Q_endless_14 rfl (lv_at hl 0 rfl) ?_
    refine va_get (D := (dC, dI)) (ci := 0) (v := .ref c_q) (C := R_Q) (T := F_Q) (N := 6) hx hb htz i_Q hown hK hP 0 rfl rfl 3 (by decide) (htz _ kf_Q_30) (fun _ h9 => h9) rfl d_Q_endless_15 ?_
    refine va_getN (D := (dC, dI)) (ci := 3) (v := .long e3) (C := R_Ed) (T := F_Ed) (N := 6) hx hb htz i_Ed hown hK hP (i1 + 9) hf rfl 5 (by decide) (va_Nw.use rfl (hE.2.1 _ kf_Q_175)) (fun _ h9 => h9) rfl d_Q_endless_18 ?_
    refine lv_iload_n hx hb d_Q_endless_21 rfl (lv_at hl 1 rfl) ?_
    have hFc : ∀ q, va_A [] H.size q → A q := fun q h => h.elim (fun z => by obtain ⟨i9, e9, h9⟩ := z; cases h9) (fun z => hA q (Nat.le_trans hS.1 z))
    refine va_calli (va_runS (As := [.long e3, .int x1]) (rest := []) ⟨hx, hb, hml, hown, htz⟩ ((m_22 c_1) H.size) (va_cwS 2 htz (z_gS (fun _ h => h) km_Q_168 st_Q_memberOf ini_Q m_Q_memberOf) rfl rfl rfl (by decide +kernel) ⟨(Nat.le_of_ble_eq_true rfl), (Nat.le_of_ble_eq_true rfl)⟩) ⟨z_blind, fun U hU hW => ⟨rfl, by rw [hU], hE.call hS hFc hU hW, by rw [hU]; exact zP0, va_K.moved hW.alike hK, zD0⟩⟩ rfl rfl hl.1 rfl (lv_room (Nat.le_of_ble_eq_true rfl)) d_Q_endless_22 (b_22 c_1)) hS (fun q _ h => hFc q h) hFc (fun r u t H1 locs ht hvm hw hB hz1 hk1 hS => ?_)
    obtain ⟨hP1, hK1, hD1⟩ := hB
    rw [ht] at hP1
    have hP : va_P (dC, dI) classes (s_q k a f_q r_q c_q ++ (s_t k a f_t g_t ++ (s_r k a r_r ++ (s_c k a f_c g_c ++ (P))))) H1 := hP.kept (fun j q hq => hk1 q.1 (hP j q hq).lt (fun z => z.elim (fun z => by obtain ⟨i9, e9, h9⟩ := z; cases h9) (fun z => absurd z (Nat.not_le.mpr (hP j q hq).lt))))
    exact (k_22 c_1) r _ hw H1 locs ls (lv_sub hl [0, 1] rfl) hP hD hS
  · obtain ⟨sa, hstr⟩ := hE.2.2.2.1 ("QuestionText", 159, "below 0") (by decide)
    have hB9 := z_thr (dC := dC) (dI := dI) (k := k) hP hK hD hS
    exact vx_throwS (own := "QuestionText") (cls := "java/lang/IllegalArgumentException") (text := "below 0") (names := ["java/lang/RuntimeException", "java/lang/Exception"]) (ik := 41) (is := 159) (ic := 45) hx hb hlt hown (by decide +kernel) (by decide +kernel) (htz _ kc_Q_41) (htz _ ini_IAE) hstr (z_hat th_Q_45 htz hE.2.1) tg_Q_41_45 hE.2.2.2.2.1 hE.2.2.2.2.2.1 hS (hl.1.trans hml.symm) d_Q_endless_4 d_Q_endless_7 d_Q_endless_8 d_Q_endless_10 d_Q_endless_13 (fun x hx9 => (hno x hx9).elim) (Nat.le_of_ble_eq_true rfl) (Nat.le_of_ble_eq_true rfl) (b_4 c_1).1 (b_4 c_1).2 hlocks (fun t h1 h2 h3 => ⟨(s_q k a f_q r_q c_q ++ (s_t k a f_t g_t ++ (s_r k a r_r ++ (s_c k a f_c g_c ++ (P))))), trivial, ⟨(t_4 c_1), (hB9 t h1 h2 h3).1⟩, (hB9 t h1 h2 h3).2⟩) hS.2.2 (b_4 c_1).1 (b_4 c_1).2
set_option maxHeartbeats 1000000 in
set_option maxRecDepth 100000 in
theorem k_Q_endless_25 {C : CT} (X : cX C "QuestionText" b_Q_endless 2 (some .int)) (Post : Int32 → va_W → Prop) (PX : String → va_W → Prop) (x1 : Int32) (y0 : Int32) (f_q : FT) (r_q : Nat → Nat → Option Nat) (c_q : Nat) (f_t : FT) (g_t : GT) (r_r : Nat → Nat → Option Nat) (f_c : FT) (g_c : GT) (P : va_W) (qa : Nat) (ka : Nat) (es : Int32) (e1 : Int64) (e2 : Int64) (e3 : Int64) (i1 : Nat) (c0 s0 : Nat) (hf : P[i1]? = some (c_q, .inr (3, [.ref qa, .ref ka, .int es, .long e1, .long e2, .long e3])))
    (b_25 : c0 ≤ 1 ∧ s0 ≤ 6)
    (q_25 : Post (y0) (s_q C.1.2.2.2.1 C.1.2.2.2.2 f_q r_q c_q ++ (s_t C.1.2.2.2.1 C.1.2.2.2.2 f_t g_t ++ (s_r C.1.2.2.2.1 C.1.2.2.2.2 r_r ++ (s_c C.1.2.2.2.1 C.1.2.2.2.2 f_c g_c ++ (P)))))) : zc_Q_endless C Post PX c0 s0 25 [(0, .ref (ad C.1 24)), (1, .int x1)] [.int y0] (s_q C.1.2.2.2.1 C.1.2.2.2.2 f_q r_q c_q ++ (s_t C.1.2.2.2.1 C.1.2.2.2.2 f_t g_t ++ (s_r C.1.2.2.2.1 C.1.2.2.2.2 r_r ++ (s_c C.1.2.2.2.1 C.1.2.2.2.2 f_c g_c ++ (P))))) := by
  obtain ⟨⟨l, dC, dI, k, a⟩, p, e, s, m, args, below, meth, c, A⟩ := C
  obtain ⟨⟨hx, hb, hr, htz, hown, hlocks, hml, hE, hK, hA⟩, hno, hlt⟩ := X
  intro H locs ls hl hP hD hS
  have hl : lv_has ls 2 [(0, .ref (a 24)), (1, .int x1)] := hl
  have hP : va_P (dC, dI) classes (s_q k a f_q r_q c_q ++ (s_t k a f_t g_t ++ (s_r k a r_r ++ (s_c k a f_c g_c ++ (P))))) H := hP
  have hD : va_D A (s_q k a f_q r_q c_q ++ (s_t k a f_t g_t ++ (s_r k a r_r ++ (s_c k a f_c g_c ++ (P))))) := hD
  show W p l e (z_rm 2 1 6) s m args below meth c H locs c0 s0 _ (F0 m 25 ls [.int y0])
  refine W.widen (k := 1) (n := 6) b_25.1 b_25.2 ?_
  refine vx_ret ?_
  exact W.iret (v := y0) hx hb hr (fun t ht hW => ⟨⟨_, (s_q k a f_q r_q c_q ++ (s_t k a f_t g_t ++ (s_r k a r_r ++ (s_c k a f_c g_c ++ (P))))), rfl, q_25, by rw [ht]; exact hP, va_K.moved hW.alike hK, hD⟩, hS.F ht⟩) hS.2.2 d_Q_endless_25
set_option maxHeartbeats 1000000 in
set_option maxRecDepth 100000 in
theorem e_Q_endless (T : ST) (hlt : T.1.stackTraces = false) (Post : Int32 → va_W → Prop) (PX : String → va_W → Prop) (x1 : Int32) (f_q : FT) (r_q : Nat → Nat → Option Nat) (c_q : Nat) (f_t : FT) (g_t : GT) (r_r : Nat → Nat → Option Nat) (f_c : FT) (g_c : GT) (P : va_W) (qa : Nat) (ka : Nat) (es : Int32) (e1 : Int64) (e2 : Int64) (e3 : Int64) (h : ∀ C : CT, C.1 = T → cX C "QuestionText" b_Q_endless 2 (some .int) → zc_Q_endless C Post PX 0 0 0 [(0, .ref (ad C.1 24)), (1, .int x1)] [] (s_q C.1.2.2.2.1 C.1.2.2.2.2 f_q r_q c_q ++ (s_t C.1.2.2.2.1 C.1.2.2.2.2 f_t g_t ++ (s_r C.1.2.2.2.1 C.1.2.2.2.2 r_r ++ (s_c C.1.2.2.2.1 C.1.2.2.2.2 f_c g_c ++ (P)))))) : xI T y_Q_endless (Cond.code y_Q_endless b_Q_endless 2 (some .int)) 2 1 6 [.ref (ad T 24), .int x1] (s_q T.2.2.2.1 T.2.2.2.2 f_q r_q c_q ++ (s_t T.2.2.2.1 T.2.2.2.2 f_t g_t ++ (s_r T.2.2.2.1 T.2.2.2.2 r_r ++ (s_c T.2.2.2.1 T.2.2.2.2 f_c g_c ++ (P))))) Post PX := by
  obtain ⟨l, dC, dI, k, a⟩ := T
  intro sz
  refine vx_ofW (cc := b_Q_endless) (maxL := 2) (ret := (some .int)) (by decide) rfl ?_
  intro p e s m args below meth c s₁ B hml hno hv
  obtain ⟨rfl, hsz, hE, hP, hK, hD0⟩ := hv
  have hts := atoms_spec (ws := (Cond.code y_Q_endless b_Q_endless 2 (some .int)) :: z_T) B.pre
  have htz : ∀ w ∈ z_T, w.before _ s = true := fun w h => hts w (z_cons w h)
  subst hsz
  have hD := hD0.self (sz := s.heap.size)
  generalize hAe : va_A (s_q k a f_q r_q c_q ++ (s_t k a f_t g_t ++ (s_r k a r_r ++ (s_c k a f_c g_c ++ (P))))) s.heap.size = A at hD hE ⊢
  have hA : ∀ q : Nat, s.heap.size ≤ q → A q := fun q h => by rw [← hAe]; exact Or.inr h
  have hl := lv_entry ([.ref (a 24), .int x1]) (n := 2) (Nat.le_of_ble_eq_true rfl)
  rw [lg_entry_eq]
  generalize (lg_sl ([.ref (a 24), .int x1]) ++ List.replicate (2 - (lg_sl ([.ref (a 24), .int x1])).length) Slot.unset).toArray = ls at hl ⊢
  exact h ((l, dC, dI, k, a), p, e, s, m, ([.ref (a 24), .int x1] : List Value).toArray, below, meth, c, A) rfl ⟨⟨B.exec, B.bytes, B.returns, htz, findClass_of_methodNamed B.named, B.notSynchronized, hml, hE, hK, hA⟩, hno, hlt⟩ s.heap [] ls hl hP hD va_S.rf
def zc_Q_sign (C : CT) (Post : Int32 → va_W → Prop) (PX : String → va_W → Prop) (c0 s0 pc : Nat) (loc : List (Nat × Value)) (st : List Value) (ws : va_W) : Prop := zW C (z_rm 1 1 6) 5 (yI C 1 6 Post PX) c0 s0 pc loc st ws
set_option maxHeartbeats 1000000 in
set_option maxRecDepth 100000 in
theorem k_Q_sign_0 {C : CT} (X : cX C "QuestionText" b_Q_sign 5 (some .int)) (Post : Int32 → va_W → Prop) (PX : String → va_W → Prop) (x1 : Int64) (x3 : Int32) (f_q : FT) (r_q : Nat → Nat → Option Nat) (c_q : Nat) (f_t : FT) (g_t : GT) (r_r : Nat → Nat → Option Nat) (f_c : FT) (g_c : GT) (P : va_W) (c0 s0 : Nat)
    (k_11 : (x3 < 1) → zc_Q_sign C Post PX c0 s0 11 [(0, .ref (ad C.1 24)), (1, .long x1), (3, .int x3)] [] (s_q C.1.2.2.2.1 C.1.2.2.2.2 f_q r_q c_q ++ (s_t C.1.2.2.2.1 C.1.2.2.2.2 f_t g_t ++ (s_r C.1.2.2.2.1 C.1.2.2.2.2 r_r ++ (s_c C.1.2.2.2.1 C.1.2.2.2.2 f_c g_c ++ (P))))))
    (k_51 : (¬ x3 < 1) → (x3 ≤ 8) → ((f_t 0) + x3 ≤ 400) → zc_Q_sign C Post PX c0 s0 51 [(0, .ref (ad C.1 24)), (1, .long x1), (3, .int x3), (4, .int (x3 - 1))] [] (s_q C.1.2.2.2.1 C.1.2.2.2.2 f_q r_q c_q ++ (s_t C.1.2.2.2.1 C.1.2.2.2.2 f_t g_t ++ (s_r C.1.2.2.2.1 C.1.2.2.2.2 r_r ++ (s_c C.1.2.2.2.1 C.1.2.2.2.2 f_c g_c ++ (P))))))
    (b_36 : (¬ x3 < 1) → (x3 ≤ 8) → (¬ (f_t 0) + x3 ≤ 400) → c0 + 1 ≤ 1 ∧ s0 + 6 ≤ 6)
    (t_36 : (¬ x3 < 1) → (x3 ≤ 8) → (¬ (f_t 0) + x3 ≤ 400) → PX "java/lang/IllegalStateException" (s_q C.1.2.2.2.1 C.1.2.2.2.2 f_q r_q c_q ++ (s_t C.1.2.2.2.1 C.1.2.2.2.2 f_t g_t ++ (s_r C.1.2.2.2.1 C.1.2.2.2.2 r_r ++ (s_c C.1.2.2.2.1 C.1.2.2.2.2 f_c g_c ++ (P))))))
    (k_11_1 : (¬ x3 < 1) → (¬ x3 ≤ 8) → zc_Q_sign C Post PX c0 s0 11 [(0, .ref (ad C.1 24)), (1, .long x1), (3, .int x3)] [] (s_q C.1.2.2.2.1 C.1.2.2.2.2 f_q r_q c_q ++ (s_t C.1.2.2.2.1 C.1.2.2.2.2 f_t g_t ++ (s_r C.1.2.2.2.1 C.1.2.2.2.2 r_r ++ (s_c C.1.2.2.2.1 C.1.2.2.2.2 f_c g_c ++ (P)))))) : zc_Q_sign C Post PX c0 s0 0 [(0, .ref (ad C.1 24)), (1, .long x1), (3, .int x3)] [] (s_q C.1.2.2.2.1 C.1.2.2.2.2 f_q r_q c_q ++ (s_t C.1.2.2.2.1 C.1.2.2.2.2 f_t g_t ++ (s_r C.1.2.2.2.1 C.1.2.2.2.2 r_r ++ (s_c C.1.2.2.2.1 C.1.2.2.2.2 f_c g_c ++ (P))))) := by
  obtain ⟨⟨l, dC, dI, k, a⟩, p, e, s, m, args, below, meth, c, A⟩ := C
  obtain ⟨⟨hx, hb, hr, htz, hown, hlocks, hml, hE, hK, hA⟩, hno, hlt⟩ := X
  intro H locs ls hl hP hD hS
  have hl : lv_has ls 5 [(0, .ref (a 24)), (1, .long x1), (3, .int x3)] := hl
  have hP : va_P (dC, dI) classes (s_q k a f_q r_q c_q ++ (s_t k a f_t g_t ++ (s_r k a r_r ++ (s_c k a f_c g_c ++ (P))))) H := hP
  have hD : va_D A (s_q k a f_q r_q c_q ++ (s_t k a f_t g_t ++ (s_r k a r_r ++ (s_c k a f_c g_c ++ (P))))) := hD
  show W p l e (z_rm 1 1 6) s m args below meth c H locs c0 s0 _ (F0 m 0 ls [])
  refine lv_iload_n hx hb d_Q_sign_0 rfl (lv_at hl 2 rfl) ?_
  refine lv_iconst (v := 1) hx hb d_Q_sign_1 (by decide) ?_
  refine lv_icmp_lt (tgt := 11) hx hb d_Q_sign_2 (by decide) (fun c_2 => ?_) (fun c_2 => ?_)
  · exact (k_11 c_2) H locs ls (lv_sub hl [0, 1, 2] rfl) hP hD hS
  · refine lv_iload_n hx hb d_Q_sign_5 rfl (lv_at hl 2 rfl) ?_
    refine lv_bipush (v := 8) hx hb d_Q_sign_6 (by decide) ?_
    refine lv_icmp_le (tgt := 21) hx hb d_Q_sign_8 (by decide) (fun c_8 => ?_) (fun c_8 => ?_)
    · refine lv_aload_n hx hb d_Q_sign_21 rfl (lv_at hl 0 rfl) ?_
      refine va_get (D := (dC, dI)) (ci := 0) (v := .ref (a 20)) (C := R_Q) (T := F_Q) (N := 6) hx hb htz i_Q hown hK hP 0 rfl rfl 0 (by decide) (htz _ kf_Q_10) (fun _ h9 => h9) rfl d_Q_sign_22 ?_
      refine va_getN (D := (dC, dI)) (ci := 1) (v := .int (f_t 0)) (C := R_TR) (T := F_TR) (N := 5) hx hb htz i_TR hown hK hP 2 rfl rfl 3 (by decide) (va_Nw.use rfl (hE.2.1 _ kf_Q_48)) (fun _ h9 => h9) rfl d_Q_sign_25 ?_
      refine lv_iload_n hx hb d_Q_sign_28 rfl (lv_at hl 2 rfl) ?_
      refine lv_iadd hx hb d_Q_sign_29 ?_
      refine lv_sipush (v := 400) hx hb d_Q_sign_30 (by decide) ?_
      refine lv_icmp_le (tgt := 46) hx hb d_Q_sign_33 (by decide) (fun c_33 => ?_) (fun c_33 => ?_)
      · refine lv_iload_n hx hb d_Q_sign_46 rfl (lv_at hl 2 rfl) ?_
        refine lv_iconst (v := 1) hx hb d_Q_sign_47 (by decide) ?_
        refine lv_isub hx hb d_Q_sign_48 ?_
        refine lv_istore (lv' := [(4, .int (x3 - 1)), (0, .ref (a 24)), (1, .long x1), (3, .int x3)]) hx hb d_Q_sign_49 hl (by decide) rfl (fun ls hl => ?_)
        exact (k_51 c_2 c_8 c_33) H locs ls (lv_sub hl [1, 2, 3, 0] rfl) hP hD hS
      · obtain ⟨sa, hstr⟩ := hE.2.2.2.1 ("QuestionText", 53, "a text has at most 400 bytes") (by decide)
        have hB9 := z_thr (dC := dC) (dI := dI) (k := k) hP hK hD hS
        exact vx_throwS (own := "QuestionText") (cls := "java/lang/IllegalStateException") (text := "a text has at most 400 bytes") (names := ["java/lang/RuntimeException", "java/lang/Exception"]) (ik := 51) (is := 53) (ic := 55) hx hb hlt hown (by decide +kernel) (by decide +kernel) (htz _ kc_Q_51) (htz _ ini_ISE) hstr (z_hat th_Q_55 htz hE.2.1) tg_Q_51_55 hE.2.2.2.2.1 hE.2.2.2.2.2.1 hS (hl.1.trans hml.symm) d_Q_sign_36 d_Q_sign_39 d_Q_sign_40 d_Q_sign_42 d_Q_sign_45 (fun x hx9 => (hno x hx9).elim) (Nat.le_of_ble_eq_true rfl) (Nat.le_of_ble_eq_true rfl) (b_36 c_2 c_8 c_33).1 (b_36 c_2 c_8 c_33).2 hlocks (fun t h1 h2 h3 => ⟨(s_q k a f_q r_q c_q ++ (s_t k a f_t g_t ++ (s_r k a r_r ++ (s_c k a f_c g_c ++ (P))))), trivial, ⟨(t_36 c_2 c_8 c_33), (hB9 t h1 h2 h3).1⟩, (hB9 t h1 h2 h3).2⟩) hS.2.2 (b_36 c_2 c_8 c_33).1 (b_36 c_2 c_8 c_33).2
    · exact (k_11_1 c_2 c_8) H locs ls (lv_sub hl [0, 1, 2] rfl) hP hD hS
set_option maxHeartbeats 1000000 in
set_option maxRecDepth 100000 in
theorem k_Q_sign_11 {C : CT} (X : cX C "QuestionText" b_Q_sign 5 (some .int)) (Post : Int32 → va_W → Prop) (PX : String → va_W → Prop) (x1 : Int64) (x3 : Int32) (f_q : FT) (r_q : Nat → Nat → Option Nat) (c_q : Nat) (f_t : FT) (g_t : GT) (r_r : Nat → Nat → Option Nat) (f_c : FT) (g_c : GT) (P : va_W) (c0 s0 : Nat)
    (b_11 : c0 + 1 ≤ 1 ∧ s0 + 6 ≤ 6)
    (t_11 : PX "java/lang/IllegalArgumentException" (s_q C.1.2.2.2.1 C.1.2.2.2.2 f_q r_q c_q ++ (s_t C.1.2.2.2.1 C.1.2.2.2.2 f_t g_t ++ (s_r C.1.2.2.2.1 C.1.2.2.2.2 r_r ++ (s_c C.1.2.2.2.1 C.1.2.2.2.2 f_c g_c ++ (P)))))) : zc_Q_sign C Post PX c0 s0 11 [(0, .ref (ad C.1 24)), (1, .long x1), (3, .int x3)] [] (s_q C.1.2.2.2.1 C.1.2.2.2.2 f_q r_q c_q ++ (s_t C.1.2.2.2.1 C.1.2.2.2.2 f_t g_t ++ (s_r C.1.2.2.2.1 C.1.2.2.2.2 r_r ++ (s_c C.1.2.2.2.1 C.1.2.2.2.2 f_c g_c ++ (P))))) := by
  obtain ⟨⟨l, dC, dI, k, a⟩, p, e, s, m, args, below, meth, c, A⟩ := C
  obtain ⟨⟨hx, hb, hr, htz, hown, hlocks, hml, hE, hK, hA⟩, hno, hlt⟩ := X
  intro H locs ls hl hP hD hS
  have hl : lv_has ls 5 [(0, .ref (a 24)), (1, .long x1), (3, .int x3)] := hl
  have hP : va_P (dC, dI) classes (s_q k a f_q r_q c_q ++ (s_t k a f_t g_t ++ (s_r k a r_r ++ (s_c k a f_c g_c ++ (P))))) H := hP
  have hD : va_D A (s_q k a f_q r_q c_q ++ (s_t k a f_t g_t ++ (s_r k a r_r ++ (s_c k a f_c g_c ++ (P))))) := hD
  show W p l e (z_rm 1 1 6) s m args below meth c H locs c0 s0 _ (F0 m 11 ls [])
  obtain ⟨sa, hstr⟩ := hE.2.2.2.1 ("QuestionText", 43, "1 to 8 bytes at once") (by decide)
  have hB9 := z_thr (dC := dC) (dI := dI) (k := k) hP hK hD hS
  exact vx_throwS (own := "QuestionText") (cls := "java/lang/IllegalArgumentException") (text := "1 to 8 bytes at once") (names := ["java/lang/RuntimeException", "java/lang/Exception"]) (ik := 41) (is := 43) (ic := 45) hx hb hlt hown (by decide +kernel) (by decide +kernel) (htz _ kc_Q_41) (htz _ ini_IAE) hstr (z_hat th_Q_45 htz hE.2.1) tg_Q_41_45 hE.2.2.2.2.1 hE.2.2.2.2.2.1 hS (hl.1.trans hml.symm) d_Q_sign_11 d_Q_sign_14 d_Q_sign_15 d_Q_sign_17 d_Q_sign_20 (fun x hx9 => (hno x hx9).elim) (Nat.le_of_ble_eq_true rfl) (Nat.le_of_ble_eq_true rfl) b_11.1 b_11.2 hlocks (fun t h1 h2 h3 => ⟨(s_q k a f_q r_q c_q ++ (s_t k a f_t g_t ++ (s_r k a r_r ++ (s_c k a f_c g_c ++ (P))))), trivial, ⟨t_11, (hB9 t h1 h2 h3).1⟩, (hB9 t h1 h2 h3).2⟩) hS.2.2 b_11.1 b_11.2
set_option maxHeartbeats 1000000 in
set_option maxRecDepth 100000 in
theorem k_Q_sign_51 {C : CT} (X : cX C "QuestionText" b_Q_sign 5 (some .int)) (Post : Int32 → va_W → Prop) (PX : String → va_W → Prop) {P_72 : va_W → Prop} (x1 : Int64) (x3 : Int32) (x4 : Int32) (f_q : FT) (r_q : Nat → Nat → Option Nat) (c_q : Nat) (f_t : FT) (g_t : GT) (r_r : Nat → Nat → Option Nat) (f_c : FT) (g_c : GT) (P : va_W) (c0 s0 : Nat)
    (b_88 : (x4 < 0) → c0 ≤ 1 ∧ s0 ≤ 6)
    (q_88 : (x4 < 0) → Post (f_t 0) (s_q C.1.2.2.2.1 C.1.2.2.2.2 f_q r_q c_q ++ (s_t C.1.2.2.2.1 C.1.2.2.2.2 f_t g_t ++ (s_r C.1.2.2.2.1 C.1.2.2.2.2 r_r ++ (s_c C.1.2.2.2.1 C.1.2.2.2.2 f_c g_c ++ (P))))))
    (b_72 : (¬ x4 < 0) → c0 ≤ 1 ∧ s0 ≤ 6)
    (m_72 : (¬ x4 < 0) → uV C.1 y_TR_add (Cond.code y_TR_add b_TR_add 2 none) 0 0 0 [.ref (ad C.1 20), .int ((((x1.toUInt64 >>> ((8 * x4).toInt64.toUInt64 &&& Int64.toUInt64 63)).toInt64).toInt32) &&& 255)] (s_t C.1.2.2.2.1 C.1.2.2.2.2 f_t g_t) P_72)
    (k_72 : (¬ x4 < 0) → ∀ (u : va_W), P_72 u → zc_Q_sign C Post PX c0 s0 75 [(0, .ref (ad C.1 24)), (1, .long x1), (3, .int x3), (4, .int x4)] [] (s_q C.1.2.2.2.1 C.1.2.2.2.2 f_q r_q c_q ++ (u ++ (s_r C.1.2.2.2.1 C.1.2.2.2.2 r_r ++ (s_c C.1.2.2.2.1 C.1.2.2.2.2 f_c g_c ++ (P)))))) : zc_Q_sign C Post PX c0 s0 51 [(0, .ref (ad C.1 24)), (1, .long x1), (3, .int x3), (4, .int x4)] [] (s_q C.1.2.2.2.1 C.1.2.2.2.2 f_q r_q c_q ++ (s_t C.1.2.2.2.1 C.1.2.2.2.2 f_t g_t ++ (s_r C.1.2.2.2.1 C.1.2.2.2.2 r_r ++ (s_c C.1.2.2.2.1 C.1.2.2.2.2 f_c g_c ++ (P))))) := by
  obtain ⟨⟨l, dC, dI, k, a⟩, p, e, s, m, args, below, meth, c, A⟩ := C
  obtain ⟨⟨hx, hb, hr, htz, hown, hlocks, hml, hE, hK, hA⟩, hno, hlt⟩ := X
  intro H locs ls hl hP hD hS
  have hl : lv_has ls 5 [(0, .ref (a 24)), (1, .long x1), (3, .int x3), (4, .int x4)] := hl
  have hP : va_P (dC, dI) classes (s_q k a f_q r_q c_q ++ (s_t k a f_t g_t ++ (s_r k a r_r ++ (s_c k a f_c g_c ++ (P))))) H := hP
  have hD : va_D A (s_q k a f_q r_q c_q ++ (s_t k a f_t g_t ++ (s_r k a r_r ++ (s_c k a f_c g_c ++ (P))))) := hD
  show W p l e (z_rm 1 1 6) s m args below meth c H locs c0 s0 _ (F0 m 51 ls [])
  refine lv_iload hx hb d_Q_sign_51 (lv_at hl 3 rfl) ?_
  refine lv_if_lt (tgt := 81) hx hb d_Q_sign_53 (by decide) (fun c_53 => ?_) (fun c_53 => ?_)
  · refine lv_aload_n hx hb d_Q_sign_81 rfl (lv_at hl 0 rfl) ?_
    refine va_get (D := (dC, dI)) (ci := 0) (v := .ref (a 20)) (C := R_Q) (T := F_Q) (N := 6) hx hb htz i_Q hown hK hP 0 rfl rfl 0 (by decide) (htz _ kf_Q_10) (fun _ h9 => h9) rfl d_Q_sign_82 ?_
    refine va_getN (D := (dC, dI)) (ci := 1) (v := .int (f_t 0)) (C := R_TR) (T := F_TR) (N := 5) hx hb htz i_TR hown hK hP 2 rfl rfl 3 (by decide) (va_Nw.use rfl (hE.2.1 _ kf_Q_48)) (fun _ h9 => h9) rfl d_Q_sign_85 ?_
    refine W.widen (k := 1) (n := 6) (b_88 c_53).1 (b_88 c_53).2 ?_
    refine vx_ret ?_
    exact W.iret (v := f_t 0) hx hb hr (fun t ht hW => ⟨⟨_, (s_q k a f_q r_q c_q ++ (s_t k a f_t g_t ++ (s_r k a r_r ++ (s_c k a f_c g_c ++ (P))))), rfl, (q_88 c_53), by rw [ht]; exact hP, va_K.moved hW.alike hK, hD⟩, hS.F ht⟩) hS.2.2 d_Q_sign_88
  · refine lv_aload_n hx hb d_Q_sign_56 rfl (lv_at hl 0 rfl) ?_
    refine va_get (D := (dC, dI)) (ci := 0) (v := .ref (a 20)) (C := R_Q) (T := F_Q) (N := 6) hx hb htz i_Q hown hK hP 0 rfl rfl 0 (by decide) (htz _ kf_Q_10) (fun _ h9 => h9) rfl d_Q_sign_57 ?_
    refine lv_lload_n hx hb d_Q_sign_60 rfl (lv_at hl 1 rfl) ?_
    refine lv_bipush (v := 8) hx hb d_Q_sign_61 (by decide) ?_
    refine lv_iload hx hb d_Q_sign_63 (lv_at hl 3 rfl) ?_
    refine lv_imul hx hb d_Q_sign_65 ?_
    refine lv_lushr (v := (x1.toUInt64 >>> ((8 * x4).toInt64.toUInt64 &&& Int64.toUInt64 63)).toInt64) hx hb d_Q_sign_66 rfl ?_
    refine lv_l2i (v := ((x1.toUInt64 >>> ((8 * x4).toInt64.toUInt64 &&& Int64.toUInt64 63)).toInt64).toInt32) hx hb d_Q_sign_67 rfl ?_
    refine lv_sipush (v := 255) hx hb d_Q_sign_68 (by decide) ?_
    refine lv_iand hx hb d_Q_sign_71 ?_
    have hPf : va_P (dC, dI) classes ((s_q k a f_q r_q c_q) ++ ((s_t k a f_t g_t) ++ (s_r k a r_r ++ (s_c k a f_c g_c ++ (P))))) H := hP
    have hDf : va_D A ((s_q k a f_q r_q c_q) ++ ((s_t k a f_t g_t) ++ (s_r k a r_r ++ (s_c k a f_c g_c ++ (P))))) := hD
    have hFc := zfree hDf hS hA
    refine va_callv (va_runV (As := [.int ((((x1.toUInt64 >>> ((8 * x4).toInt64.toUInt64 &&& Int64.toUInt64 63)).toInt64).toInt32) &&& 255)]) (rest := []) ⟨hx, hb, hml, hown, htz⟩ ((m_72 c_53) H.size) (cwV 1 htz (z_gV (fun _ h => h) km_Q_56 in_TR_add se_TR_add ini_TR m_TR_add) rfl rfl rfl (by decide +kernel) ⟨(Nat.le_of_ble_eq_true rfl), (Nat.le_of_ble_eq_true rfl)⟩) ⟨z_blind, va_recv hK hP (ci := 1) (q0 := 2) rfl rfl, fun U hU hW => ⟨rfl, by rw [hU], hE.call hS hFc hU hW, by rw [hU]; exact (zPc hPf), va_K.moved hW.alike hK, (zDc hDf)⟩⟩ rfl rfl hl.1 rfl (lv_room (Nat.le_of_ble_eq_true rfl)) d_Q_sign_72 (b_72 c_53)) hS (fun q _ h => hFc q h) hFc (fun u t H1 locs ht hvm hw hB hz1 hk1 hS => ?_)
    obtain ⟨hP1, hK1, hD1⟩ := hB
    rw [ht] at hP1
    obtain ⟨hP, hD⟩ := zf hPf hDf hk1 hFc hP1 hD1
    exact (k_72 c_53) _ hw H1 locs ls (lv_sub hl [0, 1, 2, 3] rfl) hP hD hS
set_option maxHeartbeats 1000000 in
set_option maxRecDepth 100000 in
theorem k_Q_sign_75 {C : CT} (X : cX C "QuestionText" b_Q_sign 5 (some .int)) (Post : Int32 → va_W → Prop) (PX : String → va_W → Prop) (x1 : Int64) (x3 : Int32) (x4 : Int32) (f_q : FT) (r_q : Nat → Nat → Option Nat) (c_q : Nat) (f_t : FT) (g_t : GT) (r_r : Nat → Nat → Option Nat) (f_c : FT) (g_c : GT) (P : va_W) (c0 s0 : Nat)
    (k_51 : zc_Q_sign C Post PX c0 s0 51 [(0, .ref (ad C.1 24)), (1, .long x1), (3, .int x3), (4, .int (x4 + (-1)))] [] (s_q C.1.2.2.2.1 C.1.2.2.2.2 f_q r_q c_q ++ (s_t C.1.2.2.2.1 C.1.2.2.2.2 f_t g_t ++ (s_r C.1.2.2.2.1 C.1.2.2.2.2 r_r ++ (s_c C.1.2.2.2.1 C.1.2.2.2.2 f_c g_c ++ (P)))))) : zc_Q_sign C Post PX c0 s0 75 [(0, .ref (ad C.1 24)), (1, .long x1), (3, .int x3), (4, .int x4)] [] (s_q C.1.2.2.2.1 C.1.2.2.2.2 f_q r_q c_q ++ (s_t C.1.2.2.2.1 C.1.2.2.2.2 f_t g_t ++ (s_r C.1.2.2.2.1 C.1.2.2.2.2 r_r ++ (s_c C.1.2.2.2.1 C.1.2.2.2.2 f_c g_c ++ (P))))) := by
  obtain ⟨⟨l, dC, dI, k, a⟩, p, e, s, m, args, below, meth, c, A⟩ := C
  obtain ⟨⟨hx, hb, hr, htz, hown, hlocks, hml, hE, hK, hA⟩, hno, hlt⟩ := X
  intro H locs ls hl hP hD hS
  have hl : lv_has ls 5 [(0, .ref (a 24)), (1, .long x1), (3, .int x3), (4, .int x4)] := hl
  have hP : va_P (dC, dI) classes (s_q k a f_q r_q c_q ++ (s_t k a f_t g_t ++ (s_r k a r_r ++ (s_c k a f_c g_c ++ (P))))) H := hP
  have hD : va_D A (s_q k a f_q r_q c_q ++ (s_t k a f_t g_t ++ (s_r k a r_r ++ (s_c k a f_c g_c ++ (P))))) := hD
  show W p l e (z_rm 1 1 6) s m args below meth c H locs c0 s0 _ (F0 m 75 ls [])
  refine lv_iinc (v := x4 + (-1)) (lv' := [(4, .int (x4 + (-1))), (0, .ref (a 24)), (1, .long x1), (3, .int x3)]) hx hb d_Q_sign_75 hl (k := 3) rfl (rfl) (by decide) rfl (fun ls hl => ?_)
  refine lv_goto (tgt := 51) hx hb d_Q_sign_78 (by decide) ?_
  exact k_51 H locs ls (lv_sub hl [1, 2, 3, 0] rfl) hP hD hS
set_option maxHeartbeats 1000000 in
set_option maxRecDepth 100000 in
theorem e_Q_sign (T : ST) (hlt : T.1.stackTraces = false) (Post : Int32 → va_W → Prop) (PX : String → va_W → Prop) (x1 : Int64) (x3 : Int32) (f_q : FT) (r_q : Nat → Nat → Option Nat) (c_q : Nat) (f_t : FT) (g_t : GT) (r_r : Nat → Nat → Option Nat) (f_c : FT) (g_c : GT) (P : va_W) (h : ∀ C : CT, C.1 = T → cX C "QuestionText" b_Q_sign 5 (some .int) → zc_Q_sign C Post PX 0 0 0 [(0, .ref (ad C.1 24)), (1, .long x1), (3, .int x3)] [] (s_q C.1.2.2.2.1 C.1.2.2.2.2 f_q r_q c_q ++ (s_t C.1.2.2.2.1 C.1.2.2.2.2 f_t g_t ++ (s_r C.1.2.2.2.1 C.1.2.2.2.2 r_r ++ (s_c C.1.2.2.2.1 C.1.2.2.2.2 f_c g_c ++ (P)))))) : xI T y_Q_sign (Cond.code y_Q_sign b_Q_sign 5 (some .int)) 1 1 6 [.ref (ad T 24), .long x1, .int x3] (s_q T.2.2.2.1 T.2.2.2.2 f_q r_q c_q ++ (s_t T.2.2.2.1 T.2.2.2.2 f_t g_t ++ (s_r T.2.2.2.1 T.2.2.2.2 r_r ++ (s_c T.2.2.2.1 T.2.2.2.2 f_c g_c ++ (P))))) Post PX := by
  obtain ⟨l, dC, dI, k, a⟩ := T
  intro sz
  refine vx_ofW (cc := b_Q_sign) (maxL := 5) (ret := (some .int)) (by decide) rfl ?_
  intro p e s m args below meth c s₁ B hml hno hv
  obtain ⟨rfl, hsz, hE, hP, hK, hD0⟩ := hv
  have hts := atoms_spec (ws := (Cond.code y_Q_sign b_Q_sign 5 (some .int)) :: z_T) B.pre
  have htz : ∀ w ∈ z_T, w.before _ s = true := fun w h => hts w (z_cons w h)
  subst hsz
  have hD := hD0.self (sz := s.heap.size)
  generalize hAe : va_A (s_q k a f_q r_q c_q ++ (s_t k a f_t g_t ++ (s_r k a r_r ++ (s_c k a f_c g_c ++ (P))))) s.heap.size = A at hD hE ⊢
  have hA : ∀ q : Nat, s.heap.size ≤ q → A q := fun q h => by rw [← hAe]; exact Or.inr h
  have hl := lv_entry ([.ref (a 24), .long x1, .int x3]) (n := 5) (Nat.le_of_ble_eq_true rfl)
  rw [lg_entry_eq]
  generalize (lg_sl ([.ref (a 24), .long x1, .int x3]) ++ List.replicate (5 - (lg_sl ([.ref (a 24), .long x1, .int x3])).length) Slot.unset).toArray = ls at hl ⊢
  exact h ((l, dC, dI, k, a), p, e, s, m, ([.ref (a 24), .long x1, .int x3] : List Value).toArray, below, meth, c, A) rfl ⟨⟨B.exec, B.bytes, B.returns, htz, findClass_of_methodNamed B.named, B.notSynchronized, hml, hE, hK, hA⟩, hno, hlt⟩ s.heap [] ls hl hP hD va_S.rf
def zc_Q_edition (C : CT) (Post : Int32 → va_W → Prop) (PX : String → va_W → Prop) (c0 s0 pc : Nat) (loc : List (Nat × Value)) (st : List Value) (ws : va_W) : Prop := zW C (z_rm 2 1 6) 2 (yI C 1 6 Post PX) c0 s0 pc loc st ws
set_option maxHeartbeats 1000000 in
set_option maxRecDepth 100000 in
theorem k_Q_edition_0 {C : CT} (X : cX C "QuestionText" b_Q_edition 2 (some .int)) (Post : Int32 → va_W → Prop) (PX : String → va_W → Prop) {P_26 : va_W → Prop} (x1 : Int32) (f_q : FT) (r_q : Nat → Nat → Option Nat) (c_q : Nat) (f_t : FT) (g_t : GT) (r_r : Nat → Nat → Option Nat) (f_c : FT) (g_c : GT) (P : va_W) (c0 s0 : Nat)
    (k_12 : (x1 < 0) → zc_Q_edition C Post PX c0 s0 12 [(0, .ref (ad C.1 24)), (1, .int x1)] [] (s_q C.1.2.2.2.1 C.1.2.2.2.2 f_q r_q c_q ++ (s_t C.1.2.2.2.1 C.1.2.2.2.2 f_t g_t ++ (s_r C.1.2.2.2.1 C.1.2.2.2.2 r_r ++ (s_c C.1.2.2.2.1 C.1.2.2.2.2 f_c g_c ++ (P))))))
    (b_26 : (¬ x1 < 0) → (x1 ≤ f_q 0) → c0 ≤ 1 ∧ s0 ≤ 6)
    (m_26 : (¬ x1 < 0) → (x1 ≤ f_q 0) → uV C.1 y_Ca_clear (Cond.code y_Ca_clear b_Ca_clear 1 none) 1 0 0 [.ref (ad C.1 26)] (s_c C.1.2.2.2.1 C.1.2.2.2.2 f_c g_c) P_26)
    (k_26 : (¬ x1 < 0) → (x1 ≤ f_q 0) → ∀ (u : va_W), P_26 u → zc_Q_edition C Post PX c0 s0 29 [(0, .ref (ad C.1 24)), (1, .int x1)] [] (s_q C.1.2.2.2.1 C.1.2.2.2.2 f_q r_q c_q ++ (s_t C.1.2.2.2.1 C.1.2.2.2.2 f_t g_t ++ (s_r C.1.2.2.2.1 C.1.2.2.2.2 r_r)) ++ (u ++ (P))))
    (k_12_1 : (¬ x1 < 0) → (¬ x1 ≤ f_q 0) → zc_Q_edition C Post PX c0 s0 12 [(0, .ref (ad C.1 24)), (1, .int x1)] [] (s_q C.1.2.2.2.1 C.1.2.2.2.2 f_q r_q c_q ++ (s_t C.1.2.2.2.1 C.1.2.2.2.2 f_t g_t ++ (s_r C.1.2.2.2.1 C.1.2.2.2.2 r_r ++ (s_c C.1.2.2.2.1 C.1.2.2.2.2 f_c g_c ++ (P)))))) : zc_Q_edition C Post PX c0 s0 0 [(0, .ref (ad C.1 24)), (1, .int x1)] [] (s_q C.1.2.2.2.1 C.1.2.2.2.2 f_q r_q c_q ++ (s_t C.1.2.2.2.1 C.1.2.2.2.2 f_t g_t ++ (s_r C.1.2.2.2.1 C.1.2.2.2.2 r_r ++ (s_c C.1.2.2.2.1 C.1.2.2.2.2 f_c g_c ++ (P))))) := by
  obtain ⟨⟨l, dC, dI, k, a⟩, p, e, s, m, args, below, meth, c, A⟩ := C
  obtain ⟨⟨hx, hb, hr, htz, hown, hlocks, hml, hE, hK, hA⟩, hno, hlt⟩ := X
  intro H locs ls hl hP hD hS
  have hl : lv_has ls 2 [(0, .ref (a 24)), (1, .int x1)] := hl
  have hP : va_P (dC, dI) classes (s_q k a f_q r_q c_q ++ (s_t k a f_t g_t ++ (s_r k a r_r ++ (s_c k a f_c g_c ++ (P))))) H := hP
  have hD : va_D A (s_q k a f_q r_q c_q ++ (s_t k a f_t g_t ++ (s_r k a r_r ++ (s_c k a f_c g_c ++ (P))))) := hD
  show W p l e (z_rm 2 1 6) s m args below meth c H locs c0 s0 _ (F0 m 0 ls [])
  refine lv_iload_n hx hb d_Q_edition_0 rfl (lv_at hl 1 rfl) ?_
  refine lv_if_lt (tgt := 12) hx hb d_Q_edition_1 (by decide) (fun c_1 => ?_) (fun c_1 => ?_)
  · exact (k_12 c_1) H locs ls (lv_sub hl [0, 1] rfl) hP hD hS
  · refine lv_iload_n hx hb d_Q_edition_4 rfl (lv_at hl 1 rfl) ?_
    refine lv_aload_n hx hb d_Q_edition_5 rfl (lv_at hl 0 rfl) ?_
    refine va_get (D := (dC, dI)) (ci := 0) (v := .int (f_q 0)) (C := R_Q) (T := F_Q) (N := 6) hx hb htz i_Q hown hK hP 0 rfl rfl 4 (by decide) (htz _ kf_Q_34) (fun _ h9 => h9) rfl d_Q_edition_6 ?_
    refine lv_icmp_le (tgt := 22) hx hb d_Q_edition_9 (by decide) (fun c_9 => ?_) (fun c_9 => ?_)
    · refine lv_aload_n hx hb d_Q_edition_22 rfl (lv_at hl 0 rfl) ?_
      refine va_get (D := (dC, dI)) (ci := 0) (v := .ref (a 26)) (C := R_Q) (T := F_Q) (N := 6) hx hb htz i_Q hown hK hP 0 rfl rfl 2 (by decide) (htz _ kf_Q_25) (fun _ h9 => h9) rfl d_Q_edition_23 ?_
      have hPf : va_P (dC, dI) classes ((s_q k a f_q r_q c_q ++ (s_t k a f_t g_t ++ (s_r k a r_r))) ++ ((s_c k a f_c g_c) ++ (P))) H := zpP (by (try simp only [List.append_assoc]); exact List.Perm.refl _) hP
      have hDf : va_D A ((s_q k a f_q r_q c_q ++ (s_t k a f_t g_t ++ (s_r k a r_r))) ++ ((s_c k a f_c g_c) ++ (P))) := zpD (by (try simp only [List.append_assoc]); exact List.Perm.refl _) hD
      have hFc := zfree hDf hS hA
      refine va_callv (va_runV (As := []) (rest := []) ⟨hx, hb, hml, hown, htz⟩ ((m_26 c_1 c_9) H.size) (cwV 0 htz (z_gV (fun _ h => h) km_Q_60 in_Ca_clear se_Ca_clear ini_Ca m_Ca_clear) rfl rfl rfl (by decide +kernel) ⟨(Nat.le_of_ble_eq_true rfl), (Nat.le_of_ble_eq_true rfl)⟩) ⟨z_blind, va_recv hK hP (ci := 2) (q0 := 6) rfl rfl, fun U hU hW => ⟨rfl, by rw [hU], hE.call hS hFc hU hW, by rw [hU]; exact (zPc hPf), va_K.moved hW.alike hK, (zDc hDf)⟩⟩ rfl rfl hl.1 rfl (lv_room (Nat.le_of_ble_eq_true rfl)) d_Q_edition_26 (b_26 c_1 c_9)) hS (fun q _ h => hFc q h) hFc (fun u t H1 locs ht hvm hw hB hz1 hk1 hS => ?_)
      obtain ⟨hP1, hK1, hD1⟩ := hB
      rw [ht] at hP1
      obtain ⟨hP, hD⟩ := zf hPf hDf hk1 hFc hP1 hD1
      exact (k_26 c_1 c_9) _ hw H1 locs ls (lv_sub hl [0, 1] rfl) hP hD hS
    · exact (k_12_1 c_1 c_9) H locs ls (lv_sub hl [0, 1] rfl) hP hD hS
set_option maxHeartbeats 1000000 in
set_option maxRecDepth 100000 in
theorem k_Q_edition_12 {C : CT} (X : cX C "QuestionText" b_Q_edition 2 (some .int)) (Post : Int32 → va_W → Prop) (PX : String → va_W → Prop) (x1 : Int32) (f_q : FT) (r_q : Nat → Nat → Option Nat) (c_q : Nat) (f_t : FT) (g_t : GT) (r_r : Nat → Nat → Option Nat) (f_c : FT) (g_c : GT) (P : va_W) (c0 s0 : Nat)
    (b_12 : c0 + 1 ≤ 1 ∧ s0 + 6 ≤ 6)
    (t_12 : PX "java/lang/IllegalArgumentException" (s_q C.1.2.2.2.1 C.1.2.2.2.2 f_q r_q c_q ++ (s_t C.1.2.2.2.1 C.1.2.2.2.2 f_t g_t ++ (s_r C.1.2.2.2.1 C.1.2.2.2.2 r_r ++ (s_c C.1.2.2.2.1 C.1.2.2.2.2 f_c g_c ++ (P)))))) : zc_Q_edition C Post PX c0 s0 12 [(0, .ref (ad C.1 24)), (1, .int x1)] [] (s_q C.1.2.2.2.1 C.1.2.2.2.2 f_q r_q c_q ++ (s_t C.1.2.2.2.1 C.1.2.2.2.2 f_t g_t ++ (s_r C.1.2.2.2.1 C.1.2.2.2.2 r_r ++ (s_c C.1.2.2.2.1 C.1.2.2.2.2 f_c g_c ++ (P))))) := by
  obtain ⟨⟨l, dC, dI, k, a⟩, p, e, s, m, args, below, meth, c, A⟩ := C
  obtain ⟨⟨hx, hb, hr, htz, hown, hlocks, hml, hE, hK, hA⟩, hno, hlt⟩ := X
  intro H locs ls hl hP hD hS
  have hl : lv_has ls 2 [(0, .ref (a 24)), (1, .int x1)] := hl
  have hP : va_P (dC, dI) classes (s_q k a f_q r_q c_q ++ (s_t k a f_t g_t ++ (s_r k a r_r ++ (s_c k a f_c g_c ++ (P))))) H := hP
  have hD : va_D A (s_q k a f_q r_q c_q ++ (s_t k a f_t g_t ++ (s_r k a r_r ++ (s_c k a f_c g_c ++ (P))))) := hD
  show W p l e (z_rm 2 1 6) s m args below meth c H locs c0 s0 _ (F0 m 12 ls [])
  obtain ⟨sa, hstr⟩ := hE.2.2.2.1 ("QuestionText", 91, "no such edition") (by decide)
  have hB9 := z_thr (dC := dC) (dI := dI) (k := k) hP hK hD hS
  exact vx_throwS (own := "QuestionText") (cls := "java/lang/IllegalArgumentException") (text := "no such edition") (names := ["java/lang/RuntimeException", "java/lang/Exception"]) (ik := 41) (is := 91) (ic := 45) hx hb hlt hown (by decide +kernel) (by decide +kernel) (htz _ kc_Q_41) (htz _ ini_IAE) hstr (z_hat th_Q_45 htz hE.2.1) tg_Q_41_45 hE.2.2.2.2.1 hE.2.2.2.2.2.1 hS (hl.1.trans hml.symm) d_Q_edition_12 d_Q_edition_15 d_Q_edition_16 d_Q_edition_18 d_Q_edition_21 (fun x hx9 => (hno x hx9).elim) (Nat.le_of_ble_eq_true rfl) (Nat.le_of_ble_eq_true rfl) b_12.1 b_12.2 hlocks (fun t h1 h2 h3 => ⟨(s_q k a f_q r_q c_q ++ (s_t k a f_t g_t ++ (s_r k a r_r ++ (s_c k a f_c g_c ++ (P))))), trivial, ⟨t_12, (hB9 t h1 h2 h3).1⟩, (hB9 t h1 h2 h3).2⟩) hS.2.2 b_12.1 b_12.2
set_option maxHeartbeats 1000000 in
set_option maxRecDepth 100000 in
theorem k_Q_edition_29 {C : CT} (X : cX C "QuestionText" b_Q_edition 2 (some .int)) (Post : Int32 → va_W → Prop) (PX : String → va_W → Prop) (x1 : Int32) (f_q : FT) (r_q : Nat → Nat → Option Nat) (c_q : Nat) (f_t : FT) (g_t : GT) (r_r : Nat → Nat → Option Nat) (f_c : FT) (g_c : GT) (P : va_W) (c0 s0 : Nat)
    (h_35 : vp_in (x1) 9)
    (g_36 : ∃ (a36 i36 : Nat) (u36_0 : Nat) (u36_1 : Nat) (u36_2 : Int32) (u36_3 : Int64) (u36_4 : Int64) (u36_5 : Int64), (r_q 0) (x1 : Int32).toNatClampNeg = some a36 ∧ P[i36]? = some (a36, .inr (3, [.ref u36_0, .ref u36_1, .int u36_2, .long u36_3, .long u36_4, .long u36_5])))
    (b_46 : ∀ (a36 i36 : Nat) (u36_0 : Nat) (u36_1 : Nat) (u36_2 : Int32) (u36_3 : Int64) (u36_4 : Int64) (u36_5 : Int64), (r_q 0) (x1 : Int32).toNatClampNeg = some a36 → P[i36]? = some (a36, .inr (3, [.ref u36_0, .ref u36_1, .int u36_2, .long u36_3, .long u36_4, .long u36_5])) → c0 ≤ 1 ∧ s0 ≤ 6)
    (q_46 : ∀ (a36 i36 : Nat) (u36_0 : Nat) (u36_1 : Nat) (u36_2 : Int32) (u36_3 : Int64) (u36_4 : Int64) (u36_5 : Int64), (r_q 0) (x1 : Int32).toNatClampNeg = some a36 → P[i36]? = some (a36, .inr (3, [.ref u36_0, .ref u36_1, .int u36_2, .long u36_3, .long u36_4, .long u36_5])) → Post (u36_2) (s_q C.1.2.2.2.1 C.1.2.2.2.2 f_q r_q a36 ++ (s_t C.1.2.2.2.1 C.1.2.2.2.2 f_t g_t ++ (s_r C.1.2.2.2.1 C.1.2.2.2.2 r_r ++ (s_c C.1.2.2.2.1 C.1.2.2.2.2 f_c g_c ++ (P)))))) : zc_Q_edition C Post PX c0 s0 29 [(0, .ref (ad C.1 24)), (1, .int x1)] [] (s_q C.1.2.2.2.1 C.1.2.2.2.2 f_q r_q c_q ++ (s_t C.1.2.2.2.1 C.1.2.2.2.2 f_t g_t ++ (s_r C.1.2.2.2.1 C.1.2.2.2.2 r_r ++ (s_c C.1.2.2.2.1 C.1.2.2.2.2 f_c g_c ++ (P))))) := by
  obtain ⟨⟨l, dC, dI, k, a⟩, p, e, s, m, args, below, meth, c, A⟩ := C
  obtain ⟨⟨hx, hb, hr, htz, hown, hlocks, hml, hE, hK, hA⟩, hno, hlt⟩ := X
  intro H locs ls hl hP hD hS
  have hl : lv_has ls 2 [(0, .ref (a 24)), (1, .int x1)] := hl
  have hP : va_P (dC, dI) classes (s_q k a f_q r_q c_q ++ (s_t k a f_t g_t ++ (s_r k a r_r ++ (s_c k a f_c g_c ++ (P))))) H := hP
  have hD : va_D A (s_q k a f_q r_q c_q ++ (s_t k a f_t g_t ++ (s_r k a r_r ++ (s_c k a f_c g_c ++ (P))))) := hD
  show W p l e (z_rm 2 1 6) s m args below meth c H locs c0 s0 _ (F0 m 29 ls [])
  refine lv_aload_n hx hb d_Q_edition_29 rfl (lv_at hl 0 rfl) ?_
  refine lv_aload_n hx hb d_Q_edition_30 rfl (lv_at hl 0 rfl) ?_
  refine va_get (D := (dC, dI)) (ci := 0) (v := .ref (a 25)) (C := R_Q) (T := F_Q) (N := 6) hx hb htz i_Q hown hK hP 0 rfl rfl 1 (by decide) (htz _ kf_Q_18) (fun _ h9 => h9) rfl d_Q_edition_31 ?_
  refine lv_iload_n hx hb d_Q_edition_34 rfl (lv_at hl 1 rfl) ?_
  refine va_aldq hx hb hK hP 1 5 rfl rfl h_35 d_Q_edition_35 ?_
  obtain ⟨a36, i36, u36_0, u36_1, u36_2, u36_3, u36_4, u36_5, he36, hf36⟩ := g_36
  rw [he36]
  refine va_put (D := (dC, dI)) (ci := 0) (v := .ref a36) (ty := .object "QuestionText$Edition") (C := R_Q) (T := F_Q) (N := 6) hx hb htz i_Q t_Q o_Q n_Q hown hK hP hD hS 0 rfl rfl 3 (by decide) (htz _ kf_Q_30) (fun _ h9 => h9) rfl (by decide +kernel) rfl rfl (Nat.le_of_ble_eq_true rfl) d_Q_edition_36 (fun H locs hP hD hS => ?_)
  have hP : va_P (dC, dI) classes (s_q k a f_q r_q a36 ++ (s_t k a f_t g_t ++ (s_r k a r_r ++ (s_c k a f_c g_c ++ (P))))) H := hP
  have hD : va_D A (s_q k a f_q r_q a36 ++ (s_t k a f_t g_t ++ (s_r k a r_r ++ (s_c k a f_c g_c ++ (P))))) := hD
  refine lv_aload_n hx hb d_Q_edition_39 rfl (lv_at hl 0 rfl) ?_
  refine va_get (D := (dC, dI)) (ci := 0) (v := .ref a36) (C := R_Q) (T := F_Q) (N := 6) hx hb htz i_Q hown hK hP 0 rfl rfl 3 (by decide) (htz _ kf_Q_30) (fun _ h9 => h9) rfl d_Q_edition_40 ?_
  refine va_getN (D := (dC, dI)) (ci := 3) (v := .int u36_2) (C := R_Ed) (T := F_Ed) (N := 6) hx hb htz i_Ed hown hK hP (i36 + 9) hf36 rfl 2 (by decide) (va_Nw.use rfl (hE.2.1 _ kf_Q_88)) (fun _ h9 => h9) rfl d_Q_edition_43 ?_
  refine W.widen (k := 1) (n := 6) (b_46 a36 i36 u36_0 u36_1 u36_2 u36_3 u36_4 u36_5 he36 hf36).1 (b_46 a36 i36 u36_0 u36_1 u36_2 u36_3 u36_4 u36_5 he36 hf36).2 ?_
  refine vx_ret ?_
  exact W.iret (v := u36_2) hx hb hr (fun t ht hW => ⟨⟨_, (s_q k a f_q r_q a36 ++ (s_t k a f_t g_t ++ (s_r k a r_r ++ (s_c k a f_c g_c ++ (P))))), rfl, (q_46 a36 i36 u36_0 u36_1 u36_2 u36_3 u36_4 u36_5 he36 hf36), by rw [ht]; exact hP, va_K.moved hW.alike hK, hD⟩, hS.F ht⟩) hS.2.2 d_Q_edition_46
set_option maxHeartbeats 1000000 in
set_option maxRecDepth 100000 in
theorem e_Q_edition (T : ST) (hlt : T.1.stackTraces = false) (Post : Int32 → va_W → Prop) (PX : String → va_W → Prop) (x1 : Int32) (f_q : FT) (r_q : Nat → Nat → Option Nat) (c_q : Nat) (f_t : FT) (g_t : GT) (r_r : Nat → Nat → Option Nat) (f_c : FT) (g_c : GT) (P : va_W) (h : ∀ C : CT, C.1 = T → cX C "QuestionText" b_Q_edition 2 (some .int) → zc_Q_edition C Post PX 0 0 0 [(0, .ref (ad C.1 24)), (1, .int x1)] [] (s_q C.1.2.2.2.1 C.1.2.2.2.2 f_q r_q c_q ++ (s_t C.1.2.2.2.1 C.1.2.2.2.2 f_t g_t ++ (s_r C.1.2.2.2.1 C.1.2.2.2.2 r_r ++ (s_c C.1.2.2.2.1 C.1.2.2.2.2 f_c g_c ++ (P)))))) : xI T y_Q_edition (Cond.code y_Q_edition b_Q_edition 2 (some .int)) 2 1 6 [.ref (ad T 24), .int x1] (s_q T.2.2.2.1 T.2.2.2.2 f_q r_q c_q ++ (s_t T.2.2.2.1 T.2.2.2.2 f_t g_t ++ (s_r T.2.2.2.1 T.2.2.2.2 r_r ++ (s_c T.2.2.2.1 T.2.2.2.2 f_c g_c ++ (P))))) Post PX := by
  obtain ⟨l, dC, dI, k, a⟩ := T
  intro sz
  refine vx_ofW (cc := b_Q_edition) (maxL := 2) (ret := (some .int)) (by decide) rfl ?_
  intro p e s m args below meth c s₁ B hml hno hv
  obtain ⟨rfl, hsz, hE, hP, hK, hD0⟩ := hv
  have hts := atoms_spec (ws := (Cond.code y_Q_edition b_Q_edition 2 (some .int)) :: z_T) B.pre
  have htz : ∀ w ∈ z_T, w.before _ s = true := fun w h => hts w (z_cons w h)
  subst hsz
  have hD := hD0.self (sz := s.heap.size)
  generalize hAe : va_A (s_q k a f_q r_q c_q ++ (s_t k a f_t g_t ++ (s_r k a r_r ++ (s_c k a f_c g_c ++ (P))))) s.heap.size = A at hD hE ⊢
  have hA : ∀ q : Nat, s.heap.size ≤ q → A q := fun q h => by rw [← hAe]; exact Or.inr h
  have hl := lv_entry ([.ref (a 24), .int x1]) (n := 2) (Nat.le_of_ble_eq_true rfl)
  rw [lg_entry_eq]
  generalize (lg_sl ([.ref (a 24), .int x1]) ++ List.replicate (2 - (lg_sl ([.ref (a 24), .int x1])).length) Slot.unset).toArray = ls at hl ⊢
  exact h ((l, dC, dI, k, a), p, e, s, m, ([.ref (a 24), .int x1] : List Value).toArray, below, meth, c, A) rfl ⟨⟨B.exec, B.bytes, B.returns, htz, findClass_of_methodNamed B.named, B.notSynchronized, hml, hE, hK, hA⟩, hno, hlt⟩ s.heap [] ls hl hP hD va_S.rf
def zc_Q_first (C : CT) (Post : Int32 → va_W → Prop) (PX : String → va_W → Prop) (c0 s0 pc : Nat) (loc : List (Nat × Value)) (st : List Value) (ws : va_W) : Prop := zW C (z_rm 2 1 6) 3 (yI C 1 6 Post PX) c0 s0 pc loc st ws
set_option maxHeartbeats 1000000 in
set_option maxRecDepth 100000 in
theorem k_Q_first_0 {C : CT} (X : cX C "QuestionText" b_Q_first 3 (some .int)) (Post : Int32 → va_W → Prop) (PX : String → va_W → Prop) {P_5 : Option Nat → va_W → Prop} (x1 : Int32) (f_q : FT) (r_q : Nat → Nat → Option Nat) (c_q : Nat) (f_t : FT) (g_t : GT) (r_r : Nat → Nat → Option Nat) (f_c : FT) (g_c : GT) (P : va_W) (qa : Nat) (ka : Nat) (es : Int32) (e1 : Int64) (e2 : Int64) (e3 : Int64) (i1 : Nat) (c0 s0 : Nat) (hf : P[i1]? = some (c_q, .inr (3, [.ref qa, .ref ka, .int es, .long e1, .long e2, .long e3])))
    (b_5 : c0 ≤ 1 ∧ s0 ≤ 6)
    (m_5 : uR C.1 y_Ed_kindAt (Cond.code y_Ed_kindAt b_Ed_kindAt 2 (some (.object "QuestionText$Kind"))) 0 0 0 [.ref c_q, .int x1] (s_q C.1.2.2.2.1 C.1.2.2.2.2 f_q r_q c_q ++ (s_t C.1.2.2.2.1 C.1.2.2.2.2 f_t g_t ++ (s_r C.1.2.2.2.1 C.1.2.2.2.2 r_r ++ (s_c C.1.2.2.2.1 C.1.2.2.2.2 f_c g_c ++ (P))))) P_5)
    (k_5 : ∀ (r : Option Nat) (u : va_W), P_5 r u → zc_Q_first C Post PX c0 s0 8 [(0, .ref (ad C.1 24)), (1, .int x1)] [va_rf r] (u)) : zc_Q_first C Post PX c0 s0 0 [(0, .ref (ad C.1 24)), (1, .int x1)] [] (s_q C.1.2.2.2.1 C.1.2.2.2.2 f_q r_q c_q ++ (s_t C.1.2.2.2.1 C.1.2.2.2.2 f_t g_t ++ (s_r C.1.2.2.2.1 C.1.2.2.2.2 r_r ++ (s_c C.1.2.2.2.1 C.1.2.2.2.2 f_c g_c ++ (P))))) := by
  obtain ⟨⟨l, dC, dI, k, a⟩, p, e, s, m, args, below, meth, c, A⟩ := C
  obtain ⟨⟨hx, hb, hr, htz, hown, hlocks, hml, hE, hK, hA⟩, hno, hlt⟩ := X
  intro H locs ls hl hP hD hS
  have hl : lv_has ls 3 [(0, .ref (a 24)), (1, .int x1)] := hl
  have hP : va_P (dC, dI) classes (s_q k a f_q r_q c_q ++ (s_t k a f_t g_t ++ (s_r k a r_r ++ (s_c k a f_c g_c ++ (P))))) H := hP
  have hD : va_D A (s_q k a f_q r_q c_q ++ (s_t k a f_t g_t ++ (s_r k a r_r ++ (s_c k a f_c g_c ++ (P))))) := hD
  show W p l e (z_rm 2 1 6) s m args below meth c H locs c0 s0 _ (F0 m 0 ls [])
  refine lv_aload_n hx hb d_Q_first_0 rfl (lv_at hl 0 rfl) ?_
  refine va_get (D := (dC, dI)) (ci := 0) (v := .ref c_q) (C := R_Q) (T := F_Q) (N := 6) hx hb htz i_Q hown hK hP 0 rfl rfl 3 (by decide) (htz _ kf_Q_30) (fun _ h9 => h9) rfl d_Q_first_1 ?_
  refine lv_iload_n hx hb d_Q_first_4 rfl (lv_at hl 1 rfl) ?_
  have hFc : ∀ q, va_A (s_q k a f_q r_q c_q ++ (s_t k a f_t g_t ++ (s_r k a r_r ++ (s_c k a f_c g_c ++ (P))))) H.size q → A q := fun q h => h.elim (fun z => by obtain ⟨i9, e9, h9⟩ := z; exact hD.2 i9 _ h9) (fun z => hA q (Nat.le_trans hS.1 z))
  refine va_callq (va_runV (As := [.int x1]) (rest := []) ⟨hx, hb, hml, hown, htz⟩ (m_5 H.size) (cwV 1 htz (z_gV (fun _ h => h) km_Q_93 in_Ed_kindAt se_Ed_kindAt ini_Ed m_Ed_kindAt) rfl rfl rfl (by decide +kernel) ⟨(Nat.le_of_ble_eq_true rfl), (Nat.le_of_ble_eq_true rfl)⟩) ⟨z_blind, va_recv hK hP (ci := 3) (q0 := (i1 + 9)) rfl hf, fun U hU hW => ⟨rfl, by rw [hU], hE.call hS hFc hU hW, by rw [hU]; exact hP, va_K.moved hW.alike hK, (hD.weaken (fun _ _ _ _ => trivial))⟩⟩ rfl rfl hl.1 rfl (lv_room (Nat.le_of_ble_eq_true rfl)) d_Q_first_5 b_5) hS (fun q _ h => hFc q h) hFc (fun r u t H1 locs ht hvm hw hB hz1 hk1 hS => ?_)
  obtain ⟨hP1, hK1, hD1⟩ := hB
  rw [ht] at hP1
  have hP := hP1
  have hD := hD1.weaken (fun _ q _ h => hFc _ h)
  exact k_5 r _ hw H1 locs ls (lv_sub hl [0, 1] rfl) hP hD hS
set_option maxHeartbeats 1000000 in
set_option maxRecDepth 100000 in
theorem k_Q_first_8 {C : CT} (X : cX C "QuestionText" b_Q_first 3 (some .int)) (Post : Int32 → va_W → Prop) (PX : String → va_W → Prop) {P_27 : va_W → Prop} (x1 : Int32) (y0 : Option Nat) (f_q : FT) (r_q : Nat → Nat → Option Nat) (c_q : Nat) (f_t : FT) (g_t : GT) (r_r : Nat → Nat → Option Nat) (f_c : FT) (g_c : GT) (P : va_W) (qa : Nat) (ka : Nat) (es : Int32) (e1 : Int64) (e2 : Int64) (e3 : Int64) (i1 : Nat) (c0 s0 : Nat) (hf : P[i1]? = some (c_q, .inr (3, [.ref qa, .ref ka, .int es, .long e1, .long e2, .long e3])))
    (b_27 : (¬ y0 = none) → c0 ≤ 1 ∧ s0 ≤ 6)
    (m_27 : (¬ y0 = none) → uV C.1 y_Ca_clear (Cond.code y_Ca_clear b_Ca_clear 1 none) 1 0 0 [.ref (ad C.1 26)] (s_c C.1.2.2.2.1 C.1.2.2.2.2 f_c g_c) P_27)
    (k_27 : (¬ y0 = none) → ∀ (u : va_W), P_27 u → zc_Q_first C Post PX c0 s0 30 [(0, .ref (ad C.1 24)), (1, .int x1), (2, va_rf y0)] [] (s_q C.1.2.2.2.1 C.1.2.2.2.2 f_q r_q c_q ++ (s_t C.1.2.2.2.1 C.1.2.2.2.2 f_t g_t ++ (s_r C.1.2.2.2.1 C.1.2.2.2.2 r_r)) ++ (u ++ (P))))
    (b_13 : (y0 = none) → c0 + 1 ≤ 1 ∧ s0 + 6 ≤ 6)
    (t_13 : (y0 = none) → PX "java/lang/IllegalArgumentException" (s_q C.1.2.2.2.1 C.1.2.2.2.2 f_q r_q c_q ++ (s_t C.1.2.2.2.1 C.1.2.2.2.2 f_t g_t ++ (s_r C.1.2.2.2.1 C.1.2.2.2.2 r_r ++ (s_c C.1.2.2.2.1 C.1.2.2.2.2 f_c g_c ++ (P)))))) : zc_Q_first C Post PX c0 s0 8 [(0, .ref (ad C.1 24)), (1, .int x1)] [va_rf y0] (s_q C.1.2.2.2.1 C.1.2.2.2.2 f_q r_q c_q ++ (s_t C.1.2.2.2.1 C.1.2.2.2.2 f_t g_t ++ (s_r C.1.2.2.2.1 C.1.2.2.2.2 r_r ++ (s_c C.1.2.2.2.1 C.1.2.2.2.2 f_c g_c ++ (P))))) := by
  obtain ⟨⟨l, dC, dI, k, a⟩, p, e, s, m, args, below, meth, c, A⟩ := C
  obtain ⟨⟨hx, hb, hr, htz, hown, hlocks, hml, hE, hK, hA⟩, hno, hlt⟩ := X
  intro H locs ls hl hP hD hS
  have hl : lv_has ls 3 [(0, .ref (a 24)), (1, .int x1)] := hl
  have hP : va_P (dC, dI) classes (s_q k a f_q r_q c_q ++ (s_t k a f_t g_t ++ (s_r k a r_r ++ (s_c k a f_c g_c ++ (P))))) H := hP
  have hD : va_D A (s_q k a f_q r_q c_q ++ (s_t k a f_t g_t ++ (s_r k a r_r ++ (s_c k a f_c g_c ++ (P))))) := hD
  show W p l e (z_rm 2 1 6) s m args below meth c H locs c0 s0 _ (F0 m 8 ls [va_rf y0])
  refine qv_store_n (lv' := [(2, va_rf y0), (0, .ref (a 24)), (1, .int x1)]) hx hb d_Q_first_8 rfl hl (by decide) rfl (fun ls hl => ?_)
  refine qv_load_n hx hb d_Q_first_9 rfl (lv_at hl 0 rfl) ?_
  refine qv_nn (tgt := 23) hx hb d_Q_first_10 (by decide) (fun c_10 => ?_) (fun c_10 => ?_)
  · refine lv_aload_n hx hb d_Q_first_23 rfl (lv_at hl 1 rfl) ?_
    refine va_get (D := (dC, dI)) (ci := 0) (v := .ref (a 26)) (C := R_Q) (T := F_Q) (N := 6) hx hb htz i_Q hown hK hP 0 rfl rfl 2 (by decide) (htz _ kf_Q_25) (fun _ h9 => h9) rfl d_Q_first_24 ?_
    have hPf : va_P (dC, dI) classes ((s_q k a f_q r_q c_q ++ (s_t k a f_t g_t ++ (s_r k a r_r))) ++ ((s_c k a f_c g_c) ++ (P))) H := zpP (by (try simp only [List.append_assoc]); exact List.Perm.refl _) hP
    have hDf : va_D A ((s_q k a f_q r_q c_q ++ (s_t k a f_t g_t ++ (s_r k a r_r))) ++ ((s_c k a f_c g_c) ++ (P))) := zpD (by (try simp only [List.append_assoc]); exact List.Perm.refl _) hD
    have hFc := zfree hDf hS hA
    refine va_callv (va_runV (As := []) (rest := []) ⟨hx, hb, hml, hown, htz⟩ ((m_27 c_10) H.size) (cwV 0 htz (z_gV (fun _ h => h) km_Q_60 in_Ca_clear se_Ca_clear ini_Ca m_Ca_clear) rfl rfl rfl (by decide +kernel) ⟨(Nat.le_of_ble_eq_true rfl), (Nat.le_of_ble_eq_true rfl)⟩) ⟨z_blind, va_recv hK hP (ci := 2) (q0 := 6) rfl rfl, fun U hU hW => ⟨rfl, by rw [hU], hE.call hS hFc hU hW, by rw [hU]; exact (zPc hPf), va_K.moved hW.alike hK, (zDc hDf)⟩⟩ rfl rfl hl.1 rfl (lv_room (Nat.le_of_ble_eq_true rfl)) d_Q_first_27 (b_27 c_10)) hS (fun q _ h => hFc q h) hFc (fun u t H1 locs ht hvm hw hB hz1 hk1 hS => ?_)
    obtain ⟨hP1, hK1, hD1⟩ := hB
    rw [ht] at hP1
    obtain ⟨hP, hD⟩ := zf hPf hDf hk1 hFc hP1 hD1
    exact (k_27 c_10) _ hw H1 locs ls (lv_sub hl [1, 2, 0] rfl) hP hD hS
  · obtain ⟨sa, hstr⟩ := hE.2.2.2.1 ("QuestionText", 97, "no such kind in the edition") (by decide)
    have hB9 := z_thr (dC := dC) (dI := dI) (k := k) hP hK hD hS
    exact vx_throwS (own := "QuestionText") (cls := "java/lang/IllegalArgumentException") (text := "no such kind in the edition") (names := ["java/lang/RuntimeException", "java/lang/Exception"]) (ik := 41) (is := 97) (ic := 45) hx hb hlt hown (by decide +kernel) (by decide +kernel) (htz _ kc_Q_41) (htz _ ini_IAE) hstr (z_hat th_Q_45 htz hE.2.1) tg_Q_41_45 hE.2.2.2.2.1 hE.2.2.2.2.2.1 hS (hl.1.trans hml.symm) d_Q_first_13 d_Q_first_16 d_Q_first_17 d_Q_first_19 d_Q_first_22 (fun x hx9 => (hno x hx9).elim) (Nat.le_of_ble_eq_true rfl) (Nat.le_of_ble_eq_true rfl) (b_13 c_10).1 (b_13 c_10).2 hlocks (fun t h1 h2 h3 => ⟨(s_q k a f_q r_q c_q ++ (s_t k a f_t g_t ++ (s_r k a r_r ++ (s_c k a f_c g_c ++ (P))))), trivial, ⟨(t_13 c_10), (hB9 t h1 h2 h3).1⟩, (hB9 t h1 h2 h3).2⟩) hS.2.2 (b_13 c_10).1 (b_13 c_10).2
set_option maxHeartbeats 1000000 in
set_option maxRecDepth 100000 in
theorem k_Q_first_30 {C : CT} (X : cX C "QuestionText" b_Q_first 3 (some .int)) (Post : Int32 → va_W → Prop) (PX : String → va_W → Prop) {P_50 : Int32 → va_W → Prop} (x1 : Int32) (x2 : Option Nat) (f_q : FT) (r_q : Nat → Nat → Option Nat) (c_q : Nat) (f_t : FT) (g_t : GT) (r_r : Nat → Nat → Option Nat) (f_c : FT) (g_c : GT) (P : va_W) (qa : Nat) (ka : Nat) (es : Int32) (e1 : Int64) (e2 : Int64) (e3 : Int64) (i1 : Nat) (c0 s0 : Nat) (hf : P[i1]? = some (c_q, .inr (3, [.ref qa, .ref ka, .int es, .long e1, .long e2, .long e3])))
    (g_47 : ∃ (a47 i47 : Nat) (u47_0 : Int32) (u47_1 : Int32) (u47_2 : Nat), x2 = some a47 ∧ P[i47]? = some (a47, .inr (5, [.int u47_0, .int u47_1, .ref u47_2])))
    (b_50 : ∀ (a47 i47 : Nat) (u47_0 : Int32) (u47_1 : Int32) (u47_2 : Nat), x2 = some a47 → P[i47]? = some (a47, .inr (5, [.int u47_0, .int u47_1, .ref u47_2])) → c0 ≤ 1 ∧ s0 ≤ 6)
    (m_50 : ∀ (a47 i47 : Nat) (u47_0 : Int32) (u47_1 : Int32) (u47_2 : Nat), x2 = some a47 → P[i47]? = some (a47, .inr (5, [.int u47_0, .int u47_1, .ref u47_2])) → uI C.1 y_Ed_asNext (Cond.code y_Ed_asNext b_Ed_asNext 2 (some .int)) 1 0 0 [.ref c_q, .int u47_0] (s_q C.1.2.2.2.1 C.1.2.2.2.2 f_q r_q c_q ++ (s_t C.1.2.2.2.1 C.1.2.2.2.2 f_t g_t ++ (s_r C.1.2.2.2.1 C.1.2.2.2.2 r_r ++ (s_c C.1.2.2.2.1 C.1.2.2.2.2 (va_up f_c 3 x1) g_c ++ (P))))) P_50)
    (k_50 : ∀ (a47 i47 : Nat) (u47_0 : Int32) (u47_1 : Int32) (u47_2 : Nat), x2 = some a47 → P[i47]? = some (a47, .inr (5, [.int u47_0, .int u47_1, .ref u47_2])) → ∀ (r : Int32) (u : va_W), P_50 r u → zc_Q_first C Post PX c0 s0 53 [(0, .ref (ad C.1 24)), (1, .int x1), (2, va_rf x2)] [.int r, .ref (ad C.1 26)] (u)) : zc_Q_first C Post PX c0 s0 30 [(0, .ref (ad C.1 24)), (1, .int x1), (2, va_rf x2)] [] (s_q C.1.2.2.2.1 C.1.2.2.2.2 f_q r_q c_q ++ (s_t C.1.2.2.2.1 C.1.2.2.2.2 f_t g_t ++ (s_r C.1.2.2.2.1 C.1.2.2.2.2 r_r ++ (s_c C.1.2.2.2.1 C.1.2.2.2.2 f_c g_c ++ (P))))) := by
  obtain ⟨⟨l, dC, dI, k, a⟩, p, e, s, m, args, below, meth, c, A⟩ := C
  obtain ⟨⟨hx, hb, hr, htz, hown, hlocks, hml, hE, hK, hA⟩, hno, hlt⟩ := X
  intro H locs ls hl hP hD hS
  have hl : lv_has ls 3 [(0, .ref (a 24)), (1, .int x1), (2, va_rf x2)] := hl
  have hP : va_P (dC, dI) classes (s_q k a f_q r_q c_q ++ (s_t k a f_t g_t ++ (s_r k a r_r ++ (s_c k a f_c g_c ++ (P))))) H := hP
  have hD : va_D A (s_q k a f_q r_q c_q ++ (s_t k a f_t g_t ++ (s_r k a r_r ++ (s_c k a f_c g_c ++ (P))))) := hD
  show W p l e (z_rm 2 1 6) s m args below meth c H locs c0 s0 _ (F0 m 30 ls [])
  refine lv_aload_n hx hb d_Q_first_30 rfl (lv_at hl 0 rfl) ?_
  refine va_get (D := (dC, dI)) (ci := 0) (v := .ref (a 26)) (C := R_Q) (T := F_Q) (N := 6) hx hb htz i_Q hown hK hP 0 rfl rfl 2 (by decide) (htz _ kf_Q_25) (fun _ h9 => h9) rfl d_Q_first_31 ?_
  refine lv_iload_n hx hb d_Q_first_34 rfl (lv_at hl 1 rfl) ?_
  refine va_putN (D := (dC, dI)) (ci := 2) (v := .int x1) (ty := .int) (C := R_Ca) (T := F_Ca) (N := 6) hx hb htz i_Ca t_Ca o_Ca n_Ca hown hK hP hD hS 6 rfl rfl 5 (by decide) (va_Nw.use rfl (hE.2.1 _ kf_Q_99)) (fun _ h9 => h9) rfl (by decide +kernel) rfl rfl (Nat.le_of_ble_eq_true rfl) d_Q_first_35 (fun H locs hP hD hS => ?_)
  have hP : va_P (dC, dI) classes (s_q k a f_q r_q c_q ++ (s_t k a f_t g_t ++ (s_r k a r_r ++ (s_c k a (va_up f_c 3 x1) g_c ++ (P))))) H := hP
  have hD : va_D A (s_q k a f_q r_q c_q ++ (s_t k a f_t g_t ++ (s_r k a r_r ++ (s_c k a (va_up f_c 3 x1) g_c ++ (P))))) := hD
  refine lv_aload_n hx hb d_Q_first_38 rfl (lv_at hl 0 rfl) ?_
  refine va_get (D := (dC, dI)) (ci := 0) (v := .ref (a 26)) (C := R_Q) (T := F_Q) (N := 6) hx hb htz i_Q hown hK hP 0 rfl rfl 2 (by decide) (htz _ kf_Q_25) (fun _ h9 => h9) rfl d_Q_first_39 ?_
  refine lv_aload_n hx hb d_Q_first_42 rfl (lv_at hl 0 rfl) ?_
  refine va_get (D := (dC, dI)) (ci := 0) (v := .ref c_q) (C := R_Q) (T := F_Q) (N := 6) hx hb htz i_Q hown hK hP 0 rfl rfl 3 (by decide) (htz _ kf_Q_30) (fun _ h9 => h9) rfl d_Q_first_43 ?_
  refine qv_load_n hx hb d_Q_first_46 rfl (lv_at hl 2 rfl) ?_
  obtain ⟨a47, i47, u47_0, u47_1, u47_2, he47, hf47⟩ := g_47
  rw [he47]
  refine va_getN (D := (dC, dI)) (ci := 5) (v := .int u47_0) (C := R_Ki) (T := F_Ki) (N := 3) hx hb htz i_Ki hown hK hP (i47 + 9) hf47 rfl 0 (by decide) (va_Nw.use rfl (hE.2.1 _ kf_Q_102)) (fun _ h9 => h9) rfl d_Q_first_47 ?_
  have hFc : ∀ q, va_A (s_q k a f_q r_q c_q ++ (s_t k a f_t g_t ++ (s_r k a r_r ++ (s_c k a (va_up f_c 3 x1) g_c ++ (P))))) H.size q → A q := fun q h => h.elim (fun z => by obtain ⟨i9, e9, h9⟩ := z; exact hD.2 i9 _ h9) (fun z => hA q (Nat.le_trans hS.1 z))
  refine va_calli (va_runV (As := [.int u47_0]) (rest := [.ref (a 26)]) ⟨hx, hb, hml, hown, htz⟩ ((m_50 a47 i47 u47_0 u47_1 u47_2 he47 hf47) H.size) (cwV 1 htz (z_gV (fun _ h => h) km_Q_107 in_Ed_asNext se_Ed_asNext ini_Ed m_Ed_asNext) rfl rfl rfl (by decide +kernel) ⟨(Nat.le_of_ble_eq_true rfl), (Nat.le_of_ble_eq_true rfl)⟩) ⟨z_blind, va_recv hK hP (ci := 3) (q0 := (i1 + 9)) rfl hf, fun U hU hW => ⟨rfl, by rw [hU], hE.call hS hFc hU hW, by rw [hU]; exact hP, va_K.moved hW.alike hK, (hD.weaken (fun _ _ _ _ => trivial))⟩⟩ rfl rfl hl.1 rfl (lv_room (Nat.le_of_ble_eq_true rfl)) d_Q_first_50 (b_50 a47 i47 u47_0 u47_1 u47_2 he47 hf47)) hS (fun q _ h => hFc q h) hFc (fun r u t H1 locs ht hvm hw hB hz1 hk1 hS => ?_)
  obtain ⟨hP1, hK1, hD1⟩ := hB
  rw [ht] at hP1
  have hP := hP1
  have hD := hD1.weaken (fun _ q _ h => hFc _ h)
  exact (k_50 a47 i47 u47_0 u47_1 u47_2 he47 hf47) r _ hw H1 locs ls (lv_sub hl [0, 1, 2] rfl) hP hD hS
set_option maxHeartbeats 1000000 in
set_option maxRecDepth 100000 in
theorem k_Q_first_53 {C : CT} (X : cX C "QuestionText" b_Q_first 3 (some .int)) (Post : Int32 → va_W → Prop) (PX : String → va_W → Prop) {P_53 : va_W → Prop} (x1 : Int32) (x2 : Option Nat) (y0 : Int32) (f_q : FT) (r_q : Nat → Nat → Option Nat) (c_q : Nat) (f_t : FT) (g_t : GT) (r_r : Nat → Nat → Option Nat) (f_c : FT) (g_c : GT) (P : va_W) (qa : Nat) (ka : Nat) (es : Int32) (e1 : Int64) (e2 : Int64) (e3 : Int64) (i1 : Nat) (c0 s0 : Nat) (hf : P[i1]? = some (c_q, .inr (3, [.ref qa, .ref ka, .int es, .long e1, .long e2, .long e3])))
    (b_53 : c0 ≤ 1 ∧ s0 ≤ 6)
    (m_53 : uV C.1 y_Ca_ask (Cond.code y_Ca_ask b_Ca_ask 2 none) 0 0 0 [.ref (ad C.1 26), .int y0] (s_c C.1.2.2.2.1 C.1.2.2.2.2 f_c g_c) P_53)
    (k_53 : ∀ (u : va_W), P_53 u → zc_Q_first C Post PX c0 s0 56 [(0, .ref (ad C.1 24)), (1, .int x1), (2, va_rf x2)] [] (s_q C.1.2.2.2.1 C.1.2.2.2.2 f_q r_q c_q ++ (s_t C.1.2.2.2.1 C.1.2.2.2.2 f_t g_t ++ (s_r C.1.2.2.2.1 C.1.2.2.2.2 r_r)) ++ (u ++ (P)))) : zc_Q_first C Post PX c0 s0 53 [(0, .ref (ad C.1 24)), (1, .int x1), (2, va_rf x2)] [.int y0, .ref (ad C.1 26)] (s_q C.1.2.2.2.1 C.1.2.2.2.2 f_q r_q c_q ++ (s_t C.1.2.2.2.1 C.1.2.2.2.2 f_t g_t ++ (s_r C.1.2.2.2.1 C.1.2.2.2.2 r_r ++ (s_c C.1.2.2.2.1 C.1.2.2.2.2 f_c g_c ++ (P))))) := by
  obtain ⟨⟨l, dC, dI, k, a⟩, p, e, s, m, args, below, meth, c, A⟩ := C
  obtain ⟨⟨hx, hb, hr, htz, hown, hlocks, hml, hE, hK, hA⟩, hno, hlt⟩ := X
  intro H locs ls hl hP hD hS
  have hl : lv_has ls 3 [(0, .ref (a 24)), (1, .int x1), (2, va_rf x2)] := hl
  have hP : va_P (dC, dI) classes (s_q k a f_q r_q c_q ++ (s_t k a f_t g_t ++ (s_r k a r_r ++ (s_c k a f_c g_c ++ (P))))) H := hP
  have hD : va_D A (s_q k a f_q r_q c_q ++ (s_t k a f_t g_t ++ (s_r k a r_r ++ (s_c k a f_c g_c ++ (P))))) := hD
  show W p l e (z_rm 2 1 6) s m args below meth c H locs c0 s0 _ (F0 m 53 ls [.int y0, .ref (a 26)])
  have hPf : va_P (dC, dI) classes ((s_q k a f_q r_q c_q ++ (s_t k a f_t g_t ++ (s_r k a r_r))) ++ ((s_c k a f_c g_c) ++ (P))) H := zpP (by (try simp only [List.append_assoc]); exact List.Perm.refl _) hP
  have hDf : va_D A ((s_q k a f_q r_q c_q ++ (s_t k a f_t g_t ++ (s_r k a r_r))) ++ ((s_c k a f_c g_c) ++ (P))) := zpD (by (try simp only [List.append_assoc]); exact List.Perm.refl _) hD
  have hFc := zfree hDf hS hA
  refine va_callv (va_runV (As := [.int y0]) (rest := []) ⟨hx, hb, hml, hown, htz⟩ (m_53 H.size) (cwV 1 htz (z_gV (fun _ h => h) km_Q_111 in_Ca_ask se_Ca_ask ini_Ca m_Ca_ask) rfl rfl rfl (by decide +kernel) ⟨(Nat.le_of_ble_eq_true rfl), (Nat.le_of_ble_eq_true rfl)⟩) ⟨z_blind, va_recv hK hP (ci := 2) (q0 := 6) rfl rfl, fun U hU hW => ⟨rfl, by rw [hU], hE.call hS hFc hU hW, by rw [hU]; exact (zPc hPf), va_K.moved hW.alike hK, (zDc hDf)⟩⟩ rfl rfl hl.1 rfl (lv_room (Nat.le_of_ble_eq_true rfl)) d_Q_first_53 b_53) hS (fun q _ h => hFc q h) hFc (fun u t H1 locs ht hvm hw hB hz1 hk1 hS => ?_)
  obtain ⟨hP1, hK1, hD1⟩ := hB
  rw [ht] at hP1
  obtain ⟨hP, hD⟩ := zf hPf hDf hk1 hFc hP1 hD1
  exact k_53 _ hw H1 locs ls (lv_sub hl [0, 1, 2] rfl) hP hD hS
set_option maxHeartbeats 1000000 in
set_option maxRecDepth 100000 in
theorem k_Q_first_56 {C : CT} (X : cX C "QuestionText" b_Q_first 3 (some .int)) (Post : Int32 → va_W → Prop) (PX : String → va_W → Prop) (x1 : Int32) (x2 : Option Nat) (f_q : FT) (r_q : Nat → Nat → Option Nat) (c_q : Nat) (f_t : FT) (g_t : GT) (r_r : Nat → Nat → Option Nat) (f_c : FT) (g_c : GT) (P : va_W) (qa : Nat) (ka : Nat) (es : Int32) (e1 : Int64) (e2 : Int64) (e3 : Int64) (i1 : Nat) (c0 s0 : Nat) (hf : P[i1]? = some (c_q, .inr (3, [.ref qa, .ref ka, .int es, .long e1, .long e2, .long e3])))
    (b_63 : c0 ≤ 1 ∧ s0 ≤ 6)
    (q_63 : Post (f_c 1) (s_q C.1.2.2.2.1 C.1.2.2.2.2 f_q r_q c_q ++ (s_t C.1.2.2.2.1 C.1.2.2.2.2 f_t g_t ++ (s_r C.1.2.2.2.1 C.1.2.2.2.2 r_r ++ (s_c C.1.2.2.2.1 C.1.2.2.2.2 f_c g_c ++ (P)))))) : zc_Q_first C Post PX c0 s0 56 [(0, .ref (ad C.1 24)), (1, .int x1), (2, va_rf x2)] [] (s_q C.1.2.2.2.1 C.1.2.2.2.2 f_q r_q c_q ++ (s_t C.1.2.2.2.1 C.1.2.2.2.2 f_t g_t ++ (s_r C.1.2.2.2.1 C.1.2.2.2.2 r_r ++ (s_c C.1.2.2.2.1 C.1.2.2.2.2 f_c g_c ++ (P))))) := by
  obtain ⟨⟨l, dC, dI, k, a⟩, p, e, s, m, args, below, meth, c, A⟩ := C
  obtain ⟨⟨hx, hb, hr, htz, hown, hlocks, hml, hE, hK, hA⟩, hno, hlt⟩ := X
  intro H locs ls hl hP hD hS
  have hl : lv_has ls 3 [(0, .ref (a 24)), (1, .int x1), (2, va_rf x2)] := hl
  have hP : va_P (dC, dI) classes (s_q k a f_q r_q c_q ++ (s_t k a f_t g_t ++ (s_r k a r_r ++ (s_c k a f_c g_c ++ (P))))) H := hP
  have hD : va_D A (s_q k a f_q r_q c_q ++ (s_t k a f_t g_t ++ (s_r k a r_r ++ (s_c k a f_c g_c ++ (P))))) := hD
  show W p l e (z_rm 2 1 6) s m args below meth c H locs c0 s0 _ (F0 m 56 ls [])
  refine lv_aload_n hx hb d_Q_first_56 rfl (lv_at hl 0 rfl) ?_
  refine va_get (D := (dC, dI)) (ci := 0) (v := .ref (a 26)) (C := R_Q) (T := F_Q) (N := 6) hx hb htz i_Q hown hK hP 0 rfl rfl 2 (by decide) (htz _ kf_Q_25) (fun _ h9 => h9) rfl d_Q_first_57 ?_
  refine va_getN (D := (dC, dI)) (ci := 2) (v := .int (f_c 1)) (C := R_Ca) (T := F_Ca) (N := 6) hx hb htz i_Ca hown hK hP 6 rfl rfl 3 (by decide) (va_Nw.use rfl (hE.2.1 _ kf_Q_114)) (fun _ h9 => h9) rfl d_Q_first_60 ?_
  refine W.widen (k := 1) (n := 6) b_63.1 b_63.2 ?_
  refine vx_ret ?_
  exact W.iret (v := f_c 1) hx hb hr (fun t ht hW => ⟨⟨_, (s_q k a f_q r_q c_q ++ (s_t k a f_t g_t ++ (s_r k a r_r ++ (s_c k a f_c g_c ++ (P))))), rfl, q_63, by rw [ht]; exact hP, va_K.moved hW.alike hK, hD⟩, hS.F ht⟩) hS.2.2 d_Q_first_63
set_option maxHeartbeats 1000000 in
set_option maxRecDepth 100000 in
theorem e_Q_first (T : ST) (hlt : T.1.stackTraces = false) (Post : Int32 → va_W → Prop) (PX : String → va_W → Prop) (x1 : Int32) (f_q : FT) (r_q : Nat → Nat → Option Nat) (c_q : Nat) (f_t : FT) (g_t : GT) (r_r : Nat → Nat → Option Nat) (f_c : FT) (g_c : GT) (P : va_W) (qa : Nat) (ka : Nat) (es : Int32) (e1 : Int64) (e2 : Int64) (e3 : Int64) (h : ∀ C : CT, C.1 = T → cX C "QuestionText" b_Q_first 3 (some .int) → zc_Q_first C Post PX 0 0 0 [(0, .ref (ad C.1 24)), (1, .int x1)] [] (s_q C.1.2.2.2.1 C.1.2.2.2.2 f_q r_q c_q ++ (s_t C.1.2.2.2.1 C.1.2.2.2.2 f_t g_t ++ (s_r C.1.2.2.2.1 C.1.2.2.2.2 r_r ++ (s_c C.1.2.2.2.1 C.1.2.2.2.2 f_c g_c ++ (P)))))) : xI T y_Q_first (Cond.code y_Q_first b_Q_first 3 (some .int)) 2 1 6 [.ref (ad T 24), .int x1] (s_q T.2.2.2.1 T.2.2.2.2 f_q r_q c_q ++ (s_t T.2.2.2.1 T.2.2.2.2 f_t g_t ++ (s_r T.2.2.2.1 T.2.2.2.2 r_r ++ (s_c T.2.2.2.1 T.2.2.2.2 f_c g_c ++ (P))))) Post PX := by
  obtain ⟨l, dC, dI, k, a⟩ := T
  intro sz
  refine vx_ofW (cc := b_Q_first) (maxL := 3) (ret := (some .int)) (by decide) rfl ?_
  intro p e s m args below meth c s₁ B hml hno hv
  obtain ⟨rfl, hsz, hE, hP, hK, hD0⟩ := hv
  have hts := atoms_spec (ws := (Cond.code y_Q_first b_Q_first 3 (some .int)) :: z_T) B.pre
  have htz : ∀ w ∈ z_T, w.before _ s = true := fun w h => hts w (z_cons w h)
  subst hsz
  have hD := hD0.self (sz := s.heap.size)
  generalize hAe : va_A (s_q k a f_q r_q c_q ++ (s_t k a f_t g_t ++ (s_r k a r_r ++ (s_c k a f_c g_c ++ (P))))) s.heap.size = A at hD hE ⊢
  have hA : ∀ q : Nat, s.heap.size ≤ q → A q := fun q h => by rw [← hAe]; exact Or.inr h
  have hl := lv_entry ([.ref (a 24), .int x1]) (n := 3) (Nat.le_of_ble_eq_true rfl)
  rw [lg_entry_eq]
  generalize (lg_sl ([.ref (a 24), .int x1]) ++ List.replicate (3 - (lg_sl ([.ref (a 24), .int x1])).length) Slot.unset).toArray = ls at hl ⊢
  exact h ((l, dC, dI, k, a), p, e, s, m, ([.ref (a 24), .int x1] : List Value).toArray, below, meth, c, A) rfl ⟨⟨B.exec, B.bytes, B.returns, htz, findClass_of_methodNamed B.named, B.notSynchronized, hml, hE, hK, hA⟩, hno, hlt⟩ s.heap [] ls hl hP hD va_S.rf
def zc_Q_answer (C : CT) (Post : Int32 → va_W → Prop) (PX : String → va_W → Prop) (c0 s0 pc : Nat) (loc : List (Nat × Value)) (st : List Value) (ws : va_W) : Prop := zW C (z_rm 4 1 6) 5 (yI C 1 6 Post PX) c0 s0 pc loc st ws
set_option maxHeartbeats 1000000 in
set_option maxRecDepth 100000 in
theorem k_Q_answer_0 {C : CT} (X : cX C "QuestionText" b_Q_answer 5 (some .int)) (Post : Int32 → va_W → Prop) (PX : String → va_W → Prop) {P_11 : Option Nat → va_W → Prop} (x1 : Int32) (f_q : FT) (r_q : Nat → Nat → Option Nat) (c_q : Nat) (f_t : FT) (g_t : GT) (r_r : Nat → Nat → Option Nat) (f_c : FT) (g_c : GT) (P : va_W) (qa : Nat) (ka : Nat) (es : Int32) (e1 : Int64) (e2 : Int64) (e3 : Int64) (i1 : Nat) (c0 s0 : Nat) (hf : P[i1]? = some (c_q, .inr (3, [.ref qa, .ref ka, .int es, .long e1, .long e2, .long e3])))
    (b_11 : c0 ≤ 1 ∧ s0 ≤ 6)
    (m_11 : uR C.1 y_Ed_questionAt (Cond.code y_Ed_questionAt b_Ed_questionAt 2 (some (.object "QuestionText$Question"))) 0 0 0 [.ref c_q, .int (f_c 1)] (s_q C.1.2.2.2.1 C.1.2.2.2.2 f_q r_q c_q ++ (s_t C.1.2.2.2.1 C.1.2.2.2.2 f_t g_t ++ (s_r C.1.2.2.2.1 C.1.2.2.2.2 r_r ++ (s_c C.1.2.2.2.1 C.1.2.2.2.2 f_c g_c ++ (P))))) P_11)
    (k_11 : ∀ (r : Option Nat) (u : va_W), P_11 r u → zc_Q_answer C Post PX c0 s0 14 [(0, .ref (ad C.1 24)), (1, .int x1)] [va_rf r] (u)) : zc_Q_answer C Post PX c0 s0 0 [(0, .ref (ad C.1 24)), (1, .int x1)] [] (s_q C.1.2.2.2.1 C.1.2.2.2.2 f_q r_q c_q ++ (s_t C.1.2.2.2.1 C.1.2.2.2.2 f_t g_t ++ (s_r C.1.2.2.2.1 C.1.2.2.2.2 r_r ++ (s_c C.1.2.2.2.1 C.1.2.2.2.2 f_c g_c ++ (P))))) := by
  obtain ⟨⟨l, dC, dI, k, a⟩, p, e, s, m, args, below, meth, c, A⟩ := C
  obtain ⟨⟨hx, hb, hr, htz, hown, hlocks, hml, hE, hK, hA⟩, hno, hlt⟩ := X
  intro H locs ls hl hP hD hS
  have hl : lv_has ls 5 [(0, .ref (a 24)), (1, .int x1)] := hl
  have hP : va_P (dC, dI) classes (s_q k a f_q r_q c_q ++ (s_t k a f_t g_t ++ (s_r k a r_r ++ (s_c k a f_c g_c ++ (P))))) H := hP
  have hD : va_D A (s_q k a f_q r_q c_q ++ (s_t k a f_t g_t ++ (s_r k a r_r ++ (s_c k a f_c g_c ++ (P))))) := hD
  show W p l e (z_rm 4 1 6) s m args below meth c H locs c0 s0 _ (F0 m 0 ls [])
  refine lv_aload_n hx hb d_Q_answer_0 rfl (lv_at hl 0 rfl) ?_
  refine va_get (D := (dC, dI)) (ci := 0) (v := .ref c_q) (C := R_Q) (T := F_Q) (N := 6) hx hb htz i_Q hown hK hP 0 rfl rfl 3 (by decide) (htz _ kf_Q_30) (fun _ h9 => h9) rfl d_Q_answer_1 ?_
  refine lv_aload_n hx hb d_Q_answer_4 rfl (lv_at hl 0 rfl) ?_
  refine va_get (D := (dC, dI)) (ci := 0) (v := .ref (a 26)) (C := R_Q) (T := F_Q) (N := 6) hx hb htz i_Q hown hK hP 0 rfl rfl 2 (by decide) (htz _ kf_Q_25) (fun _ h9 => h9) rfl d_Q_answer_5 ?_
  refine va_getN (D := (dC, dI)) (ci := 2) (v := .int (f_c 1)) (C := R_Ca) (T := F_Ca) (N := 6) hx hb htz i_Ca hown hK hP 6 rfl rfl 3 (by decide) (va_Nw.use rfl (hE.2.1 _ kf_Q_114)) (fun _ h9 => h9) rfl d_Q_answer_8 ?_
  have hFc : ∀ q, va_A (s_q k a f_q r_q c_q ++ (s_t k a f_t g_t ++ (s_r k a r_r ++ (s_c k a f_c g_c ++ (P))))) H.size q → A q := fun q h => h.elim (fun z => by obtain ⟨i9, e9, h9⟩ := z; exact hD.2 i9 _ h9) (fun z => hA q (Nat.le_trans hS.1 z))
  refine va_callq (va_runV (As := [.int (f_c 1)]) (rest := []) ⟨hx, hb, hml, hown, htz⟩ (m_11 H.size) (cwV 1 htz (z_gV (fun _ h => h) km_Q_117 in_Ed_questionAt se_Ed_questionAt ini_Ed m_Ed_questionAt) rfl rfl rfl (by decide +kernel) ⟨(Nat.le_of_ble_eq_true rfl), (Nat.le_of_ble_eq_true rfl)⟩) ⟨z_blind, va_recv hK hP (ci := 3) (q0 := (i1 + 9)) rfl hf, fun U hU hW => ⟨rfl, by rw [hU], hE.call hS hFc hU hW, by rw [hU]; exact hP, va_K.moved hW.alike hK, (hD.weaken (fun _ _ _ _ => trivial))⟩⟩ rfl rfl hl.1 rfl (lv_room (Nat.le_of_ble_eq_true rfl)) d_Q_answer_11 b_11) hS (fun q _ h => hFc q h) hFc (fun r u t H1 locs ht hvm hw hB hz1 hk1 hS => ?_)
  obtain ⟨hP1, hK1, hD1⟩ := hB
  rw [ht] at hP1
  have hP := hP1
  have hD := hD1.weaken (fun _ q _ h => hFc _ h)
  exact k_11 r _ hw H1 locs ls (lv_sub hl [0, 1] rfl) hP hD hS
set_option maxHeartbeats 1000000 in
set_option maxRecDepth 100000 in
theorem k_Q_answer_14 {C : CT} (X : cX C "QuestionText" b_Q_answer 5 (some .int)) (Post : Int32 → va_W → Prop) (PX : String → va_W → Prop) {P_31 : Int32 → va_W → Prop} (x1 : Int32) (y0 : Option Nat) (f_q : FT) (r_q : Nat → Nat → Option Nat) (c_q : Nat) (f_t : FT) (g_t : GT) (r_r : Nat → Nat → Option Nat) (f_c : FT) (g_c : GT) (P : va_W) (qa : Nat) (ka : Nat) (es : Int32) (e1 : Int64) (e2 : Int64) (e3 : Int64) (i1 : Nat) (c0 s0 : Nat) (hf : P[i1]? = some (c_q, .inr (3, [.ref qa, .ref ka, .int es, .long e1, .long e2, .long e3])))
    (g_31 : (¬ y0 = none) → ∃ (a31 i31 : Nat) (u31_0 : Int32) (u31_1 : Nat) (u31_2 : Nat) (u31_3 : Nat) (u31_4 : Nat) (u31_5 : Nat), y0 = some a31 ∧ P[i31]? = some (a31, .inr (6, [.int u31_0, .ref u31_1, .ref u31_2, .ref u31_3, .ref u31_4, .ref u31_5])))
    (b_31 : (¬ y0 = none) → ∀ (a31 i31 : Nat) (u31_0 : Int32) (u31_1 : Nat) (u31_2 : Nat) (u31_3 : Nat) (u31_4 : Nat) (u31_5 : Nat), y0 = some a31 → P[i31]? = some (a31, .inr (6, [.int u31_0, .ref u31_1, .ref u31_2, .ref u31_3, .ref u31_4, .ref u31_5])) → c0 ≤ 1 ∧ s0 ≤ 6)
    (m_31 : (¬ y0 = none) → ∀ (a31 i31 : Nat) (u31_0 : Int32) (u31_1 : Nat) (u31_2 : Nat) (u31_3 : Nat) (u31_4 : Nat) (u31_5 : Nat), y0 = some a31 → P[i31]? = some (a31, .inr (6, [.int u31_0, .ref u31_1, .ref u31_2, .ref u31_3, .ref u31_4, .ref u31_5])) → uI C.1 y_Qu_allows (Cond.code y_Qu_allows b_Qu_allows 2 (some .boolean)) 1 0 0 [.ref a31, .int x1] (P) P_31)
    (k_31 : (¬ y0 = none) → ∀ (a31 i31 : Nat) (u31_0 : Int32) (u31_1 : Nat) (u31_2 : Nat) (u31_3 : Nat) (u31_4 : Nat) (u31_5 : Nat), y0 = some a31 → P[i31]? = some (a31, .inr (6, [.int u31_0, .ref u31_1, .ref u31_2, .ref u31_3, .ref u31_4, .ref u31_5])) → ∀ (r : Int32) (u : va_W), P_31 r u → zc_Q_answer C Post PX c0 s0 34 [(0, .ref (ad C.1 24)), (1, .int x1), (2, va_rf y0)] [.int r] (s_q C.1.2.2.2.1 C.1.2.2.2.2 f_q r_q c_q ++ (s_t C.1.2.2.2.1 C.1.2.2.2.2 f_t g_t ++ (s_r C.1.2.2.2.1 C.1.2.2.2.2 r_r ++ (s_c C.1.2.2.2.1 C.1.2.2.2.2 f_c g_c))) ++ (u)))
    (b_19 : (y0 = none) → c0 + 1 ≤ 1 ∧ s0 + 6 ≤ 6)
    (t_19 : (y0 = none) → PX "java/lang/IllegalStateException" (s_q C.1.2.2.2.1 C.1.2.2.2.2 f_q r_q c_q ++ (s_t C.1.2.2.2.1 C.1.2.2.2.2 f_t g_t ++ (s_r C.1.2.2.2.1 C.1.2.2.2.2 r_r ++ (s_c C.1.2.2.2.1 C.1.2.2.2.2 f_c g_c ++ (P)))))) : zc_Q_answer C Post PX c0 s0 14 [(0, .ref (ad C.1 24)), (1, .int x1)] [va_rf y0] (s_q C.1.2.2.2.1 C.1.2.2.2.2 f_q r_q c_q ++ (s_t C.1.2.2.2.1 C.1.2.2.2.2 f_t g_t ++ (s_r C.1.2.2.2.1 C.1.2.2.2.2 r_r ++ (s_c C.1.2.2.2.1 C.1.2.2.2.2 f_c g_c ++ (P))))) := by
  obtain ⟨⟨l, dC, dI, k, a⟩, p, e, s, m, args, below, meth, c, A⟩ := C
  obtain ⟨⟨hx, hb, hr, htz, hown, hlocks, hml, hE, hK, hA⟩, hno, hlt⟩ := X
  intro H locs ls hl hP hD hS
  have hl : lv_has ls 5 [(0, .ref (a 24)), (1, .int x1)] := hl
  have hP : va_P (dC, dI) classes (s_q k a f_q r_q c_q ++ (s_t k a f_t g_t ++ (s_r k a r_r ++ (s_c k a f_c g_c ++ (P))))) H := hP
  have hD : va_D A (s_q k a f_q r_q c_q ++ (s_t k a f_t g_t ++ (s_r k a r_r ++ (s_c k a f_c g_c ++ (P))))) := hD
  show W p l e (z_rm 4 1 6) s m args below meth c H locs c0 s0 _ (F0 m 14 ls [va_rf y0])
  refine qv_store_n (lv' := [(2, va_rf y0), (0, .ref (a 24)), (1, .int x1)]) hx hb d_Q_answer_14 rfl hl (by decide) rfl (fun ls hl => ?_)
  refine qv_load_n hx hb d_Q_answer_15 rfl (lv_at hl 0 rfl) ?_
  refine qv_nn (tgt := 29) hx hb d_Q_answer_16 (by decide) (fun c_16 => ?_) (fun c_16 => ?_)
  · refine qv_load_n hx hb d_Q_answer_29 rfl (lv_at hl 0 rfl) ?_
    refine lv_iload_n hx hb d_Q_answer_30 rfl (lv_at hl 2 rfl) ?_
    obtain ⟨a31, i31, u31_0, u31_1, u31_2, u31_3, u31_4, u31_5, he31, hf31⟩ := (g_31 c_16)
    rw [he31]
    have hPf : va_P (dC, dI) classes ((s_q k a f_q r_q c_q ++ (s_t k a f_t g_t ++ (s_r k a r_r ++ (s_c k a f_c g_c)))) ++ ((P) ++ ([]))) H := by rw [List.append_nil]; exact zpP (by (try simp only [List.append_assoc]); exact List.Perm.refl _) hP
    have hDf : va_D A ((s_q k a f_q r_q c_q ++ (s_t k a f_t g_t ++ (s_r k a r_r ++ (s_c k a f_c g_c)))) ++ ((P) ++ ([]))) := by rw [List.append_nil]; exact zpD (by (try simp only [List.append_assoc]); exact List.Perm.refl _) hD
    have hFc := zfree hDf hS hA
    refine va_calli (va_runV (As := [.int x1]) (rest := []) ⟨hx, hb, hml, hown, htz⟩ ((m_31 c_16 a31 i31 u31_0 u31_1 u31_2 u31_3 u31_4 u31_5 he31 hf31) H.size) (cwV 1 htz (z_gV (fun _ h => h) km_Q_123 in_Qu_allows se_Qu_allows ini_Qu m_Qu_allows) rfl rfl rfl (by decide +kernel) ⟨(Nat.le_of_ble_eq_true rfl), (Nat.le_of_ble_eq_true rfl)⟩) ⟨z_blind, va_recv hK hP (ci := 6) (q0 := (i31 + 9)) rfl hf31, fun U hU hW => ⟨rfl, by rw [hU], hE.call hS hFc hU hW, by rw [hU]; exact (zPc hPf), va_K.moved hW.alike hK, (zDc hDf)⟩⟩ rfl rfl hl.1 rfl (lv_room (Nat.le_of_ble_eq_true rfl)) d_Q_answer_31 (b_31 c_16 a31 i31 u31_0 u31_1 u31_2 u31_3 u31_4 u31_5 he31 hf31)) hS (fun q _ h => hFc q h) hFc (fun r u t H1 locs ht hvm hw hB hz1 hk1 hS => ?_)
    obtain ⟨hP1, hK1, hD1⟩ := hB
    rw [ht] at hP1
    obtain ⟨hP, hD⟩ := zf hPf hDf hk1 hFc hP1 hD1
    rw [List.append_nil] at hP hD
    exact (k_31 c_16 a31 i31 u31_0 u31_1 u31_2 u31_3 u31_4 u31_5 he31 hf31) r _ hw H1 locs ls (lv_sub hl [1, 2, 0] rfl) hP hD hS
  · obtain ⟨sa, hstr⟩ := hE.2.2.2.1 ("QuestionText", 121, "no question is asked") (by decide)
    have hB9 := z_thr (dC := dC) (dI := dI) (k := k) hP hK hD hS
    exact vx_throwS (own := "QuestionText") (cls := "java/lang/IllegalStateException") (text := "no question is asked") (names := ["java/lang/RuntimeException", "java/lang/Exception"]) (ik := 51) (is := 121) (ic := 55) hx hb hlt hown (by decide +kernel) (by decide +kernel) (htz _ kc_Q_51) (htz _ ini_ISE) hstr (z_hat th_Q_55 htz hE.2.1) tg_Q_51_55 hE.2.2.2.2.1 hE.2.2.2.2.2.1 hS (hl.1.trans hml.symm) d_Q_answer_19 d_Q_answer_22 d_Q_answer_23 d_Q_answer_25 d_Q_answer_28 (fun x hx9 => (hno x hx9).elim) (Nat.le_of_ble_eq_true rfl) (Nat.le_of_ble_eq_true rfl) (b_19 c_16).1 (b_19 c_16).2 hlocks (fun t h1 h2 h3 => ⟨(s_q k a f_q r_q c_q ++ (s_t k a f_t g_t ++ (s_r k a r_r ++ (s_c k a f_c g_c ++ (P))))), trivial, ⟨(t_19 c_16), (hB9 t h1 h2 h3).1⟩, (hB9 t h1 h2 h3).2⟩) hS.2.2 (b_19 c_16).1 (b_19 c_16).2
set_option maxHeartbeats 1000000 in
set_option maxRecDepth 100000 in
theorem k_Q_answer_34 {C : CT} (X : cX C "QuestionText" b_Q_answer 5 (some .int)) (Post : Int32 → va_W → Prop) (PX : String → va_W → Prop) {P_49 : Option Nat → va_W → Prop} (x1 : Int32) (x2 : Option Nat) (y0 : Int32) (f_q : FT) (r_q : Nat → Nat → Option Nat) (c_q : Nat) (f_t : FT) (g_t : GT) (r_r : Nat → Nat → Option Nat) (f_c : FT) (g_c : GT) (P : va_W) (qa : Nat) (ka : Nat) (es : Int32) (e1 : Int64) (e2 : Int64) (e3 : Int64) (i1 : Nat) (c0 s0 : Nat) (hf : P[i1]? = some (c_q, .inr (3, [.ref qa, .ref ka, .int es, .long e1, .long e2, .long e3])))
    (g_49 : (¬ y0 = 0) → ∃ (a49 i49 : Nat) (u49_0 : Int32) (u49_1 : Nat) (u49_2 : Nat) (u49_3 : Nat) (u49_4 : Nat) (u49_5 : Nat), x2 = some a49 ∧ P[i49]? = some (a49, .inr (6, [.int u49_0, .ref u49_1, .ref u49_2, .ref u49_3, .ref u49_4, .ref u49_5])))
    (b_49 : (¬ y0 = 0) → ∀ (a49 i49 : Nat) (u49_0 : Int32) (u49_1 : Nat) (u49_2 : Nat) (u49_3 : Nat) (u49_4 : Nat) (u49_5 : Nat), x2 = some a49 → P[i49]? = some (a49, .inr (6, [.int u49_0, .ref u49_1, .ref u49_2, .ref u49_3, .ref u49_4, .ref u49_5])) → c0 ≤ 1 ∧ s0 ≤ 6)
    (m_49 : (¬ y0 = 0) → ∀ (a49 i49 : Nat) (u49_0 : Int32) (u49_1 : Nat) (u49_2 : Nat) (u49_3 : Nat) (u49_4 : Nat) (u49_5 : Nat), x2 = some a49 → P[i49]? = some (a49, .inr (6, [.int u49_0, .ref u49_1, .ref u49_2, .ref u49_3, .ref u49_4, .ref u49_5])) → uR C.1 y_Qu_jumpFor (Cond.code y_Qu_jumpFor b_Qu_jumpFor 3 (some (.object "QuestionText$Jump"))) 3 0 0 [.ref a49, .int x1] (P) P_49)
    (k_49 : (¬ y0 = 0) → ∀ (a49 i49 : Nat) (u49_0 : Int32) (u49_1 : Nat) (u49_2 : Nat) (u49_3 : Nat) (u49_4 : Nat) (u49_5 : Nat), x2 = some a49 → P[i49]? = some (a49, .inr (6, [.int u49_0, .ref u49_1, .ref u49_2, .ref u49_3, .ref u49_4, .ref u49_5])) → ∀ (r : Option Nat) (u : va_W), P_49 r u → zc_Q_answer C Post PX c0 s0 52 [(0, .ref (ad C.1 24)), (1, .int x1), (2, va_rf x2)] [va_rf r] (s_q C.1.2.2.2.1 C.1.2.2.2.2 f_q r_q c_q ++ (s_t C.1.2.2.2.1 C.1.2.2.2.2 f_t g_t ++ (s_r C.1.2.2.2.1 C.1.2.2.2.2 r_r ++ (s_c C.1.2.2.2.1 C.1.2.2.2.2 f_c g_c))) ++ (u)))
    (b_37 : (y0 = 0) → c0 + 1 ≤ 1 ∧ s0 + 6 ≤ 6)
    (t_37 : (y0 = 0) → PX "java/lang/IllegalArgumentException" (s_q C.1.2.2.2.1 C.1.2.2.2.2 f_q r_q c_q ++ (s_t C.1.2.2.2.1 C.1.2.2.2.2 f_t g_t ++ (s_r C.1.2.2.2.1 C.1.2.2.2.2 r_r ++ (s_c C.1.2.2.2.1 C.1.2.2.2.2 f_c g_c ++ (P)))))) : zc_Q_answer C Post PX c0 s0 34 [(0, .ref (ad C.1 24)), (1, .int x1), (2, va_rf x2)] [.int y0] (s_q C.1.2.2.2.1 C.1.2.2.2.2 f_q r_q c_q ++ (s_t C.1.2.2.2.1 C.1.2.2.2.2 f_t g_t ++ (s_r C.1.2.2.2.1 C.1.2.2.2.2 r_r ++ (s_c C.1.2.2.2.1 C.1.2.2.2.2 f_c g_c ++ (P))))) := by
  obtain ⟨⟨l, dC, dI, k, a⟩, p, e, s, m, args, below, meth, c, A⟩ := C
  obtain ⟨⟨hx, hb, hr, htz, hown, hlocks, hml, hE, hK, hA⟩, hno, hlt⟩ := X
  intro H locs ls hl hP hD hS
  have hl : lv_has ls 5 [(0, .ref (a 24)), (1, .int x1), (2, va_rf x2)] := hl
  have hP : va_P (dC, dI) classes (s_q k a f_q r_q c_q ++ (s_t k a f_t g_t ++ (s_r k a r_r ++ (s_c k a f_c g_c ++ (P))))) H := hP
  have hD : va_D A (s_q k a f_q r_q c_q ++ (s_t k a f_t g_t ++ (s_r k a r_r ++ (s_c k a f_c g_c ++ (P))))) := hD
  show W p l e (z_rm 4 1 6) s m args below meth c H locs c0 s0 _ (F0 m 34 ls [.int y0])
  refine lv_if_ne (tgt := 47) hx hb d_Q_answer_34 (by decide) (fun c_34 => ?_) (fun c_34 => ?_)
  · refine qv_load_n hx hb d_Q_answer_47 rfl (lv_at hl 2 rfl) ?_
    refine lv_iload_n hx hb d_Q_answer_48 rfl (lv_at hl 1 rfl) ?_
    obtain ⟨a49, i49, u49_0, u49_1, u49_2, u49_3, u49_4, u49_5, he49, hf49⟩ := (g_49 c_34)
    rw [he49]
    have hPf : va_P (dC, dI) classes ((s_q k a f_q r_q c_q ++ (s_t k a f_t g_t ++ (s_r k a r_r ++ (s_c k a f_c g_c)))) ++ ((P) ++ ([]))) H := by rw [List.append_nil]; exact zpP (by (try simp only [List.append_assoc]); exact List.Perm.refl _) hP
    have hDf : va_D A ((s_q k a f_q r_q c_q ++ (s_t k a f_t g_t ++ (s_r k a r_r ++ (s_c k a f_c g_c)))) ++ ((P) ++ ([]))) := by rw [List.append_nil]; exact zpD (by (try simp only [List.append_assoc]); exact List.Perm.refl _) hD
    have hFc := zfree hDf hS hA
    refine va_callq (va_runV (As := [.int x1]) (rest := []) ⟨hx, hb, hml, hown, htz⟩ ((m_49 c_34 a49 i49 u49_0 u49_1 u49_2 u49_3 u49_4 u49_5 he49 hf49) H.size) (cwV 1 htz (z_gV (fun _ h => h) km_Q_131 in_Qu_jumpFor se_Qu_jumpFor ini_Qu m_Qu_jumpFor) rfl rfl rfl (by decide +kernel) ⟨(Nat.le_of_ble_eq_true rfl), (Nat.le_of_ble_eq_true rfl)⟩) ⟨z_blind, va_recv hK hP (ci := 6) (q0 := (i49 + 9)) rfl hf49, fun U hU hW => ⟨rfl, by rw [hU], hE.call hS hFc hU hW, by rw [hU]; exact (zPc hPf), va_K.moved hW.alike hK, (zDc hDf)⟩⟩ rfl rfl hl.1 rfl (lv_room (Nat.le_of_ble_eq_true rfl)) d_Q_answer_49 (b_49 c_34 a49 i49 u49_0 u49_1 u49_2 u49_3 u49_4 u49_5 he49 hf49)) hS (fun q _ h => hFc q h) hFc (fun r u t H1 locs ht hvm hw hB hz1 hk1 hS => ?_)
    obtain ⟨hP1, hK1, hD1⟩ := hB
    rw [ht] at hP1
    obtain ⟨hP, hD⟩ := zf hPf hDf hk1 hFc hP1 hD1
    rw [List.append_nil] at hP hD
    exact (k_49 c_34 a49 i49 u49_0 u49_1 u49_2 u49_3 u49_4 u49_5 he49 hf49) r _ hw H1 locs ls (lv_sub hl [0, 1, 2] rfl) hP hD hS
  · obtain ⟨sa, hstr⟩ := hE.2.2.2.1 ("QuestionText", 129, "not an answer to this question") (by decide)
    have hB9 := z_thr (dC := dC) (dI := dI) (k := k) hP hK hD hS
    exact vx_throwS (own := "QuestionText") (cls := "java/lang/IllegalArgumentException") (text := "not an answer to this question") (names := ["java/lang/RuntimeException", "java/lang/Exception"]) (ik := 41) (is := 129) (ic := 45) hx hb hlt hown (by decide +kernel) (by decide +kernel) (htz _ kc_Q_41) (htz _ ini_IAE) hstr (z_hat th_Q_45 htz hE.2.1) tg_Q_41_45 hE.2.2.2.2.1 hE.2.2.2.2.2.1 hS (hl.1.trans hml.symm) d_Q_answer_37 d_Q_answer_40 d_Q_answer_41 d_Q_answer_43 d_Q_answer_46 (fun x hx9 => (hno x hx9).elim) (Nat.le_of_ble_eq_true rfl) (Nat.le_of_ble_eq_true rfl) (b_37 c_34).1 (b_37 c_34).2 hlocks (fun t h1 h2 h3 => ⟨(s_q k a f_q r_q c_q ++ (s_t k a f_t g_t ++ (s_r k a r_r ++ (s_c k a f_c g_c ++ (P))))), trivial, ⟨(t_37 c_34), (hB9 t h1 h2 h3).1⟩, (hB9 t h1 h2 h3).2⟩) hS.2.2 (b_37 c_34).1 (b_37 c_34).2
set_option maxHeartbeats 1000000 in
set_option maxRecDepth 100000 in
theorem k_Q_answer_52 {C : CT} (X : cX C "QuestionText" b_Q_answer 5 (some .int)) (Post : Int32 → va_W → Prop) (PX : String → va_W → Prop) {P_61 : Int32 → va_W → Prop} (x1 : Int32) (x2 : Option Nat) (y0 : Nat) (f_q : FT) (r_q : Nat → Nat → Option Nat) (c_q : Nat) (f_t : FT) (g_t : GT) (r_r : Nat → Nat → Option Nat) (f_c : FT) (g_c : GT) (P : va_W) (qa : Nat) (ka : Nat) (es : Int32) (e1 : Int64) (e2 : Int64) (e3 : Int64) (sj : Nat) (t0 : Int32) (p0 : Int32) (i1 : Nat) (i2 : Nat) (c0 s0 : Nat) (hf : P[i1]? = some (c_q, .inr (3, [.ref qa, .ref ka, .int es, .long e1, .long e2, .long e3]))) (hj : P[i2]? = some (y0, .inr (8, [.ref sj, .int t0, .int p0])))
    (b_61 : c0 ≤ 1 ∧ s0 ≤ 6)
    (m_61 : uI C.1 y_Ed_asNext (Cond.code y_Ed_asNext b_Ed_asNext 2 (some .int)) 1 0 0 [.ref c_q, .int t0] (s_q C.1.2.2.2.1 C.1.2.2.2.2 f_q r_q c_q ++ (s_t C.1.2.2.2.1 C.1.2.2.2.2 f_t g_t ++ (s_r C.1.2.2.2.1 C.1.2.2.2.2 r_r ++ (s_c C.1.2.2.2.1 C.1.2.2.2.2 f_c g_c ++ (P))))) P_61)
    (k_61 : ∀ (r : Int32) (u : va_W), P_61 r u → zc_Q_answer C Post PX c0 s0 64 [(0, .ref (ad C.1 24)), (1, .int x1), (2, va_rf x2), (3, .ref y0)] [.int r] (u)) : zc_Q_answer C Post PX c0 s0 52 [(0, .ref (ad C.1 24)), (1, .int x1), (2, va_rf x2)] [.ref y0] (s_q C.1.2.2.2.1 C.1.2.2.2.2 f_q r_q c_q ++ (s_t C.1.2.2.2.1 C.1.2.2.2.2 f_t g_t ++ (s_r C.1.2.2.2.1 C.1.2.2.2.2 r_r ++ (s_c C.1.2.2.2.1 C.1.2.2.2.2 f_c g_c ++ (P))))) := by
  obtain ⟨⟨l, dC, dI, k, a⟩, p, e, s, m, args, below, meth, c, A⟩ := C
  obtain ⟨⟨hx, hb, hr, htz, hown, hlocks, hml, hE, hK, hA⟩, hno, hlt⟩ := X
  intro H locs ls hl hP hD hS
  have hl : lv_has ls 5 [(0, .ref (a 24)), (1, .int x1), (2, va_rf x2)] := hl
  have hP : va_P (dC, dI) classes (s_q k a f_q r_q c_q ++ (s_t k a f_t g_t ++ (s_r k a r_r ++ (s_c k a f_c g_c ++ (P))))) H := hP
  have hD : va_D A (s_q k a f_q r_q c_q ++ (s_t k a f_t g_t ++ (s_r k a r_r ++ (s_c k a f_c g_c ++ (P))))) := hD
  show W p l e (z_rm 4 1 6) s m args below meth c H locs c0 s0 _ (F0 m 52 ls [.ref y0])
  refine lv_astore_n (lv' := [(3, .ref y0), (0, .ref (a 24)), (1, .int x1), (2, va_rf x2)]) hx hb d_Q_answer_52 rfl hl (by decide) (by cases x2 <;> rfl) (fun ls hl => ?_)
  refine lv_aload_n hx hb d_Q_answer_53 rfl (lv_at hl 1 rfl) ?_
  refine va_get (D := (dC, dI)) (ci := 0) (v := .ref c_q) (C := R_Q) (T := F_Q) (N := 6) hx hb htz i_Q hown hK hP 0 rfl rfl 3 (by decide) (htz _ kf_Q_30) (fun _ h9 => h9) rfl d_Q_answer_54 ?_
  refine lv_aload_n hx hb d_Q_answer_57 rfl (lv_at hl 0 rfl) ?_
  refine va_getN (D := (dC, dI)) (ci := 8) (v := .int t0) (C := R_Ju) (T := F_Ju) (N := 3) hx hb htz i_Ju hown hK hP (i2 + 9) hj rfl 1 (by decide) (va_Nw.use rfl (hE.2.1 _ kf_Q_135)) (fun _ h9 => h9) rfl d_Q_answer_58 ?_
  have hFc : ∀ q, va_A (s_q k a f_q r_q c_q ++ (s_t k a f_t g_t ++ (s_r k a r_r ++ (s_c k a f_c g_c ++ (P))))) H.size q → A q := fun q h => h.elim (fun z => by obtain ⟨i9, e9, h9⟩ := z; exact hD.2 i9 _ h9) (fun z => hA q (Nat.le_trans hS.1 z))
  refine va_calli (va_runV (As := [.int t0]) (rest := []) ⟨hx, hb, hml, hown, htz⟩ (m_61 H.size) (cwV 1 htz (z_gV (fun _ h => h) km_Q_107 in_Ed_asNext se_Ed_asNext ini_Ed m_Ed_asNext) rfl rfl rfl (by decide +kernel) ⟨(Nat.le_of_ble_eq_true rfl), (Nat.le_of_ble_eq_true rfl)⟩) ⟨z_blind, va_recv hK hP (ci := 3) (q0 := (i1 + 9)) rfl hf, fun U hU hW => ⟨rfl, by rw [hU], hE.call hS hFc hU hW, by rw [hU]; exact hP, va_K.moved hW.alike hK, (hD.weaken (fun _ _ _ _ => trivial))⟩⟩ rfl rfl hl.1 rfl (lv_room (Nat.le_of_ble_eq_true rfl)) d_Q_answer_61 b_61) hS (fun q _ h => hFc q h) hFc (fun r u t H1 locs ht hvm hw hB hz1 hk1 hS => ?_)
  obtain ⟨hP1, hK1, hD1⟩ := hB
  rw [ht] at hP1
  have hP := hP1
  have hD := hD1.weaken (fun _ q _ h => hFc _ h)
  exact k_61 r _ hw H1 locs ls (lv_sub hl [1, 2, 3, 0] rfl) hP hD hS
set_option maxHeartbeats 1000000 in
set_option maxRecDepth 100000 in
theorem k_Q_answer_64 {C : CT} (X : cX C "QuestionText" b_Q_answer 5 (some .int)) (Post : Int32 → va_W → Prop) (PX : String → va_W → Prop) (x1 : Int32) (x2 : Option Nat) (x3 : Nat) (y0 : Int32) (f_q : FT) (r_q : Nat → Nat → Option Nat) (c_q : Nat) (f_t : FT) (g_t : GT) (r_r : Nat → Nat → Option Nat) (f_c : FT) (g_c : GT) (P : va_W) (qa : Nat) (ka : Nat) (es : Int32) (e1 : Int64) (e2 : Int64) (e3 : Int64) (sj : Nat) (t0 : Int32) (p0 : Int32) (i1 : Nat) (i2 : Nat) (c0 s0 : Nat) (hf : P[i1]? = some (c_q, .inr (3, [.ref qa, .ref ka, .int es, .long e1, .long e2, .long e3]))) (hj : P[i2]? = some (x3, .inr (8, [.ref sj, .int t0, .int p0])))
    (k_93 : (y0 = 0) → zc_Q_answer C Post PX c0 s0 93 [(0, .ref (ad C.1 24)), (1, .int x1), (2, va_rf x2), (3, .ref x3), (4, .int y0)] [] (s_q C.1.2.2.2.1 C.1.2.2.2.2 f_q r_q c_q ++ (s_t C.1.2.2.2.1 C.1.2.2.2.2 f_t g_t ++ (s_r C.1.2.2.2.1 C.1.2.2.2.2 r_r ++ (s_c C.1.2.2.2.1 C.1.2.2.2.2 f_c g_c ++ (P))))))
    (k_93_1 : (¬ y0 = 0) → (f_c 0 < 40) → zc_Q_answer C Post PX c0 s0 93 [(0, .ref (ad C.1 24)), (1, .int x1), (2, va_rf x2), (3, .ref x3), (4, .int y0)] [] (s_q C.1.2.2.2.1 C.1.2.2.2.2 f_q r_q c_q ++ (s_t C.1.2.2.2.1 C.1.2.2.2.2 f_t g_t ++ (s_r C.1.2.2.2.1 C.1.2.2.2.2 r_r ++ (s_c C.1.2.2.2.1 C.1.2.2.2.2 f_c g_c ++ (P))))))
    (b_83 : (¬ y0 = 0) → (¬ f_c 0 < 40) → c0 + 1 ≤ 1 ∧ s0 + 6 ≤ 6)
    (t_83 : (¬ y0 = 0) → (¬ f_c 0 < 40) → PX "java/lang/IllegalStateException" (s_q C.1.2.2.2.1 C.1.2.2.2.2 f_q r_q c_q ++ (s_t C.1.2.2.2.1 C.1.2.2.2.2 f_t g_t ++ (s_r C.1.2.2.2.1 C.1.2.2.2.2 r_r ++ (s_c C.1.2.2.2.1 C.1.2.2.2.2 f_c g_c ++ (P)))))) : zc_Q_answer C Post PX c0 s0 64 [(0, .ref (ad C.1 24)), (1, .int x1), (2, va_rf x2), (3, .ref x3)] [.int y0] (s_q C.1.2.2.2.1 C.1.2.2.2.2 f_q r_q c_q ++ (s_t C.1.2.2.2.1 C.1.2.2.2.2 f_t g_t ++ (s_r C.1.2.2.2.1 C.1.2.2.2.2 r_r ++ (s_c C.1.2.2.2.1 C.1.2.2.2.2 f_c g_c ++ (P))))) := by
  obtain ⟨⟨l, dC, dI, k, a⟩, p, e, s, m, args, below, meth, c, A⟩ := C
  obtain ⟨⟨hx, hb, hr, htz, hown, hlocks, hml, hE, hK, hA⟩, hno, hlt⟩ := X
  intro H locs ls hl hP hD hS
  have hl : lv_has ls 5 [(0, .ref (a 24)), (1, .int x1), (2, va_rf x2), (3, .ref x3)] := hl
  have hP : va_P (dC, dI) classes (s_q k a f_q r_q c_q ++ (s_t k a f_t g_t ++ (s_r k a r_r ++ (s_c k a f_c g_c ++ (P))))) H := hP
  have hD : va_D A (s_q k a f_q r_q c_q ++ (s_t k a f_t g_t ++ (s_r k a r_r ++ (s_c k a f_c g_c ++ (P))))) := hD
  show W p l e (z_rm 4 1 6) s m args below meth c H locs c0 s0 _ (F0 m 64 ls [.int y0])
  refine lv_istore (lv' := [(4, .int y0), (0, .ref (a 24)), (1, .int x1), (2, va_rf x2), (3, .ref x3)]) hx hb d_Q_answer_64 hl (by decide) rfl (fun ls hl => ?_)
  refine lv_iload hx hb d_Q_answer_66 (lv_at hl 0 rfl) ?_
  refine lv_if_eq (tgt := 93) hx hb d_Q_answer_68 (by decide) (fun c_68 => ?_) (fun c_68 => ?_)
  · exact (k_93 c_68) H locs ls (lv_sub hl [1, 2, 3, 4, 0] rfl) hP hD hS
  · refine lv_aload_n hx hb d_Q_answer_71 rfl (lv_at hl 1 rfl) ?_
    refine va_get (D := (dC, dI)) (ci := 0) (v := .ref (a 26)) (C := R_Q) (T := F_Q) (N := 6) hx hb htz i_Q hown hK hP 0 rfl rfl 2 (by decide) (htz _ kf_Q_25) (fun _ h9 => h9) rfl d_Q_answer_72 ?_
    refine va_getN (D := (dC, dI)) (ci := 2) (v := .int (f_c 0)) (C := R_Ca) (T := F_Ca) (N := 6) hx hb htz i_Ca hown hK hP 6 rfl rfl 2 (by decide) (va_Nw.use rfl (hE.2.1 _ kf_Q_140)) (fun _ h9 => h9) rfl d_Q_answer_75 ?_
    refine lv_bipush (v := 40) hx hb d_Q_answer_78 (by decide) ?_
    refine lv_icmp_lt (tgt := 93) hx hb d_Q_answer_80 (by decide) (fun c_80 => ?_) (fun c_80 => ?_)
    · exact (k_93_1 c_68 c_80) H locs ls (lv_sub hl [1, 2, 3, 4, 0] rfl) hP hD hS
    · obtain ⟨sa, hstr⟩ := hE.2.2.2.1 ("QuestionText", 143, "40 questions were asked") (by decide)
      have hB9 := z_thr (dC := dC) (dI := dI) (k := k) hP hK hD hS
      exact vx_throwS (own := "QuestionText") (cls := "java/lang/IllegalStateException") (text := "40 questions were asked") (names := ["java/lang/RuntimeException", "java/lang/Exception"]) (ik := 51) (is := 143) (ic := 55) hx hb hlt hown (by decide +kernel) (by decide +kernel) (htz _ kc_Q_51) (htz _ ini_ISE) hstr (z_hat th_Q_55 htz hE.2.1) tg_Q_51_55 hE.2.2.2.2.1 hE.2.2.2.2.2.1 hS (hl.1.trans hml.symm) d_Q_answer_83 d_Q_answer_86 d_Q_answer_87 d_Q_answer_89 d_Q_answer_92 (fun x hx9 => (hno x hx9).elim) (Nat.le_of_ble_eq_true rfl) (Nat.le_of_ble_eq_true rfl) (b_83 c_68 c_80).1 (b_83 c_68 c_80).2 hlocks (fun t h1 h2 h3 => ⟨(s_q k a f_q r_q c_q ++ (s_t k a f_t g_t ++ (s_r k a r_r ++ (s_c k a f_c g_c ++ (P))))), trivial, ⟨(t_83 c_68 c_80), (hB9 t h1 h2 h3).1⟩, (hB9 t h1 h2 h3).2⟩) hS.2.2 (b_83 c_68 c_80).1 (b_83 c_68 c_80).2
set_option maxHeartbeats 1000000 in
set_option maxRecDepth 100000 in
theorem k_Q_answer_93 {C : CT} (X : cX C "QuestionText" b_Q_answer 5 (some .int)) (Post : Int32 → va_W → Prop) (PX : String → va_W → Prop) {P_131 : va_W → Prop} (x1 : Int32) (x2 : Option Nat) (x3 : Nat) (x4 : Int32) (f_q : FT) (r_q : Nat → Nat → Option Nat) (c_q : Nat) (f_t : FT) (g_t : GT) (r_r : Nat → Nat → Option Nat) (f_c : FT) (g_c : GT) (P : va_W) (qa : Nat) (ka : Nat) (es : Int32) (e1 : Int64) (e2 : Int64) (e3 : Int64) (sj : Nat) (t0 : Int32) (p0 : Int32) (i1 : Nat) (i2 : Nat) (c0 s0 : Nat) (hf : P[i1]? = some (c_q, .inr (3, [.ref qa, .ref ka, .int es, .long e1, .long e2, .long e3]))) (hj : P[i2]? = some (x3, .inr (8, [.ref sj, .int t0, .int p0])))
    (h_108 : vp_in (f_c 1) 61)
    (b_131 : c0 ≤ 1 ∧ s0 ≤ 6)
    (m_131 : uV C.1 y_Ca_ask (Cond.code y_Ca_ask b_Ca_ask 2 none) 0 0 0 [.ref (ad C.1 26), .int x4] (s_c C.1.2.2.2.1 C.1.2.2.2.2 (va_up f_c 2 ((f_c 2) + p0)) (va_up g_c 1 (upd (g_c 1) (f_c 1 : Int32).toNatClampNeg x1))) P_131)
    (k_131 : ∀ (u : va_W), P_131 u → zc_Q_answer C Post PX c0 s0 134 [(0, .ref (ad C.1 24)), (1, .int x1), (2, va_rf x2), (3, .ref x3), (4, .int x4)] [] (s_q C.1.2.2.2.1 C.1.2.2.2.2 f_q r_q c_q ++ (s_t C.1.2.2.2.1 C.1.2.2.2.2 f_t g_t ++ (s_r C.1.2.2.2.1 C.1.2.2.2.2 r_r)) ++ (u ++ (P)))) : zc_Q_answer C Post PX c0 s0 93 [(0, .ref (ad C.1 24)), (1, .int x1), (2, va_rf x2), (3, .ref x3), (4, .int x4)] [] (s_q C.1.2.2.2.1 C.1.2.2.2.2 f_q r_q c_q ++ (s_t C.1.2.2.2.1 C.1.2.2.2.2 f_t g_t ++ (s_r C.1.2.2.2.1 C.1.2.2.2.2 r_r ++ (s_c C.1.2.2.2.1 C.1.2.2.2.2 f_c g_c ++ (P))))) := by
  obtain ⟨⟨l, dC, dI, k, a⟩, p, e, s, m, args, below, meth, c, A⟩ := C
  obtain ⟨⟨hx, hb, hr, htz, hown, hlocks, hml, hE, hK, hA⟩, hno, hlt⟩ := X
  intro H locs ls hl hP hD hS
  have hl : lv_has ls 5 [(0, .ref (a 24)), (1, .int x1), (2, va_rf x2), (3, .ref x3), (4, .int x4)] := hl
  have hP : va_P (dC, dI) classes (s_q k a f_q r_q c_q ++ (s_t k a f_t g_t ++ (s_r k a r_r ++ (s_c k a f_c g_c ++ (P))))) H := hP
  have hD : va_D A (s_q k a f_q r_q c_q ++ (s_t k a f_t g_t ++ (s_r k a r_r ++ (s_c k a f_c g_c ++ (P))))) := hD
  show W p l e (z_rm 4 1 6) s m args below meth c H locs c0 s0 _ (F0 m 93 ls [])
  refine lv_aload_n hx hb d_Q_answer_93 rfl (lv_at hl 0 rfl) ?_
  refine va_get (D := (dC, dI)) (ci := 0) (v := .ref (a 26)) (C := R_Q) (T := F_Q) (N := 6) hx hb htz i_Q hown hK hP 0 rfl rfl 2 (by decide) (htz _ kf_Q_25) (fun _ h9 => h9) rfl d_Q_answer_94 ?_
  refine va_getN (D := (dC, dI)) (ci := 2) (v := .ref (a 28)) (C := R_Ca) (T := F_Ca) (N := 6) hx hb htz i_Ca hown hK hP 6 rfl rfl 1 (by decide) (va_Nw.use rfl (hE.2.1 _ kf_Q_145)) (fun _ h9 => h9) rfl d_Q_answer_97 ?_
  refine lv_aload_n hx hb d_Q_answer_100 rfl (lv_at hl 0 rfl) ?_
  refine va_get (D := (dC, dI)) (ci := 0) (v := .ref (a 26)) (C := R_Q) (T := F_Q) (N := 6) hx hb htz i_Q hown hK hP 0 rfl rfl 2 (by decide) (htz _ kf_Q_25) (fun _ h9 => h9) rfl d_Q_answer_101 ?_
  refine va_getN (D := (dC, dI)) (ci := 2) (v := .int (f_c 1)) (C := R_Ca) (T := F_Ca) (N := 6) hx hb htz i_Ca hown hK hP 6 rfl rfl 3 (by decide) (va_Nw.use rfl (hE.2.1 _ kf_Q_114)) (fun _ h9 => h9) rfl d_Q_answer_104 ?_
  refine lv_iload_n hx hb d_Q_answer_107 rfl (lv_at hl 1 rfl) ?_
  refine va_iast hx hb hK hP hD hS 8 0 rfl rfl h_108 d_Q_answer_108 (fun H locs hP hD hS => ?_)
  have hP : va_P (dC, dI) classes (s_q k a f_q r_q c_q ++ (s_t k a f_t g_t ++ (s_r k a r_r ++ (s_c k a f_c (va_up g_c 1 (upd (g_c 1) (f_c 1 : Int32).toNatClampNeg x1)) ++ (P))))) H := hP
  have hD : va_D A (s_q k a f_q r_q c_q ++ (s_t k a f_t g_t ++ (s_r k a r_r ++ (s_c k a f_c (va_up g_c 1 (upd (g_c 1) (f_c 1 : Int32).toNatClampNeg x1)) ++ (P))))) := hD
  refine lv_aload_n hx hb d_Q_answer_109 rfl (lv_at hl 0 rfl) ?_
  refine va_get (D := (dC, dI)) (ci := 0) (v := .ref (a 26)) (C := R_Q) (T := F_Q) (N := 6) hx hb htz i_Q hown hK hP 0 rfl rfl 2 (by decide) (htz _ kf_Q_25) (fun _ h9 => h9) rfl d_Q_answer_110 ?_
  refine lv_dup hx hb d_Q_answer_113 rfl ?_
  refine va_getN (D := (dC, dI)) (ci := 2) (v := .int (f_c 2)) (C := R_Ca) (T := F_Ca) (N := 6) hx hb htz i_Ca hown hK hP 6 rfl rfl 4 (by decide) (va_Nw.use rfl (hE.2.1 _ kf_Q_149)) (fun _ h9 => h9) rfl d_Q_answer_114 ?_
  refine lv_aload_n hx hb d_Q_answer_117 rfl (lv_at hl 3 rfl) ?_
  refine va_getN (D := (dC, dI)) (ci := 8) (v := .int p0) (C := R_Ju) (T := F_Ju) (N := 3) hx hb htz i_Ju hown hK hP (i2 + 9) hj rfl 2 (by decide) (va_Nw.use rfl (hE.2.1 _ kf_Q_152)) (fun _ h9 => h9) rfl d_Q_answer_118 ?_
  refine lv_iadd hx hb d_Q_answer_121 ?_
  refine va_putN (D := (dC, dI)) (ci := 2) (v := .int ((f_c 2) + p0)) (ty := .int) (C := R_Ca) (T := F_Ca) (N := 6) hx hb htz i_Ca t_Ca o_Ca n_Ca hown hK hP hD hS 6 rfl rfl 4 (by decide) (va_Nw.use rfl (hE.2.1 _ kf_Q_149)) (fun _ h9 => h9) rfl (by decide +kernel) rfl rfl (Nat.le_of_ble_eq_true rfl) d_Q_answer_122 (fun H locs hP hD hS => ?_)
  have hP : va_P (dC, dI) classes (s_q k a f_q r_q c_q ++ (s_t k a f_t g_t ++ (s_r k a r_r ++ (s_c k a (va_up f_c 2 ((f_c 2) + p0)) (va_up g_c 1 (upd (g_c 1) (f_c 1 : Int32).toNatClampNeg x1)) ++ (P))))) H := hP
  have hD : va_D A (s_q k a f_q r_q c_q ++ (s_t k a f_t g_t ++ (s_r k a r_r ++ (s_c k a (va_up f_c 2 ((f_c 2) + p0)) (va_up g_c 1 (upd (g_c 1) (f_c 1 : Int32).toNatClampNeg x1)) ++ (P))))) := hD
  refine lv_aload_n hx hb d_Q_answer_125 rfl (lv_at hl 0 rfl) ?_
  refine va_get (D := (dC, dI)) (ci := 0) (v := .ref (a 26)) (C := R_Q) (T := F_Q) (N := 6) hx hb htz i_Q hown hK hP 0 rfl rfl 2 (by decide) (htz _ kf_Q_25) (fun _ h9 => h9) rfl d_Q_answer_126 ?_
  refine lv_iload hx hb d_Q_answer_129 (lv_at hl 4 rfl) ?_
  have hPf : va_P (dC, dI) classes ((s_q k a f_q r_q c_q ++ (s_t k a f_t g_t ++ (s_r k a r_r))) ++ ((s_c k a (va_up f_c 2 ((f_c 2) + p0)) (va_up g_c 1 (upd (g_c 1) (f_c 1 : Int32).toNatClampNeg x1))) ++ (P))) H := zpP (by (try simp only [List.append_assoc]); exact List.Perm.refl _) hP
  have hDf : va_D A ((s_q k a f_q r_q c_q ++ (s_t k a f_t g_t ++ (s_r k a r_r))) ++ ((s_c k a (va_up f_c 2 ((f_c 2) + p0)) (va_up g_c 1 (upd (g_c 1) (f_c 1 : Int32).toNatClampNeg x1))) ++ (P))) := zpD (by (try simp only [List.append_assoc]); exact List.Perm.refl _) hD
  have hFc := zfree hDf hS hA
  refine va_callv (va_runV (As := [.int x4]) (rest := []) ⟨hx, hb, hml, hown, htz⟩ (m_131 H.size) (cwV 1 htz (z_gV (fun _ h => h) km_Q_111 in_Ca_ask se_Ca_ask ini_Ca m_Ca_ask) rfl rfl rfl (by decide +kernel) ⟨(Nat.le_of_ble_eq_true rfl), (Nat.le_of_ble_eq_true rfl)⟩) ⟨z_blind, va_recv hK hP (ci := 2) (q0 := 6) rfl rfl, fun U hU hW => ⟨rfl, by rw [hU], hE.call hS hFc hU hW, by rw [hU]; exact (zPc hPf), va_K.moved hW.alike hK, (zDc hDf)⟩⟩ rfl rfl hl.1 rfl (lv_room (Nat.le_of_ble_eq_true rfl)) d_Q_answer_131 b_131) hS (fun q _ h => hFc q h) hFc (fun u t H1 locs ht hvm hw hB hz1 hk1 hS => ?_)
  obtain ⟨hP1, hK1, hD1⟩ := hB
  rw [ht] at hP1
  obtain ⟨hP, hD⟩ := zf hPf hDf hk1 hFc hP1 hD1
  exact k_131 _ hw H1 locs ls (lv_sub hl [0, 1, 2, 3, 4] rfl) hP hD hS
set_option maxHeartbeats 1000000 in
set_option maxRecDepth 100000 in
theorem k_Q_answer_134 {C : CT} (X : cX C "QuestionText" b_Q_answer 5 (some .int)) (Post : Int32 → va_W → Prop) (PX : String → va_W → Prop) (x1 : Int32) (x2 : Option Nat) (x3 : Nat) (x4 : Int32) (f_q : FT) (r_q : Nat → Nat → Option Nat) (c_q : Nat) (f_t : FT) (g_t : GT) (r_r : Nat → Nat → Option Nat) (f_c : FT) (g_c : GT) (P : va_W) (qa : Nat) (ka : Nat) (es : Int32) (e1 : Int64) (e2 : Int64) (e3 : Int64) (i1 : Nat) (c0 s0 : Nat) (hf : P[i1]? = some (c_q, .inr (3, [.ref qa, .ref ka, .int es, .long e1, .long e2, .long e3])))
    (b_136 : c0 ≤ 1 ∧ s0 ≤ 6)
    (q_136 : Post (x4) (s_q C.1.2.2.2.1 C.1.2.2.2.2 f_q r_q c_q ++ (s_t C.1.2.2.2.1 C.1.2.2.2.2 f_t g_t ++ (s_r C.1.2.2.2.1 C.1.2.2.2.2 r_r ++ (s_c C.1.2.2.2.1 C.1.2.2.2.2 f_c g_c ++ (P)))))) : zc_Q_answer C Post PX c0 s0 134 [(0, .ref (ad C.1 24)), (1, .int x1), (2, va_rf x2), (3, .ref x3), (4, .int x4)] [] (s_q C.1.2.2.2.1 C.1.2.2.2.2 f_q r_q c_q ++ (s_t C.1.2.2.2.1 C.1.2.2.2.2 f_t g_t ++ (s_r C.1.2.2.2.1 C.1.2.2.2.2 r_r ++ (s_c C.1.2.2.2.1 C.1.2.2.2.2 f_c g_c ++ (P))))) := by
  obtain ⟨⟨l, dC, dI, k, a⟩, p, e, s, m, args, below, meth, c, A⟩ := C
  obtain ⟨⟨hx, hb, hr, htz, hown, hlocks, hml, hE, hK, hA⟩, hno, hlt⟩ := X
  intro H locs ls hl hP hD hS
  have hl : lv_has ls 5 [(0, .ref (a 24)), (1, .int x1), (2, va_rf x2), (3, .ref x3), (4, .int x4)] := hl
  have hP : va_P (dC, dI) classes (s_q k a f_q r_q c_q ++ (s_t k a f_t g_t ++ (s_r k a r_r ++ (s_c k a f_c g_c ++ (P))))) H := hP
  have hD : va_D A (s_q k a f_q r_q c_q ++ (s_t k a f_t g_t ++ (s_r k a r_r ++ (s_c k a f_c g_c ++ (P))))) := hD
  show W p l e (z_rm 4 1 6) s m args below meth c H locs c0 s0 _ (F0 m 134 ls [])
  refine lv_iload hx hb d_Q_answer_134 (lv_at hl 4 rfl) ?_
  refine W.widen (k := 1) (n := 6) b_136.1 b_136.2 ?_
  refine vx_ret ?_
  exact W.iret (v := x4) hx hb hr (fun t ht hW => ⟨⟨_, (s_q k a f_q r_q c_q ++ (s_t k a f_t g_t ++ (s_r k a r_r ++ (s_c k a f_c g_c ++ (P))))), rfl, q_136, by rw [ht]; exact hP, va_K.moved hW.alike hK, hD⟩, hS.F ht⟩) hS.2.2 d_Q_answer_136
set_option maxHeartbeats 1000000 in
set_option maxRecDepth 100000 in
theorem e_Q_answer (T : ST) (hlt : T.1.stackTraces = false) (Post : Int32 → va_W → Prop) (PX : String → va_W → Prop) (x1 : Int32) (f_q : FT) (r_q : Nat → Nat → Option Nat) (c_q : Nat) (f_t : FT) (g_t : GT) (r_r : Nat → Nat → Option Nat) (f_c : FT) (g_c : GT) (P : va_W) (qa : Nat) (ka : Nat) (es : Int32) (e1 : Int64) (e2 : Int64) (e3 : Int64) (h : ∀ C : CT, C.1 = T → cX C "QuestionText" b_Q_answer 5 (some .int) → zc_Q_answer C Post PX 0 0 0 [(0, .ref (ad C.1 24)), (1, .int x1)] [] (s_q C.1.2.2.2.1 C.1.2.2.2.2 f_q r_q c_q ++ (s_t C.1.2.2.2.1 C.1.2.2.2.2 f_t g_t ++ (s_r C.1.2.2.2.1 C.1.2.2.2.2 r_r ++ (s_c C.1.2.2.2.1 C.1.2.2.2.2 f_c g_c ++ (P)))))) : xI T y_Q_answer (Cond.code y_Q_answer b_Q_answer 5 (some .int)) 4 1 6 [.ref (ad T 24), .int x1] (s_q T.2.2.2.1 T.2.2.2.2 f_q r_q c_q ++ (s_t T.2.2.2.1 T.2.2.2.2 f_t g_t ++ (s_r T.2.2.2.1 T.2.2.2.2 r_r ++ (s_c T.2.2.2.1 T.2.2.2.2 f_c g_c ++ (P))))) Post PX := by
  obtain ⟨l, dC, dI, k, a⟩ := T
  intro sz
  refine vx_ofW (cc := b_Q_answer) (maxL := 5) (ret := (some .int)) (by decide) rfl ?_
  intro p e s m args below meth c s₁ B hml hno hv
  obtain ⟨rfl, hsz, hE, hP, hK, hD0⟩ := hv
  have hts := atoms_spec (ws := (Cond.code y_Q_answer b_Q_answer 5 (some .int)) :: z_T) B.pre
  have htz : ∀ w ∈ z_T, w.before _ s = true := fun w h => hts w (z_cons w h)
  subst hsz
  have hD := hD0.self (sz := s.heap.size)
  generalize hAe : va_A (s_q k a f_q r_q c_q ++ (s_t k a f_t g_t ++ (s_r k a r_r ++ (s_c k a f_c g_c ++ (P))))) s.heap.size = A at hD hE ⊢
  have hA : ∀ q : Nat, s.heap.size ≤ q → A q := fun q h => by rw [← hAe]; exact Or.inr h
  have hl := lv_entry ([.ref (a 24), .int x1]) (n := 5) (Nat.le_of_ble_eq_true rfl)
  rw [lg_entry_eq]
  generalize (lg_sl ([.ref (a 24), .int x1]) ++ List.replicate (5 - (lg_sl ([.ref (a 24), .int x1])).length) Slot.unset).toArray = ls at hl ⊢
  exact h ((l, dC, dI, k, a), p, e, s, m, ([.ref (a 24), .int x1] : List Value).toArray, below, meth, c, A) rfl ⟨⟨B.exec, B.bytes, B.returns, htz, findClass_of_methodNamed B.named, B.notSynchronized, hml, hE, hK, hA⟩, hno, hlt⟩ s.heap [] ls hl hP hD va_S.rf
def zc_Q_priority (C : CT) (Post : Int32 → va_W → Prop) (PX : String → va_W → Prop) (c0 s0 pc : Nat) (loc : List (Nat × Value)) (st : List Value) (ws : va_W) : Prop := zW C (z_rm 5 1 6) 2 (yI C 1 6 Post PX) c0 s0 pc loc st ws
set_option maxHeartbeats 1000000 in
set_option maxRecDepth 100000 in
theorem k_Q_priority_0 {C : CT} (X : cX C "QuestionText" b_Q_priority 2 (some .int)) (Post : Int32 → va_W → Prop) (PX : String → va_W → Prop) {P_11 : Option Nat → va_W → Prop} (f_q : FT) (r_q : Nat → Nat → Option Nat) (c_q : Nat) (f_t : FT) (g_t : GT) (r_r : Nat → Nat → Option Nat) (f_c : FT) (g_c : GT) (P : va_W) (qa : Nat) (ka : Nat) (es : Int32) (e1 : Int64) (e2 : Int64) (e3 : Int64) (i1 : Nat) (c0 s0 : Nat) (hf : P[i1]? = some (c_q, .inr (3, [.ref qa, .ref ka, .int es, .long e1, .long e2, .long e3])))
    (b_11 : c0 ≤ 1 ∧ s0 ≤ 6)
    (m_11 : uR C.1 y_Ed_kindAt (Cond.code y_Ed_kindAt b_Ed_kindAt 2 (some (.object "QuestionText$Kind"))) 0 0 0 [.ref c_q, .int (f_c 3)] (s_q C.1.2.2.2.1 C.1.2.2.2.2 f_q r_q c_q ++ (s_t C.1.2.2.2.1 C.1.2.2.2.2 f_t g_t ++ (s_r C.1.2.2.2.1 C.1.2.2.2.2 r_r ++ (s_c C.1.2.2.2.1 C.1.2.2.2.2 f_c g_c ++ (P))))) P_11)
    (k_11 : ∀ (r : Option Nat) (u : va_W), P_11 r u → zc_Q_priority C Post PX c0 s0 14 [(0, .ref (ad C.1 24))] [va_rf r] (u)) : zc_Q_priority C Post PX c0 s0 0 [(0, .ref (ad C.1 24))] [] (s_q C.1.2.2.2.1 C.1.2.2.2.2 f_q r_q c_q ++ (s_t C.1.2.2.2.1 C.1.2.2.2.2 f_t g_t ++ (s_r C.1.2.2.2.1 C.1.2.2.2.2 r_r ++ (s_c C.1.2.2.2.1 C.1.2.2.2.2 f_c g_c ++ (P))))) := by
  obtain ⟨⟨l, dC, dI, k, a⟩, p, e, s, m, args, below, meth, c, A⟩ := C
  obtain ⟨⟨hx, hb, hr, htz, hown, hlocks, hml, hE, hK, hA⟩, hno, hlt⟩ := X
  intro H locs ls hl hP hD hS
  have hl : lv_has ls 2 [(0, .ref (a 24))] := hl
  have hP : va_P (dC, dI) classes (s_q k a f_q r_q c_q ++ (s_t k a f_t g_t ++ (s_r k a r_r ++ (s_c k a f_c g_c ++ (P))))) H := hP
  have hD : va_D A (s_q k a f_q r_q c_q ++ (s_t k a f_t g_t ++ (s_r k a r_r ++ (s_c k a f_c g_c ++ (P))))) := hD
  show W p l e (z_rm 5 1 6) s m args below meth c H locs c0 s0 _ (F0 m 0 ls [])
  refine lv_aload_n hx hb d_Q_priority_0 rfl (lv_at hl 0 rfl) ?_
  refine va_get (D := (dC, dI)) (ci := 0) (v := .ref c_q) (C := R_Q) (T := F_Q) (N := 6) hx hb htz i_Q hown hK hP 0 rfl rfl 3 (by decide) (htz _ kf_Q_30) (fun _ h9 => h9) rfl d_Q_priority_1 ?_
  refine lv_aload_n hx hb d_Q_priority_4 rfl (lv_at hl 0 rfl) ?_
  refine va_get (D := (dC, dI)) (ci := 0) (v := .ref (a 26)) (C := R_Q) (T := F_Q) (N := 6) hx hb htz i_Q hown hK hP 0 rfl rfl 2 (by decide) (htz _ kf_Q_25) (fun _ h9 => h9) rfl d_Q_priority_5 ?_
  refine va_getN (D := (dC, dI)) (ci := 2) (v := .int (f_c 3)) (C := R_Ca) (T := F_Ca) (N := 6) hx hb htz i_Ca hown hK hP 6 rfl rfl 5 (by decide) (va_Nw.use rfl (hE.2.1 _ kf_Q_99)) (fun _ h9 => h9) rfl d_Q_priority_8 ?_
  have hFc : ∀ q, va_A (s_q k a f_q r_q c_q ++ (s_t k a f_t g_t ++ (s_r k a r_r ++ (s_c k a f_c g_c ++ (P))))) H.size q → A q := fun q h => h.elim (fun z => by obtain ⟨i9, e9, h9⟩ := z; exact hD.2 i9 _ h9) (fun z => hA q (Nat.le_trans hS.1 z))
  refine va_callq (va_runV (As := [.int (f_c 3)]) (rest := []) ⟨hx, hb, hml, hown, htz⟩ (m_11 H.size) (cwV 1 htz (z_gV (fun _ h => h) km_Q_93 in_Ed_kindAt se_Ed_kindAt ini_Ed m_Ed_kindAt) rfl rfl rfl (by decide +kernel) ⟨(Nat.le_of_ble_eq_true rfl), (Nat.le_of_ble_eq_true rfl)⟩) ⟨z_blind, va_recv hK hP (ci := 3) (q0 := (i1 + 9)) rfl hf, fun U hU hW => ⟨rfl, by rw [hU], hE.call hS hFc hU hW, by rw [hU]; exact hP, va_K.moved hW.alike hK, (hD.weaken (fun _ _ _ _ => trivial))⟩⟩ rfl rfl hl.1 rfl (lv_room (Nat.le_of_ble_eq_true rfl)) d_Q_priority_11 b_11) hS (fun q _ h => hFc q h) hFc (fun r u t H1 locs ht hvm hw hB hz1 hk1 hS => ?_)
  obtain ⟨hP1, hK1, hD1⟩ := hB
  rw [ht] at hP1
  have hP := hP1
  have hD := hD1.weaken (fun _ q _ h => hFc _ h)
  exact k_11 r _ hw H1 locs ls (lv_sub hl [0] rfl) hP hD hS
set_option maxHeartbeats 1000000 in
set_option maxRecDepth 100000 in
theorem k_Q_priority_14 {C : CT} (X : cX C "QuestionText" b_Q_priority 2 (some .int)) (Post : Int32 → va_W → Prop) (PX : String → va_W → Prop) {P_34 : Int32 → va_W → Prop} (y0 : Option Nat) (f_q : FT) (r_q : Nat → Nat → Option Nat) (c_q : Nat) (f_t : FT) (g_t : GT) (r_r : Nat → Nat → Option Nat) (f_c : FT) (g_c : GT) (P : va_W) (qa : Nat) (ka : Nat) (es : Int32) (e1 : Int64) (e2 : Int64) (e3 : Int64) (i1 : Nat) (c0 s0 : Nat) (hf : P[i1]? = some (c_q, .inr (3, [.ref qa, .ref ka, .int es, .long e1, .long e2, .long e3])))
    (g_34 : (¬ y0 = none) → ∃ (a34 i34 : Nat) (u34_0 : Int32) (u34_1 : Int32) (u34_2 : Nat), y0 = some a34 ∧ P[i34]? = some (a34, .inr (5, [.int u34_0, .int u34_1, .ref u34_2])))
    (b_34 : (¬ y0 = none) → ∀ (a34 i34 : Nat) (u34_0 : Int32) (u34_1 : Int32) (u34_2 : Nat), y0 = some a34 → P[i34]? = some (a34, .inr (5, [.int u34_0, .int u34_1, .ref u34_2])) → c0 ≤ 1 ∧ s0 ≤ 6)
    (m_34 : (¬ y0 = none) → ∀ (a34 i34 : Nat) (u34_0 : Int32) (u34_1 : Int32) (u34_2 : Nat), y0 = some a34 → P[i34]? = some (a34, .inr (5, [.int u34_0, .int u34_1, .ref u34_2])) → uI C.1 y_Ki_priorityOf (Cond.code y_Ki_priorityOf b_Ki_priorityOf 3 (some .int)) 4 0 0 [.ref a34, .ref (ad C.1 26)] (s_c C.1.2.2.2.1 C.1.2.2.2.2 f_c g_c ++ (P)) P_34)
    (k_34 : (¬ y0 = none) → ∀ (a34 i34 : Nat) (u34_0 : Int32) (u34_1 : Int32) (u34_2 : Nat), y0 = some a34 → P[i34]? = some (a34, .inr (5, [.int u34_0, .int u34_1, .ref u34_2])) → ∀ (r : Int32) (u : va_W), P_34 r u → zc_Q_priority C Post PX c0 s0 37 [(0, .ref (ad C.1 24)), (1, va_rf y0)] [.int r] (s_q C.1.2.2.2.1 C.1.2.2.2.2 f_q r_q c_q ++ (s_t C.1.2.2.2.1 C.1.2.2.2.2 f_t g_t ++ (s_r C.1.2.2.2.1 C.1.2.2.2.2 r_r)) ++ (u)))
    (b_19 : (y0 = none) → c0 + 1 ≤ 1 ∧ s0 + 6 ≤ 6)
    (t_19 : (y0 = none) → PX "java/lang/IllegalStateException" (s_q C.1.2.2.2.1 C.1.2.2.2.2 f_q r_q c_q ++ (s_t C.1.2.2.2.1 C.1.2.2.2.2 f_t g_t ++ (s_r C.1.2.2.2.1 C.1.2.2.2.2 r_r ++ (s_c C.1.2.2.2.1 C.1.2.2.2.2 f_c g_c ++ (P)))))) : zc_Q_priority C Post PX c0 s0 14 [(0, .ref (ad C.1 24))] [va_rf y0] (s_q C.1.2.2.2.1 C.1.2.2.2.2 f_q r_q c_q ++ (s_t C.1.2.2.2.1 C.1.2.2.2.2 f_t g_t ++ (s_r C.1.2.2.2.1 C.1.2.2.2.2 r_r ++ (s_c C.1.2.2.2.1 C.1.2.2.2.2 f_c g_c ++ (P))))) := by
  obtain ⟨⟨l, dC, dI, k, a⟩, p, e, s, m, args, below, meth, c, A⟩ := C
  obtain ⟨⟨hx, hb, hr, htz, hown, hlocks, hml, hE, hK, hA⟩, hno, hlt⟩ := X
  intro H locs ls hl hP hD hS
  have hl : lv_has ls 2 [(0, .ref (a 24))] := hl
  have hP : va_P (dC, dI) classes (s_q k a f_q r_q c_q ++ (s_t k a f_t g_t ++ (s_r k a r_r ++ (s_c k a f_c g_c ++ (P))))) H := hP
  have hD : va_D A (s_q k a f_q r_q c_q ++ (s_t k a f_t g_t ++ (s_r k a r_r ++ (s_c k a f_c g_c ++ (P))))) := hD
  show W p l e (z_rm 5 1 6) s m args below meth c H locs c0 s0 _ (F0 m 14 ls [va_rf y0])
  refine qv_store_n (lv' := [(1, va_rf y0), (0, .ref (a 24))]) hx hb d_Q_priority_14 rfl hl (by decide) rfl (fun ls hl => ?_)
  refine qv_load_n hx hb d_Q_priority_15 rfl (lv_at hl 0 rfl) ?_
  refine qv_nn (tgt := 29) hx hb d_Q_priority_16 (by decide) (fun c_16 => ?_) (fun c_16 => ?_)
  · refine qv_load_n hx hb d_Q_priority_29 rfl (lv_at hl 0 rfl) ?_
    refine lv_aload_n hx hb d_Q_priority_30 rfl (lv_at hl 1 rfl) ?_
    refine va_get (D := (dC, dI)) (ci := 0) (v := .ref (a 26)) (C := R_Q) (T := F_Q) (N := 6) hx hb htz i_Q hown hK hP 0 rfl rfl 2 (by decide) (htz _ kf_Q_25) (fun _ h9 => h9) rfl d_Q_priority_31 ?_
    obtain ⟨a34, i34, u34_0, u34_1, u34_2, he34, hf34⟩ := (g_34 c_16)
    rw [he34]
    have hPf : va_P (dC, dI) classes ((s_q k a f_q r_q c_q ++ (s_t k a f_t g_t ++ (s_r k a r_r))) ++ ((s_c k a f_c g_c ++ (P)) ++ ([]))) H := by rw [List.append_nil]; exact zpP (by (try simp only [List.append_assoc]); exact List.Perm.refl _) hP
    have hDf : va_D A ((s_q k a f_q r_q c_q ++ (s_t k a f_t g_t ++ (s_r k a r_r))) ++ ((s_c k a f_c g_c ++ (P)) ++ ([]))) := by rw [List.append_nil]; exact zpD (by (try simp only [List.append_assoc]); exact List.Perm.refl _) hD
    have hFc := zfree hDf hS hA
    refine va_calli (va_runV (As := [.ref (a 26)]) (rest := []) ⟨hx, hb, hml, hown, htz⟩ ((m_34 c_16 a34 i34 u34_0 u34_1 u34_2 he34 hf34) H.size) (cwV 1 htz (z_gV (fun _ h => h) km_Q_155 in_Ki_priorityOf se_Ki_priorityOf ini_Ki m_Ki_priorityOf) rfl rfl rfl (by decide +kernel) ⟨(Nat.le_of_ble_eq_true rfl), (Nat.le_of_ble_eq_true rfl)⟩) ⟨z_blind, va_recv hK hP (ci := 5) (q0 := (i34 + 9)) rfl hf34, fun U hU hW => ⟨rfl, by rw [hU], hE.call hS hFc hU hW, by rw [hU]; exact (zPc hPf), va_K.moved hW.alike hK, (zDc hDf)⟩⟩ rfl rfl hl.1 rfl (lv_room (Nat.le_of_ble_eq_true rfl)) d_Q_priority_34 (b_34 c_16 a34 i34 u34_0 u34_1 u34_2 he34 hf34)) hS (fun q _ h => hFc q h) hFc (fun r u t H1 locs ht hvm hw hB hz1 hk1 hS => ?_)
    obtain ⟨hP1, hK1, hD1⟩ := hB
    rw [ht] at hP1
    obtain ⟨hP, hD⟩ := zf hPf hDf hk1 hFc hP1 hD1
    rw [List.append_nil] at hP hD
    exact (k_34 c_16 a34 i34 u34_0 u34_1 u34_2 he34 hf34) r _ hw H1 locs ls (lv_sub hl [1, 0] rfl) hP hD hS
  · obtain ⟨sa, hstr⟩ := hE.2.2.2.1 ("QuestionText", 153, "there is no call") (by decide)
    have hB9 := z_thr (dC := dC) (dI := dI) (k := k) hP hK hD hS
    exact vx_throwS (own := "QuestionText") (cls := "java/lang/IllegalStateException") (text := "there is no call") (names := ["java/lang/RuntimeException", "java/lang/Exception"]) (ik := 51) (is := 153) (ic := 55) hx hb hlt hown (by decide +kernel) (by decide +kernel) (htz _ kc_Q_51) (htz _ ini_ISE) hstr (z_hat th_Q_55 htz hE.2.1) tg_Q_51_55 hE.2.2.2.2.1 hE.2.2.2.2.2.1 hS (hl.1.trans hml.symm) d_Q_priority_19 d_Q_priority_22 d_Q_priority_23 d_Q_priority_25 d_Q_priority_28 (fun x hx9 => (hno x hx9).elim) (Nat.le_of_ble_eq_true rfl) (Nat.le_of_ble_eq_true rfl) (b_19 c_16).1 (b_19 c_16).2 hlocks (fun t h1 h2 h3 => ⟨(s_q k a f_q r_q c_q ++ (s_t k a f_t g_t ++ (s_r k a r_r ++ (s_c k a f_c g_c ++ (P))))), trivial, ⟨(t_19 c_16), (hB9 t h1 h2 h3).1⟩, (hB9 t h1 h2 h3).2⟩) hS.2.2 (b_19 c_16).1 (b_19 c_16).2
set_option maxHeartbeats 1000000 in
set_option maxRecDepth 100000 in
theorem k_Q_priority_37 {C : CT} (X : cX C "QuestionText" b_Q_priority 2 (some .int)) (Post : Int32 → va_W → Prop) (PX : String → va_W → Prop) (x1 : Option Nat) (y0 : Int32) (f_q : FT) (r_q : Nat → Nat → Option Nat) (c_q : Nat) (f_t : FT) (g_t : GT) (r_r : Nat → Nat → Option Nat) (f_c : FT) (g_c : GT) (P : va_W) (qa : Nat) (ka : Nat) (es : Int32) (e1 : Int64) (e2 : Int64) (e3 : Int64) (i1 : Nat) (c0 s0 : Nat) (hf : P[i1]? = some (c_q, .inr (3, [.ref qa, .ref ka, .int es, .long e1, .long e2, .long e3])))
    (b_37 : c0 ≤ 1 ∧ s0 ≤ 6)
    (q_37 : Post (y0) (s_q C.1.2.2.2.1 C.1.2.2.2.2 f_q r_q c_q ++ (s_t C.1.2.2.2.1 C.1.2.2.2.2 f_t g_t ++ (s_r C.1.2.2.2.1 C.1.2.2.2.2 r_r ++ (s_c C.1.2.2.2.1 C.1.2.2.2.2 f_c g_c ++ (P)))))) : zc_Q_priority C Post PX c0 s0 37 [(0, .ref (ad C.1 24)), (1, va_rf x1)] [.int y0] (s_q C.1.2.2.2.1 C.1.2.2.2.2 f_q r_q c_q ++ (s_t C.1.2.2.2.1 C.1.2.2.2.2 f_t g_t ++ (s_r C.1.2.2.2.1 C.1.2.2.2.2 r_r ++ (s_c C.1.2.2.2.1 C.1.2.2.2.2 f_c g_c ++ (P))))) := by
  obtain ⟨⟨l, dC, dI, k, a⟩, p, e, s, m, args, below, meth, c, A⟩ := C
  obtain ⟨⟨hx, hb, hr, htz, hown, hlocks, hml, hE, hK, hA⟩, hno, hlt⟩ := X
  intro H locs ls hl hP hD hS
  have hl : lv_has ls 2 [(0, .ref (a 24)), (1, va_rf x1)] := hl
  have hP : va_P (dC, dI) classes (s_q k a f_q r_q c_q ++ (s_t k a f_t g_t ++ (s_r k a r_r ++ (s_c k a f_c g_c ++ (P))))) H := hP
  have hD : va_D A (s_q k a f_q r_q c_q ++ (s_t k a f_t g_t ++ (s_r k a r_r ++ (s_c k a f_c g_c ++ (P))))) := hD
  show W p l e (z_rm 5 1 6) s m args below meth c H locs c0 s0 _ (F0 m 37 ls [.int y0])
  refine W.widen (k := 1) (n := 6) b_37.1 b_37.2 ?_
  refine vx_ret ?_
  exact W.iret (v := y0) hx hb hr (fun t ht hW => ⟨⟨_, (s_q k a f_q r_q c_q ++ (s_t k a f_t g_t ++ (s_r k a r_r ++ (s_c k a f_c g_c ++ (P))))), rfl, q_37, by rw [ht]; exact hP, va_K.moved hW.alike hK, hD⟩, hS.F ht⟩) hS.2.2 d_Q_priority_37
set_option maxHeartbeats 1000000 in
set_option maxRecDepth 100000 in
theorem e_Q_priority (T : ST) (hlt : T.1.stackTraces = false) (Post : Int32 → va_W → Prop) (PX : String → va_W → Prop) (f_q : FT) (r_q : Nat → Nat → Option Nat) (c_q : Nat) (f_t : FT) (g_t : GT) (r_r : Nat → Nat → Option Nat) (f_c : FT) (g_c : GT) (P : va_W) (qa : Nat) (ka : Nat) (es : Int32) (e1 : Int64) (e2 : Int64) (e3 : Int64) (h : ∀ C : CT, C.1 = T → cX C "QuestionText" b_Q_priority 2 (some .int) → zc_Q_priority C Post PX 0 0 0 [(0, .ref (ad C.1 24))] [] (s_q C.1.2.2.2.1 C.1.2.2.2.2 f_q r_q c_q ++ (s_t C.1.2.2.2.1 C.1.2.2.2.2 f_t g_t ++ (s_r C.1.2.2.2.1 C.1.2.2.2.2 r_r ++ (s_c C.1.2.2.2.1 C.1.2.2.2.2 f_c g_c ++ (P)))))) : xI T y_Q_priority (Cond.code y_Q_priority b_Q_priority 2 (some .int)) 5 1 6 [.ref (ad T 24)] (s_q T.2.2.2.1 T.2.2.2.2 f_q r_q c_q ++ (s_t T.2.2.2.1 T.2.2.2.2 f_t g_t ++ (s_r T.2.2.2.1 T.2.2.2.2 r_r ++ (s_c T.2.2.2.1 T.2.2.2.2 f_c g_c ++ (P))))) Post PX := by
  obtain ⟨l, dC, dI, k, a⟩ := T
  intro sz
  refine vx_ofW (cc := b_Q_priority) (maxL := 2) (ret := (some .int)) (by decide) rfl ?_
  intro p e s m args below meth c s₁ B hml hno hv
  obtain ⟨rfl, hsz, hE, hP, hK, hD0⟩ := hv
  have hts := atoms_spec (ws := (Cond.code y_Q_priority b_Q_priority 2 (some .int)) :: z_T) B.pre
  have htz : ∀ w ∈ z_T, w.before _ s = true := fun w h => hts w (z_cons w h)
  subst hsz
  have hD := hD0.self (sz := s.heap.size)
  generalize hAe : va_A (s_q k a f_q r_q c_q ++ (s_t k a f_t g_t ++ (s_r k a r_r ++ (s_c k a f_c g_c ++ (P))))) s.heap.size = A at hD hE ⊢
  have hA : ∀ q : Nat, s.heap.size ≤ q → A q := fun q h => by rw [← hAe]; exact Or.inr h
  have hl := lv_entry ([.ref (a 24)]) (n := 2) (Nat.le_of_ble_eq_true rfl)
  rw [lg_entry_eq]
  generalize (lg_sl ([.ref (a 24)]) ++ List.replicate (2 - (lg_sl ([.ref (a 24)])).length) Slot.unset).toArray = ls at hl ⊢
  exact h ((l, dC, dI, k, a), p, e, s, m, ([.ref (a 24)] : List Value).toArray, below, meth, c, A) rfl ⟨⟨B.exec, B.bytes, B.returns, htz, findClass_of_methodNamed B.named, B.notSynchronized, hml, hE, hK, hA⟩, hno, hlt⟩ s.heap [] ls hl hP hD va_S.rf
def zc_Q_word (C : CT) (Post : Int32 → va_W → Prop) (PX : String → va_W → Prop) (c0 s0 pc : Nat) (loc : List (Nat × Value)) (st : List Value) (ws : va_W) : Prop := zW C (z_rm 1 1 6) 6 (yI C 1 6 Post PX) c0 s0 pc loc st ws
set_option maxHeartbeats 1000000 in
set_option maxRecDepth 100000 in
theorem k_Q_word_0 {C : CT} (X : cX C "QuestionText" b_Q_word 6 (some .int)) (Post : Int32 → va_W → Prop) (PX : String → va_W → Prop) {P_5 : Option Nat → va_W → Prop} (x1 : Int32) (x2 : Int32) (x3 : Int32) (f_q : FT) (r_q : Nat → Nat → Option Nat) (c_q : Nat) (f_t : FT) (g_t : GT) (r_r : Nat → Nat → Option Nat) (f_c : FT) (g_c : GT) (P : va_W) (qa : Nat) (ka : Nat) (es : Int32) (e1 : Int64) (e2 : Int64) (e3 : Int64) (i1 : Nat) (c0 s0 : Nat) (hf : P[i1]? = some (c_q, .inr (3, [.ref qa, .ref ka, .int es, .long e1, .long e2, .long e3])))
    (b_5 : c0 ≤ 1 ∧ s0 ≤ 6)
    (m_5 : uR C.1 y_Ed_questionAt (Cond.code y_Ed_questionAt b_Ed_questionAt 2 (some (.object "QuestionText$Question"))) 0 0 0 [.ref c_q, .int x1] (s_q C.1.2.2.2.1 C.1.2.2.2.2 f_q r_q c_q ++ (s_t C.1.2.2.2.1 C.1.2.2.2.2 f_t g_t ++ (s_r C.1.2.2.2.1 C.1.2.2.2.2 r_r ++ (s_c C.1.2.2.2.1 C.1.2.2.2.2 f_c g_c ++ (P))))) P_5)
    (k_5 : ∀ (r : Option Nat) (u : va_W), P_5 r u → zc_Q_word C Post PX c0 s0 8 [(0, .ref (ad C.1 24)), (1, .int x1), (2, .int x2), (3, .int x3)] [va_rf r] (u)) : zc_Q_word C Post PX c0 s0 0 [(0, .ref (ad C.1 24)), (1, .int x1), (2, .int x2), (3, .int x3)] [] (s_q C.1.2.2.2.1 C.1.2.2.2.2 f_q r_q c_q ++ (s_t C.1.2.2.2.1 C.1.2.2.2.2 f_t g_t ++ (s_r C.1.2.2.2.1 C.1.2.2.2.2 r_r ++ (s_c C.1.2.2.2.1 C.1.2.2.2.2 f_c g_c ++ (P))))) := by
  obtain ⟨⟨l, dC, dI, k, a⟩, p, e, s, m, args, below, meth, c, A⟩ := C
  obtain ⟨⟨hx, hb, hr, htz, hown, hlocks, hml, hE, hK, hA⟩, hno, hlt⟩ := X
  intro H locs ls hl hP hD hS
  have hl : lv_has ls 6 [(0, .ref (a 24)), (1, .int x1), (2, .int x2), (3, .int x3)] := hl
  have hP : va_P (dC, dI) classes (s_q k a f_q r_q c_q ++ (s_t k a f_t g_t ++ (s_r k a r_r ++ (s_c k a f_c g_c ++ (P))))) H := hP
  have hD : va_D A (s_q k a f_q r_q c_q ++ (s_t k a f_t g_t ++ (s_r k a r_r ++ (s_c k a f_c g_c ++ (P))))) := hD
  show W p l e (z_rm 1 1 6) s m args below meth c H locs c0 s0 _ (F0 m 0 ls [])
  refine lv_aload_n hx hb d_Q_word_0 rfl (lv_at hl 0 rfl) ?_
  refine va_get (D := (dC, dI)) (ci := 0) (v := .ref c_q) (C := R_Q) (T := F_Q) (N := 6) hx hb htz i_Q hown hK hP 0 rfl rfl 3 (by decide) (htz _ kf_Q_30) (fun _ h9 => h9) rfl d_Q_word_1 ?_
  refine lv_iload_n hx hb d_Q_word_4 rfl (lv_at hl 1 rfl) ?_
  have hFc : ∀ q, va_A (s_q k a f_q r_q c_q ++ (s_t k a f_t g_t ++ (s_r k a r_r ++ (s_c k a f_c g_c ++ (P))))) H.size q → A q := fun q h => h.elim (fun z => by obtain ⟨i9, e9, h9⟩ := z; exact hD.2 i9 _ h9) (fun z => hA q (Nat.le_trans hS.1 z))
  refine va_callq (va_runV (As := [.int x1]) (rest := []) ⟨hx, hb, hml, hown, htz⟩ (m_5 H.size) (cwV 1 htz (z_gV (fun _ h => h) km_Q_117 in_Ed_questionAt se_Ed_questionAt ini_Ed m_Ed_questionAt) rfl rfl rfl (by decide +kernel) ⟨(Nat.le_of_ble_eq_true rfl), (Nat.le_of_ble_eq_true rfl)⟩) ⟨z_blind, va_recv hK hP (ci := 3) (q0 := (i1 + 9)) rfl hf, fun U hU hW => ⟨rfl, by rw [hU], hE.call hS hFc hU hW, by rw [hU]; exact hP, va_K.moved hW.alike hK, (hD.weaken (fun _ _ _ _ => trivial))⟩⟩ rfl rfl hl.1 rfl (lv_room (Nat.le_of_ble_eq_true rfl)) d_Q_word_5 b_5) hS (fun q _ h => hFc q h) hFc (fun r u t H1 locs ht hvm hw hB hz1 hk1 hS => ?_)
  obtain ⟨hP1, hK1, hD1⟩ := hB
  rw [ht] at hP1
  have hP := hP1
  have hD := hD1.weaken (fun _ q _ h => hFc _ h)
  exact k_5 r _ hw H1 locs ls (lv_sub hl [0, 1, 2, 3] rfl) hP hD hS
set_option maxHeartbeats 1000000 in
set_option maxRecDepth 100000 in
theorem k_Q_word_8 {C : CT} (X : cX C "QuestionText" b_Q_word 6 (some .int)) (Post : Int32 → va_W → Prop) (PX : String → va_W → Prop) (x1 : Int32) (x2 : Int32) (x3 : Int32) (y0 : Option Nat) (f_q : FT) (r_q : Nat → Nat → Option Nat) (c_q : Nat) (f_t : FT) (g_t : GT) (r_r : Nat → Nat → Option Nat) (f_c : FT) (g_c : GT) (P : va_W) (qa : Nat) (ka : Nat) (es : Int32) (e1 : Int64) (e2 : Int64) (e3 : Int64) (i1 : Nat) (c0 s0 : Nat) (hf : P[i1]? = some (c_q, .inr (3, [.ref qa, .ref ka, .int es, .long e1, .long e2, .long e3])))
    (k_28 : (y0 = none) → zc_Q_word C Post PX c0 s0 28 [(0, .ref (ad C.1 24)), (1, .int x1), (2, .int x2), (3, .int x3), (4, va_rf y0)] [] (s_q C.1.2.2.2.1 C.1.2.2.2.2 f_q r_q c_q ++ (s_t C.1.2.2.2.1 C.1.2.2.2.2 f_t g_t ++ (s_r C.1.2.2.2.1 C.1.2.2.2.2 r_r ++ (s_c C.1.2.2.2.1 C.1.2.2.2.2 f_c g_c ++ (P))))))
    (k_28_1 : (¬ y0 = none) → (x2 < 0) → zc_Q_word C Post PX c0 s0 28 [(0, .ref (ad C.1 24)), (1, .int x1), (2, .int x2), (3, .int x3), (4, va_rf y0)] [] (s_q C.1.2.2.2.1 C.1.2.2.2.2 f_q r_q c_q ++ (s_t C.1.2.2.2.1 C.1.2.2.2.2 f_t g_t ++ (s_r C.1.2.2.2.1 C.1.2.2.2.2 r_r ++ (s_c C.1.2.2.2.1 C.1.2.2.2.2 f_c g_c ++ (P))))))
    (k_28_2 : (¬ y0 = none) → (¬ x2 < 0) → (1 < x2) → zc_Q_word C Post PX c0 s0 28 [(0, .ref (ad C.1 24)), (1, .int x1), (2, .int x2), (3, .int x3), (4, va_rf y0)] [] (s_q C.1.2.2.2.1 C.1.2.2.2.2 f_q r_q c_q ++ (s_t C.1.2.2.2.1 C.1.2.2.2.2 f_t g_t ++ (s_r C.1.2.2.2.1 C.1.2.2.2.2 r_r ++ (s_c C.1.2.2.2.1 C.1.2.2.2.2 f_c g_c ++ (P))))))
    (g_52 : (¬ y0 = none) → (¬ x2 < 0) → (¬ 1 < x2) → (0 ≤ x3) → (¬ x2 = 0) → ∃ (a52 i52 : Nat) (u52_0 : Int32) (u52_1 : Nat) (u52_2 : Nat) (u52_3 : Nat) (u52_4 : Nat) (u52_5 : Nat), y0 = some a52 ∧ P[i52]? = some (a52, .inr (6, [.int u52_0, .ref u52_1, .ref u52_2, .ref u52_3, .ref u52_4, .ref u52_5])))
    (k_55 : (¬ y0 = none) → (¬ x2 < 0) → (¬ 1 < x2) → (0 ≤ x3) → (¬ x2 = 0) → ∀ (a52 i52 : Nat) (u52_0 : Int32) (u52_1 : Nat) (u52_2 : Nat) (u52_3 : Nat) (u52_4 : Nat) (u52_5 : Nat), y0 = some a52 → P[i52]? = some (a52, .inr (6, [.int u52_0, .ref u52_1, .ref u52_2, .ref u52_3, .ref u52_4, .ref u52_5])) → zc_Q_word C Post PX c0 s0 55 [(0, .ref (ad C.1 24)), (1, .int x1), (2, .int x2), (3, .int x3), (4, va_rf y0)] [.ref u52_3] (s_q C.1.2.2.2.1 C.1.2.2.2.2 f_q r_q c_q ++ (s_t C.1.2.2.2.1 C.1.2.2.2.2 f_t g_t ++ (s_r C.1.2.2.2.1 C.1.2.2.2.2 r_r ++ (s_c C.1.2.2.2.1 C.1.2.2.2.2 f_c g_c ++ (P))))))
    (g_44 : (¬ y0 = none) → (¬ x2 < 0) → (¬ 1 < x2) → (0 ≤ x3) → (x2 = 0) → ∃ (a44 i44 : Nat) (u44_0 : Int32) (u44_1 : Nat) (u44_2 : Nat) (u44_3 : Nat) (u44_4 : Nat) (u44_5 : Nat), y0 = some a44 ∧ P[i44]? = some (a44, .inr (6, [.int u44_0, .ref u44_1, .ref u44_2, .ref u44_3, .ref u44_4, .ref u44_5])))
    (k_55_1 : (¬ y0 = none) → (¬ x2 < 0) → (¬ 1 < x2) → (0 ≤ x3) → (x2 = 0) → ∀ (a44 i44 : Nat) (u44_0 : Int32) (u44_1 : Nat) (u44_2 : Nat) (u44_3 : Nat) (u44_4 : Nat) (u44_5 : Nat), y0 = some a44 → P[i44]? = some (a44, .inr (6, [.int u44_0, .ref u44_1, .ref u44_2, .ref u44_3, .ref u44_4, .ref u44_5])) → zc_Q_word C Post PX c0 s0 55 [(0, .ref (ad C.1 24)), (1, .int x1), (2, .int x2), (3, .int x3), (4, va_rf y0)] [.ref u44_2] (s_q C.1.2.2.2.1 C.1.2.2.2.2 f_q r_q c_q ++ (s_t C.1.2.2.2.1 C.1.2.2.2.2 f_t g_t ++ (s_r C.1.2.2.2.1 C.1.2.2.2.2 r_r ++ (s_c C.1.2.2.2.1 C.1.2.2.2.2 f_c g_c ++ (P))))))
    (k_28_3 : (¬ y0 = none) → (¬ x2 < 0) → (¬ 1 < x2) → (¬ 0 ≤ x3) → zc_Q_word C Post PX c0 s0 28 [(0, .ref (ad C.1 24)), (1, .int x1), (2, .int x2), (3, .int x3), (4, va_rf y0)] [] (s_q C.1.2.2.2.1 C.1.2.2.2.2 f_q r_q c_q ++ (s_t C.1.2.2.2.1 C.1.2.2.2.2 f_t g_t ++ (s_r C.1.2.2.2.1 C.1.2.2.2.2 r_r ++ (s_c C.1.2.2.2.1 C.1.2.2.2.2 f_c g_c ++ (P)))))) : zc_Q_word C Post PX c0 s0 8 [(0, .ref (ad C.1 24)), (1, .int x1), (2, .int x2), (3, .int x3)] [va_rf y0] (s_q C.1.2.2.2.1 C.1.2.2.2.2 f_q r_q c_q ++ (s_t C.1.2.2.2.1 C.1.2.2.2.2 f_t g_t ++ (s_r C.1.2.2.2.1 C.1.2.2.2.2 r_r ++ (s_c C.1.2.2.2.1 C.1.2.2.2.2 f_c g_c ++ (P))))) := by
  obtain ⟨⟨l, dC, dI, k, a⟩, p, e, s, m, args, below, meth, c, A⟩ := C
  obtain ⟨⟨hx, hb, hr, htz, hown, hlocks, hml, hE, hK, hA⟩, hno, hlt⟩ := X
  intro H locs ls hl hP hD hS
  have hl : lv_has ls 6 [(0, .ref (a 24)), (1, .int x1), (2, .int x2), (3, .int x3)] := hl
  have hP : va_P (dC, dI) classes (s_q k a f_q r_q c_q ++ (s_t k a f_t g_t ++ (s_r k a r_r ++ (s_c k a f_c g_c ++ (P))))) H := hP
  have hD : va_D A (s_q k a f_q r_q c_q ++ (s_t k a f_t g_t ++ (s_r k a r_r ++ (s_c k a f_c g_c ++ (P))))) := hD
  show W p l e (z_rm 1 1 6) s m args below meth c H locs c0 s0 _ (F0 m 8 ls [va_rf y0])
  refine qv_store (lv' := [(4, va_rf y0), (0, .ref (a 24)), (1, .int x1), (2, .int x2), (3, .int x3)]) hx hb d_Q_word_8 hl (by decide) rfl (fun ls hl => ?_)
  refine qv_load hx hb d_Q_word_10 (lv_at hl 0 rfl) ?_
  refine qv_nl (tgt := 28) hx hb d_Q_word_12 (by decide) (fun c_12 => ?_) (fun c_12 => ?_)
  · exact (k_28 c_12) H locs ls (lv_sub hl [1, 2, 3, 4, 0] rfl) hP hD hS
  · refine lv_iload_n hx hb d_Q_word_15 rfl (lv_at hl 3 rfl) ?_
    refine lv_if_lt (tgt := 28) hx hb d_Q_word_16 (by decide) (fun c_16 => ?_) (fun c_16 => ?_)
    · exact (k_28_1 c_12 c_16) H locs ls (lv_sub hl [1, 2, 3, 4, 0] rfl) hP hD hS
    · refine lv_iload_n hx hb d_Q_word_19 rfl (lv_at hl 3 rfl) ?_
      refine lv_iconst (v := 1) hx hb d_Q_word_20 (by decide) ?_
      refine lv_icmp_gt (tgt := 28) hx hb d_Q_word_21 (by decide) (fun c_21 => ?_) (fun c_21 => ?_)
      · exact (k_28_2 c_12 c_16 c_21) H locs ls (lv_sub hl [1, 2, 3, 4, 0] rfl) hP hD hS
      · refine lv_iload_n hx hb d_Q_word_24 rfl (lv_at hl 4 rfl) ?_
        refine lv_if_ge (tgt := 38) hx hb d_Q_word_25 (by decide) (fun c_25 => ?_) (fun c_25 => ?_)
        · refine lv_iload_n hx hb d_Q_word_38 rfl (lv_at hl 3 rfl) ?_
          refine lv_if_ne (tgt := 50) hx hb d_Q_word_39 (by decide) (fun c_39 => ?_) (fun c_39 => ?_)
          · refine qv_load hx hb d_Q_word_50 (lv_at hl 0 rfl) ?_
            obtain ⟨a52, i52, u52_0, u52_1, u52_2, u52_3, u52_4, u52_5, he52, hf52⟩ := (g_52 c_12 c_16 c_21 c_25 c_39)
            rw [he52]
            refine va_getN (D := (dC, dI)) (ci := 6) (v := .ref u52_3) (C := R_Qu) (T := F_Qu) (N := 6) hx hb htz i_Qu hown hK hP (i52 + 9) hf52 rfl 3 (by decide) (va_Nw.use rfl (hE.2.1 _ kf_Q_183)) (fun _ h9 => h9) rfl d_Q_word_52 ?_
            exact (k_55 c_12 c_16 c_21 c_25 c_39 a52 i52 u52_0 u52_1 u52_2 u52_3 u52_4 u52_5 he52 hf52) H locs ls (lv_sub hl [1, 2, 3, 4, 0] rfl) hP hD hS
          · refine qv_load hx hb d_Q_word_42 (lv_at hl 0 rfl) ?_
            obtain ⟨a44, i44, u44_0, u44_1, u44_2, u44_3, u44_4, u44_5, he44, hf44⟩ := (g_44 c_12 c_16 c_21 c_25 c_39)
            rw [he44]
            refine va_getN (D := (dC, dI)) (ci := 6) (v := .ref u44_2) (C := R_Qu) (T := F_Qu) (N := 6) hx hb htz i_Qu hown hK hP (i44 + 9) hf44 rfl 2 (by decide) (va_Nw.use rfl (hE.2.1 _ kf_Q_180)) (fun _ h9 => h9) rfl d_Q_word_44 ?_
            refine lv_goto (tgt := 55) hx hb d_Q_word_47 (by decide) ?_
            exact (k_55_1 c_12 c_16 c_21 c_25 c_39 a44 i44 u44_0 u44_1 u44_2 u44_3 u44_4 u44_5 he44 hf44) H locs ls (lv_sub hl [1, 2, 3, 4, 0] rfl) hP hD hS
        · exact (k_28_3 c_12 c_16 c_21 c_25) H locs ls (lv_sub hl [1, 2, 3, 4, 0] rfl) hP hD hS
set_option maxHeartbeats 1000000 in
set_option maxRecDepth 100000 in
theorem k_Q_word_28 {C : CT} (X : cX C "QuestionText" b_Q_word 6 (some .int)) (Post : Int32 → va_W → Prop) (PX : String → va_W → Prop) (x1 : Int32) (x2 : Int32) (x3 : Int32) (x4 : Option Nat) (f_q : FT) (r_q : Nat → Nat → Option Nat) (c_q : Nat) (f_t : FT) (g_t : GT) (r_r : Nat → Nat → Option Nat) (f_c : FT) (g_c : GT) (P : va_W) (qa : Nat) (ka : Nat) (es : Int32) (e1 : Int64) (e2 : Int64) (e3 : Int64) (i1 : Nat) (c0 s0 : Nat) (hf : P[i1]? = some (c_q, .inr (3, [.ref qa, .ref ka, .int es, .long e1, .long e2, .long e3])))
    (b_28 : c0 + 1 ≤ 1 ∧ s0 + 6 ≤ 6)
    (t_28 : PX "java/lang/IllegalArgumentException" (s_q C.1.2.2.2.1 C.1.2.2.2.2 f_q r_q c_q ++ (s_t C.1.2.2.2.1 C.1.2.2.2.2 f_t g_t ++ (s_r C.1.2.2.2.1 C.1.2.2.2.2 r_r ++ (s_c C.1.2.2.2.1 C.1.2.2.2.2 f_c g_c ++ (P)))))) : zc_Q_word C Post PX c0 s0 28 [(0, .ref (ad C.1 24)), (1, .int x1), (2, .int x2), (3, .int x3), (4, va_rf x4)] [] (s_q C.1.2.2.2.1 C.1.2.2.2.2 f_q r_q c_q ++ (s_t C.1.2.2.2.1 C.1.2.2.2.2 f_t g_t ++ (s_r C.1.2.2.2.1 C.1.2.2.2.2 r_r ++ (s_c C.1.2.2.2.1 C.1.2.2.2.2 f_c g_c ++ (P))))) := by
  obtain ⟨⟨l, dC, dI, k, a⟩, p, e, s, m, args, below, meth, c, A⟩ := C
  obtain ⟨⟨hx, hb, hr, htz, hown, hlocks, hml, hE, hK, hA⟩, hno, hlt⟩ := X
  intro H locs ls hl hP hD hS
  have hl : lv_has ls 6 [(0, .ref (a 24)), (1, .int x1), (2, .int x2), (3, .int x3), (4, va_rf x4)] := hl
  have hP : va_P (dC, dI) classes (s_q k a f_q r_q c_q ++ (s_t k a f_t g_t ++ (s_r k a r_r ++ (s_c k a f_c g_c ++ (P))))) H := hP
  have hD : va_D A (s_q k a f_q r_q c_q ++ (s_t k a f_t g_t ++ (s_r k a r_r ++ (s_c k a f_c g_c ++ (P))))) := hD
  show W p l e (z_rm 1 1 6) s m args below meth c H locs c0 s0 _ (F0 m 28 ls [])
  obtain ⟨sa, hstr⟩ := hE.2.2.2.1 ("QuestionText", 178, "no such question, language or byte") (by decide)
  have hB9 := z_thr (dC := dC) (dI := dI) (k := k) hP hK hD hS
  exact vx_throwS (own := "QuestionText") (cls := "java/lang/IllegalArgumentException") (text := "no such question, language or byte") (names := ["java/lang/RuntimeException", "java/lang/Exception"]) (ik := 41) (is := 178) (ic := 45) hx hb hlt hown (by decide +kernel) (by decide +kernel) (htz _ kc_Q_41) (htz _ ini_IAE) hstr (z_hat th_Q_45 htz hE.2.1) tg_Q_41_45 hE.2.2.2.2.1 hE.2.2.2.2.2.1 hS (hl.1.trans hml.symm) d_Q_word_28 d_Q_word_31 d_Q_word_32 d_Q_word_34 d_Q_word_37 (fun x hx9 => (hno x hx9).elim) (Nat.le_of_ble_eq_true rfl) (Nat.le_of_ble_eq_true rfl) b_28.1 b_28.2 hlocks (fun t h1 h2 h3 => ⟨(s_q k a f_q r_q c_q ++ (s_t k a f_t g_t ++ (s_r k a r_r ++ (s_c k a f_c g_c ++ (P))))), trivial, ⟨t_28, (hB9 t h1 h2 h3).1⟩, (hB9 t h1 h2 h3).2⟩) hS.2.2 b_28.1 b_28.2
set_option maxHeartbeats 1000000 in
set_option maxRecDepth 100000 in
theorem k_Q_word_55 {C : CT} (X : cX C "QuestionText" b_Q_word 6 (some .int)) (Post : Int32 → va_W → Prop) (PX : String → va_W → Prop) (x1 : Int32) (x2 : Int32) (x3 : Int32) (x4 : Option Nat) (y0 : Nat) (f_q : FT) (r_q : Nat → Nat → Option Nat) (c_q : Nat) (f_t : FT) (g_t : GT) (r_r : Nat → Nat → Option Nat) (f_c : FT) (g_c : GT) (P : va_W) (qa : Nat) (ka : Nat) (es : Int32) (e1 : Int64) (e2 : Int64) (e3 : Int64) (nw : Nat) (fw : Nat → Int32) (i1 : Nat) (i2 : Nat) (c0 s0 : Nat) (hf : P[i1]? = some (c_q, .inr (3, [.ref qa, .ref ka, .int es, .long e1, .long e2, .long e3]))) (hw : P[i2]? = some (y0, .inl (C.1.2.2.2.1 0, nw, .inl fw)))
    (k_72 : (nI nw ≤ x3) → zc_Q_word C Post PX c0 s0 72 [(0, .ref (ad C.1 24)), (1, .int x1), (2, .int x2), (3, .int x3), (4, va_rf x4), (5, .ref y0)] [.int (-1)] (s_q C.1.2.2.2.1 C.1.2.2.2.2 f_q r_q c_q ++ (s_t C.1.2.2.2.1 C.1.2.2.2.2 f_t g_t ++ (s_r C.1.2.2.2.1 C.1.2.2.2.2 r_r ++ (s_c C.1.2.2.2.1 C.1.2.2.2.2 f_c g_c ++ (P))))))
    (h_67 : (¬ nI nw ≤ x3) → vp_in (x3) nw)
    (k_72_1 : (¬ nI nw ≤ x3) → zc_Q_word C Post PX c0 s0 72 [(0, .ref (ad C.1 24)), (1, .int x1), (2, .int x2), (3, .int x3), (4, va_rf x4), (5, .ref y0)] [.int (fw (x3 : Int32).toNatClampNeg)] (s_q C.1.2.2.2.1 C.1.2.2.2.2 f_q r_q c_q ++ (s_t C.1.2.2.2.1 C.1.2.2.2.2 f_t g_t ++ (s_r C.1.2.2.2.1 C.1.2.2.2.2 r_r ++ (s_c C.1.2.2.2.1 C.1.2.2.2.2 f_c g_c ++ (P)))))) : zc_Q_word C Post PX c0 s0 55 [(0, .ref (ad C.1 24)), (1, .int x1), (2, .int x2), (3, .int x3), (4, va_rf x4)] [.ref y0] (s_q C.1.2.2.2.1 C.1.2.2.2.2 f_q r_q c_q ++ (s_t C.1.2.2.2.1 C.1.2.2.2.2 f_t g_t ++ (s_r C.1.2.2.2.1 C.1.2.2.2.2 r_r ++ (s_c C.1.2.2.2.1 C.1.2.2.2.2 f_c g_c ++ (P))))) := by
  obtain ⟨⟨l, dC, dI, k, a⟩, p, e, s, m, args, below, meth, c, A⟩ := C
  obtain ⟨⟨hx, hb, hr, htz, hown, hlocks, hml, hE, hK, hA⟩, hno, hlt⟩ := X
  intro H locs ls hl hP hD hS
  have hl : lv_has ls 6 [(0, .ref (a 24)), (1, .int x1), (2, .int x2), (3, .int x3), (4, va_rf x4)] := hl
  have hP : va_P (dC, dI) classes (s_q k a f_q r_q c_q ++ (s_t k a f_t g_t ++ (s_r k a r_r ++ (s_c k a f_c g_c ++ (P))))) H := hP
  have hD : va_D A (s_q k a f_q r_q c_q ++ (s_t k a f_t g_t ++ (s_r k a r_r ++ (s_c k a f_c g_c ++ (P))))) := hD
  show W p l e (z_rm 1 1 6) s m args below meth c H locs c0 s0 _ (F0 m 55 ls [.ref y0])
  refine lv_astore (lv' := [(5, .ref y0), (0, .ref (a 24)), (1, .int x1), (2, .int x2), (3, .int x3), (4, va_rf x4)]) hx hb d_Q_word_55 hl (by decide) (by cases x4 <;> rfl) (fun ls hl => ?_)
  refine lv_iload_n hx hb d_Q_word_57 rfl (lv_at hl 4 rfl) ?_
  refine lv_aload hx hb d_Q_word_58 (lv_at hl 0 rfl) ?_
  refine va_alen hx hb hK hP (i2 + 9) 0 hw rfl (v := nI nw) rfl d_Q_word_60 ?_
  refine lv_icmp_ge (tgt := 71) hx hb d_Q_word_61 (by decide) (fun c_61 => ?_) (fun c_61 => ?_)
  · refine lv_iconst (v := -1) hx hb d_Q_word_71 (by decide) ?_
    exact (k_72 c_61) H locs ls (lv_sub hl [1, 2, 3, 4, 5, 0] rfl) hP hD hS
  · refine lv_aload hx hb d_Q_word_64 (lv_at hl 0 rfl) ?_
    refine lv_iload_n hx hb d_Q_word_66 rfl (lv_at hl 4 rfl) ?_
    refine va_iald hx hb hK hP (i2 + 9) 0 hw rfl (h_67 c_61) d_Q_word_67 ?_
    refine lv_goto (tgt := 72) hx hb d_Q_word_68 (by decide) ?_
    exact (k_72_1 c_61) H locs ls (lv_sub hl [1, 2, 3, 4, 5, 0] rfl) hP hD hS
set_option maxHeartbeats 1000000 in
set_option maxRecDepth 100000 in
theorem k_Q_word_72 {C : CT} (X : cX C "QuestionText" b_Q_word 6 (some .int)) (Post : Int32 → va_W → Prop) (PX : String → va_W → Prop) (x1 : Int32) (x2 : Int32) (x3 : Int32) (x4 : Option Nat) (x5 : Nat) (y0 : Int32) (f_q : FT) (r_q : Nat → Nat → Option Nat) (c_q : Nat) (f_t : FT) (g_t : GT) (r_r : Nat → Nat → Option Nat) (f_c : FT) (g_c : GT) (P : va_W) (qa : Nat) (ka : Nat) (es : Int32) (e1 : Int64) (e2 : Int64) (e3 : Int64) (i1 : Nat) (c0 s0 : Nat) (hf : P[i1]? = some (c_q, .inr (3, [.ref qa, .ref ka, .int es, .long e1, .long e2, .long e3])))
    (b_72 : c0 ≤ 1 ∧ s0 ≤ 6)
    (q_72 : Post (y0) (s_q C.1.2.2.2.1 C.1.2.2.2.2 f_q r_q c_q ++ (s_t C.1.2.2.2.1 C.1.2.2.2.2 f_t g_t ++ (s_r C.1.2.2.2.1 C.1.2.2.2.2 r_r ++ (s_c C.1.2.2.2.1 C.1.2.2.2.2 f_c g_c ++ (P)))))) : zc_Q_word C Post PX c0 s0 72 [(0, .ref (ad C.1 24)), (1, .int x1), (2, .int x2), (3, .int x3), (4, va_rf x4), (5, .ref x5)] [.int y0] (s_q C.1.2.2.2.1 C.1.2.2.2.2 f_q r_q c_q ++ (s_t C.1.2.2.2.1 C.1.2.2.2.2 f_t g_t ++ (s_r C.1.2.2.2.1 C.1.2.2.2.2 r_r ++ (s_c C.1.2.2.2.1 C.1.2.2.2.2 f_c g_c ++ (P))))) := by
  obtain ⟨⟨l, dC, dI, k, a⟩, p, e, s, m, args, below, meth, c, A⟩ := C
  obtain ⟨⟨hx, hb, hr, htz, hown, hlocks, hml, hE, hK, hA⟩, hno, hlt⟩ := X
  intro H locs ls hl hP hD hS
  have hl : lv_has ls 6 [(0, .ref (a 24)), (1, .int x1), (2, .int x2), (3, .int x3), (4, va_rf x4), (5, .ref x5)] := hl
  have hP : va_P (dC, dI) classes (s_q k a f_q r_q c_q ++ (s_t k a f_t g_t ++ (s_r k a r_r ++ (s_c k a f_c g_c ++ (P))))) H := hP
  have hD : va_D A (s_q k a f_q r_q c_q ++ (s_t k a f_t g_t ++ (s_r k a r_r ++ (s_c k a f_c g_c ++ (P))))) := hD
  show W p l e (z_rm 1 1 6) s m args below meth c H locs c0 s0 _ (F0 m 72 ls [.int y0])
  refine W.widen (k := 1) (n := 6) b_72.1 b_72.2 ?_
  refine vx_ret ?_
  exact W.iret (v := y0) hx hb hr (fun t ht hW => ⟨⟨_, (s_q k a f_q r_q c_q ++ (s_t k a f_t g_t ++ (s_r k a r_r ++ (s_c k a f_c g_c ++ (P))))), rfl, q_72, by rw [ht]; exact hP, va_K.moved hW.alike hK, hD⟩, hS.F ht⟩) hS.2.2 d_Q_word_72
set_option maxHeartbeats 1000000 in
set_option maxRecDepth 100000 in
theorem e_Q_word (T : ST) (hlt : T.1.stackTraces = false) (Post : Int32 → va_W → Prop) (PX : String → va_W → Prop) (x1 : Int32) (x2 : Int32) (x3 : Int32) (f_q : FT) (r_q : Nat → Nat → Option Nat) (c_q : Nat) (f_t : FT) (g_t : GT) (r_r : Nat → Nat → Option Nat) (f_c : FT) (g_c : GT) (P : va_W) (qa : Nat) (ka : Nat) (es : Int32) (e1 : Int64) (e2 : Int64) (e3 : Int64) (h : ∀ C : CT, C.1 = T → cX C "QuestionText" b_Q_word 6 (some .int) → zc_Q_word C Post PX 0 0 0 [(0, .ref (ad C.1 24)), (1, .int x1), (2, .int x2), (3, .int x3)] [] (s_q C.1.2.2.2.1 C.1.2.2.2.2 f_q r_q c_q ++ (s_t C.1.2.2.2.1 C.1.2.2.2.2 f_t g_t ++ (s_r C.1.2.2.2.1 C.1.2.2.2.2 r_r ++ (s_c C.1.2.2.2.1 C.1.2.2.2.2 f_c g_c ++ (P)))))) : xI T y_Q_word (Cond.code y_Q_word b_Q_word 6 (some .int)) 1 1 6 [.ref (ad T 24), .int x1, .int x2, .int x3] (s_q T.2.2.2.1 T.2.2.2.2 f_q r_q c_q ++ (s_t T.2.2.2.1 T.2.2.2.2 f_t g_t ++ (s_r T.2.2.2.1 T.2.2.2.2 r_r ++ (s_c T.2.2.2.1 T.2.2.2.2 f_c g_c ++ (P))))) Post PX := by
  obtain ⟨l, dC, dI, k, a⟩ := T
  intro sz
  refine vx_ofW (cc := b_Q_word) (maxL := 6) (ret := (some .int)) (by decide) rfl ?_
  intro p e s m args below meth c s₁ B hml hno hv
  obtain ⟨rfl, hsz, hE, hP, hK, hD0⟩ := hv
  have hts := atoms_spec (ws := (Cond.code y_Q_word b_Q_word 6 (some .int)) :: z_T) B.pre
  have htz : ∀ w ∈ z_T, w.before _ s = true := fun w h => hts w (z_cons w h)
  subst hsz
  have hD := hD0.self (sz := s.heap.size)
  generalize hAe : va_A (s_q k a f_q r_q c_q ++ (s_t k a f_t g_t ++ (s_r k a r_r ++ (s_c k a f_c g_c ++ (P))))) s.heap.size = A at hD hE ⊢
  have hA : ∀ q : Nat, s.heap.size ≤ q → A q := fun q h => by rw [← hAe]; exact Or.inr h
  have hl := lv_entry ([.ref (a 24), .int x1, .int x2, .int x3]) (n := 6) (Nat.le_of_ble_eq_true rfl)
  rw [lg_entry_eq]
  generalize (lg_sl ([.ref (a 24), .int x1, .int x2, .int x3]) ++ List.replicate (6 - (lg_sl ([.ref (a 24), .int x1, .int x2, .int x3])).length) Slot.unset).toArray = ls at hl ⊢
  exact h ((l, dC, dI, k, a), p, e, s, m, ([.ref (a 24), .int x1, .int x2, .int x3] : List Value).toArray, below, meth, c, A) rfl ⟨⟨B.exec, B.bytes, B.returns, htz, findClass_of_methodNamed B.named, B.notSynchronized, hml, hE, hK, hA⟩, hno, hlt⟩ s.heap [] ls hl hP hD va_S.rf
def zc_Q_read (C : CT) (Post : Int32 → va_W → Prop) (PX : String → va_W → Prop) (MM : Nat) (SS : Nat) (c0 s0 pc : Nat) (loc : List (Nat × Value)) (st : List Value) (ws : va_W) : Prop := zW C (z_rm 8 (MM + 4) (SS + 138)) 2 (yI C (MM + 4) (SS + 138) Post PX) c0 s0 pc loc st ws
set_option maxHeartbeats 1000000 in
set_option maxRecDepth 100000 in
theorem k_Q_read_0 {C : CT} (X : cX C "QuestionText" b_Q_read 2 (some .int)) (Post : Int32 → va_W → Prop) (PX : String → va_W → Prop) {P_4 : va_W → Prop} (f_q : FT) (r_q : Nat → Nat → Option Nat) (c_q : Nat) (f_t : FT) (g_t : GT) (r_r : Nat → Nat → Option Nat) (f_c : FT) (g_c : GT) (P : va_W) (qa : Nat) (ka : Nat) (es : Int32) (e1 : Int64) (e2 : Int64) (e3 : Int64) (qn : Nat) (kn : Nat) (es2 : Int32) (e4 : Int64) (e5 : Int64) (e6 : Int64) (fqn : Nat → Option Nat) (fkn : Nat → Option Nat) (MM : Nat) (SS : Nat) (c0 s0 : Nat)
    (b_4 : c0 ≤ MM + 4 ∧ s0 ≤ SS + 138)
    (m_4 : uV C.1 y_Ca_clear (Cond.code y_Ca_clear b_Ca_clear 1 none) 1 0 0 [.ref (ad C.1 26)] (s_c C.1.2.2.2.1 C.1.2.2.2.2 f_c g_c) P_4)
    (k_4 : ∀ (u : va_W), P_4 u → zc_Q_read C Post PX MM SS c0 s0 7 [(0, .ref (ad C.1 24))] [] (s_q C.1.2.2.2.1 C.1.2.2.2.2 f_q r_q c_q ++ (s_t C.1.2.2.2.1 C.1.2.2.2.2 f_t g_t ++ (s_r C.1.2.2.2.1 C.1.2.2.2.2 r_r)) ++ (u ++ (P)))) : zc_Q_read C Post PX MM SS c0 s0 0 [(0, .ref (ad C.1 24))] [] (s_q C.1.2.2.2.1 C.1.2.2.2.2 f_q r_q c_q ++ (s_t C.1.2.2.2.1 C.1.2.2.2.2 f_t g_t ++ (s_r C.1.2.2.2.1 C.1.2.2.2.2 r_r ++ (s_c C.1.2.2.2.1 C.1.2.2.2.2 f_c g_c ++ (P))))) := by
  obtain ⟨⟨l, dC, dI, k, a⟩, p, e, s, m, args, below, meth, c, A⟩ := C
  obtain ⟨⟨hx, hb, hr, htz, hown, hlocks, hml, hE, hK, hA⟩, hno, hlt⟩ := X
  intro H locs ls hl hP hD hS
  have hl : lv_has ls 2 [(0, .ref (a 24))] := hl
  have hP : va_P (dC, dI) classes (s_q k a f_q r_q c_q ++ (s_t k a f_t g_t ++ (s_r k a r_r ++ (s_c k a f_c g_c ++ (P))))) H := hP
  have hD : va_D A (s_q k a f_q r_q c_q ++ (s_t k a f_t g_t ++ (s_r k a r_r ++ (s_c k a f_c g_c ++ (P))))) := hD
  show W p l e (z_rm 8 (MM + 4) (SS + 138)) s m args below meth c H locs c0 s0 _ (F0 m 0 ls [])
  refine lv_aload_n hx hb d_Q_read_0 rfl (lv_at hl 0 rfl) ?_
  refine va_get (D := (dC, dI)) (ci := 0) (v := .ref (a 26)) (C := R_Q) (T := F_Q) (N := 6) hx hb htz i_Q hown hK hP 0 rfl rfl 2 (by decide) (htz _ kf_Q_25) (fun _ h9 => h9) rfl d_Q_read_1 ?_
  have hPf : va_P (dC, dI) classes ((s_q k a f_q r_q c_q ++ (s_t k a f_t g_t ++ (s_r k a r_r))) ++ ((s_c k a f_c g_c) ++ (P))) H := zpP (by (try simp only [List.append_assoc]); exact List.Perm.refl _) hP
  have hDf : va_D A ((s_q k a f_q r_q c_q ++ (s_t k a f_t g_t ++ (s_r k a r_r))) ++ ((s_c k a f_c g_c) ++ (P))) := zpD (by (try simp only [List.append_assoc]); exact List.Perm.refl _) hD
  have hFc := zfree hDf hS hA
  refine va_callv (va_runV (As := []) (rest := []) ⟨hx, hb, hml, hown, htz⟩ (m_4 H.size) (cwV 0 htz (z_gV (fun _ h => h) km_Q_60 in_Ca_clear se_Ca_clear ini_Ca m_Ca_clear) rfl rfl rfl (by decide +kernel) ⟨(Nat.le_of_ble_eq_true rfl), (Nat.le_of_ble_eq_true rfl)⟩) ⟨z_blind, va_recv hK hP (ci := 2) (q0 := 6) rfl rfl, fun U hU hW => ⟨rfl, by rw [hU], hE.call hS hFc hU hW, by rw [hU]; exact (zPc hPf), va_K.moved hW.alike hK, (zDc hDf)⟩⟩ rfl rfl hl.1 rfl (lv_room (Nat.le_of_ble_eq_true rfl)) d_Q_read_4 b_4) hS (fun q _ h => hFc q h) hFc (fun u t H1 locs ht hvm hw hB hz1 hk1 hS => ?_)
  obtain ⟨hP1, hK1, hD1⟩ := hB
  rw [ht] at hP1
  obtain ⟨hP, hD⟩ := zf hPf hDf hk1 hFc hP1 hD1
  exact k_4 _ hw H1 locs ls (lv_sub hl [0] rfl) hP hD hS
set_option maxHeartbeats 1000000 in
set_option maxRecDepth 100000 in
theorem k_Q_read_7 {C : CT} (X : cX C "QuestionText" b_Q_read 2 (some .int)) (Post : Int32 → va_W → Prop) (PX : String → va_W → Prop) {P_12 : Int32 → va_W → Prop} (f_q : FT) (r_q : Nat → Nat → Option Nat) (c_q : Nat) (f_t : FT) (g_t : GT) (r_r : Nat → Nat → Option Nat) (f_c : FT) (g_c : GT) (P : va_W) (qa : Nat) (ka : Nat) (es : Int32) (e1 : Int64) (e2 : Int64) (e3 : Int64) (qn : Nat) (kn : Nat) (es2 : Int32) (e4 : Int64) (e5 : Int64) (e6 : Int64) (fqn : Nat → Option Nat) (fkn : Nat → Option Nat) (MM : Nat) (SS : Nat) (c0 s0 : Nat)
    (b_12 : c0 + MM ≤ MM + 4 ∧ s0 + SS ≤ SS + 138)
    (m_12 : uI C.1 y_TR_readTape (Cond.codeWith y_TR_readTape b_TR_readTape 3 (some .int) [(11, 60, 63, 55)]) 7 MM SS [.ref (ad C.1 20)] (s_t C.1.2.2.2.1 C.1.2.2.2.2 f_t g_t ++ (s_r C.1.2.2.2.1 C.1.2.2.2.2 r_r ++ (P))) P_12)
    (k_12 : ∀ (r : Int32) (u : va_W), P_12 r u → zc_Q_read C Post PX MM SS (c0 + MM) (s0 + SS) 15 [(0, .ref (ad C.1 24))] [.int r, .ref (ad C.1 24)] (s_q C.1.2.2.2.1 C.1.2.2.2.2 f_q r_q c_q ++ (s_c C.1.2.2.2.1 C.1.2.2.2.2 f_c g_c) ++ (u))) : zc_Q_read C Post PX MM SS c0 s0 7 [(0, .ref (ad C.1 24))] [] (s_q C.1.2.2.2.1 C.1.2.2.2.2 f_q r_q c_q ++ (s_t C.1.2.2.2.1 C.1.2.2.2.2 f_t g_t ++ (s_r C.1.2.2.2.1 C.1.2.2.2.2 r_r ++ (s_c C.1.2.2.2.1 C.1.2.2.2.2 f_c g_c ++ (P))))) := by
  obtain ⟨⟨l, dC, dI, k, a⟩, p, e, s, m, args, below, meth, c, A⟩ := C
  obtain ⟨⟨hx, hb, hr, htz, hown, hlocks, hml, hE, hK, hA⟩, hno, hlt⟩ := X
  intro H locs ls hl hP hD hS
  have hl : lv_has ls 2 [(0, .ref (a 24))] := hl
  have hP : va_P (dC, dI) classes (s_q k a f_q r_q c_q ++ (s_t k a f_t g_t ++ (s_r k a r_r ++ (s_c k a f_c g_c ++ (P))))) H := hP
  have hD : va_D A (s_q k a f_q r_q c_q ++ (s_t k a f_t g_t ++ (s_r k a r_r ++ (s_c k a f_c g_c ++ (P))))) := hD
  show W p l e (z_rm 8 (MM + 4) (SS + 138)) s m args below meth c H locs c0 s0 _ (F0 m 7 ls [])
  refine lv_aload_n hx hb d_Q_read_7 rfl (lv_at hl 0 rfl) ?_
  refine lv_aload_n hx hb d_Q_read_8 rfl (lv_at hl 0 rfl) ?_
  refine va_get (D := (dC, dI)) (ci := 0) (v := .ref (a 20)) (C := R_Q) (T := F_Q) (N := 6) hx hb htz i_Q hown hK hP 0 rfl rfl 0 (by decide) (htz _ kf_Q_10) (fun _ h9 => h9) rfl d_Q_read_9 ?_
  have hPf : va_P (dC, dI) classes ((s_q k a f_q r_q c_q ++ (s_c k a f_c g_c)) ++ ((s_t k a f_t g_t ++ (s_r k a r_r ++ (P))) ++ ([]))) H := by rw [List.append_nil]; exact zpP (by have h := zp4 (s_q k a f_q r_q c_q) (s_t k a f_t g_t ++ (s_r k a r_r)) (s_c k a f_c g_c) (P); (try simp only [List.append_assoc] at h); (try simp only [List.append_assoc]); exact h) hP
  have hDf : va_D A ((s_q k a f_q r_q c_q ++ (s_c k a f_c g_c)) ++ ((s_t k a f_t g_t ++ (s_r k a r_r ++ (P))) ++ ([]))) := by rw [List.append_nil]; exact zpD (by have h := zp4 (s_q k a f_q r_q c_q) (s_t k a f_t g_t ++ (s_r k a r_r)) (s_c k a f_c g_c) (P); (try simp only [List.append_assoc] at h); (try simp only [List.append_assoc]); exact h) hD
  have hFc := zfree hDf hS hA
  refine va_calli (vx_runVW (As := []) (rest := [.ref (a 24)]) ⟨hx, hb, hml, hown, htz⟩ (m_12 H.size) (vx_cwVW 0 htz (z_gV (fun _ h => h) km_Q_63 in_TR_readTape se_TR_readTape ini_TR m_TR_readTape) rfl rfl rfl (by decide +kernel) ⟨(Nat.le_of_ble_eq_true rfl), (Nat.le_of_ble_eq_true rfl)⟩) ⟨z_blind, va_recv hK hP (ci := 1) (q0 := 2) rfl rfl, fun U hU hW => ⟨rfl, by rw [hU], hE.call hS hFc hU hW, by rw [hU]; exact (zPc hPf), va_K.moved hW.alike hK, (zDc hDf)⟩⟩ rfl rfl hl.1 rfl (lv_room (Nat.le_of_ble_eq_true rfl)) d_Q_read_12 b_12) hS (fun q _ h => hFc q h) hFc (fun r u t H1 locs ht hvm hw hB hz1 hk1 hS => ?_)
  obtain ⟨hP1, hK1, hD1⟩ := hB
  rw [ht] at hP1
  obtain ⟨hP, hD⟩ := zf hPf hDf hk1 hFc hP1 hD1
  rw [List.append_nil] at hP hD
  exact k_12 r _ hw H1 locs ls (lv_sub hl [0] rfl) hP hD hS
set_option maxHeartbeats 1000000 in
set_option maxRecDepth 100000 in
theorem k_Q_read_15 {C : CT} (X : cX C "QuestionText" b_Q_read 2 (some .int)) (Post : Int32 → va_W → Prop) (PX : String → va_W → Prop) {P_59 : Nat → va_W → Prop} (y0 : Int32) (f_q : FT) (r_q : Nat → Nat → Option Nat) (c_q : Nat) (f_t : FT) (g_t : GT) (r_r : Nat → Nat → Option Nat) (f_c : FT) (g_c : GT) (P : va_W) (qa : Nat) (ka : Nat) (es : Int32) (e1 : Int64) (e2 : Int64) (e3 : Int64) (qn : Nat) (kn : Nat) (es2 : Int32) (e4 : Int64) (e5 : Int64) (e6 : Int64) (fqn : Nat → Option Nat) (fkn : Nat → Option Nat) (MM : Nat) (SS : Nat) (c0 s0 : Nat)
    (b_55 : (y0 = (-1)) → (f_q 0 < 8) → c0 + 1 ≤ MM + 4 ∧ s0 + 6 ≤ SS + 138)
    (b_59 : (y0 = (-1)) → (f_q 0 < 8) → ∀ w55 : Nat, c0 + 1 + 2 ≤ MM + 4 ∧ s0 + 6 + 71 ≤ SS + 138)
    (m_59 : (y0 = (-1)) → (f_q 0 < 8) → ∀ w55 : Nat, uV C.1 y_Ed_init (Cond.code y_Ed_init b_Ed_init 1 none) 0 2 71 [.ref w55] ([(w55, .inr (3, [.null, .null, .int 0, .long 0, .long 0, .long 0]))]) (P_59 w55))
    (k_59 : (y0 = (-1)) → (f_q 0 < 8) → ∀ w55 : Nat, ∀ (u : va_W), (P_59 w55) u → zc_Q_read C Post PX MM SS (c0 + 1 + 2) (s0 + 6 + 71) 62 [(0, .ref (ad C.1 24))] [.ref w55] (u ++ (s_q C.1.2.2.2.1 C.1.2.2.2.2 (va_up f_q 1 y0) r_q c_q ++ (s_t C.1.2.2.2.1 C.1.2.2.2.2 f_t g_t ++ (s_r C.1.2.2.2.1 C.1.2.2.2.2 r_r ++ (s_c C.1.2.2.2.1 C.1.2.2.2.2 f_c g_c ++ (P)))))))
    (b_45 : (y0 = (-1)) → (¬ f_q 0 < 8) → c0 + 1 ≤ MM + 4 ∧ s0 + 6 ≤ SS + 138)
    (t_45 : (y0 = (-1)) → (¬ f_q 0 < 8) → PX "java/lang/IllegalStateException" (s_q C.1.2.2.2.1 C.1.2.2.2.2 (va_up f_q 1 y0) r_q c_q ++ (s_t C.1.2.2.2.1 C.1.2.2.2.2 f_t g_t ++ (s_r C.1.2.2.2.1 C.1.2.2.2.2 r_r ++ (s_c C.1.2.2.2.1 C.1.2.2.2.2 f_c g_c ++ (P))))))
    (b_26 : (¬ y0 = (-1)) → c0 + 1 ≤ MM + 4 ∧ s0 + 6 ≤ SS + 138)
    (t_26 : (¬ y0 = (-1)) → PX "java/lang/IllegalArgumentException" (s_q C.1.2.2.2.1 C.1.2.2.2.2 (va_up f_q 1 y0) r_q c_q ++ (s_t C.1.2.2.2.1 C.1.2.2.2.2 f_t g_t ++ (s_r C.1.2.2.2.1 C.1.2.2.2.2 r_r ++ (s_c C.1.2.2.2.1 C.1.2.2.2.2 f_c g_c ++ (P)))))) : zc_Q_read C Post PX MM SS c0 s0 15 [(0, .ref (ad C.1 24))] [.int y0, .ref (ad C.1 24)] (s_q C.1.2.2.2.1 C.1.2.2.2.2 f_q r_q c_q ++ (s_t C.1.2.2.2.1 C.1.2.2.2.2 f_t g_t ++ (s_r C.1.2.2.2.1 C.1.2.2.2.2 r_r ++ (s_c C.1.2.2.2.1 C.1.2.2.2.2 f_c g_c ++ (P))))) := by
  obtain ⟨⟨l, dC, dI, k, a⟩, p, e, s, m, args, below, meth, c, A⟩ := C
  obtain ⟨⟨hx, hb, hr, htz, hown, hlocks, hml, hE, hK, hA⟩, hno, hlt⟩ := X
  intro H locs ls hl hP hD hS
  have hl : lv_has ls 2 [(0, .ref (a 24))] := hl
  have hP : va_P (dC, dI) classes (s_q k a f_q r_q c_q ++ (s_t k a f_t g_t ++ (s_r k a r_r ++ (s_c k a f_c g_c ++ (P))))) H := hP
  have hD : va_D A (s_q k a f_q r_q c_q ++ (s_t k a f_t g_t ++ (s_r k a r_r ++ (s_c k a f_c g_c ++ (P))))) := hD
  show W p l e (z_rm 8 (MM + 4) (SS + 138)) s m args below meth c H locs c0 s0 _ (F0 m 15 ls [.int y0, .ref (a 24)])
  refine va_put (D := (dC, dI)) (ci := 0) (v := .int y0) (ty := .int) (C := R_Q) (T := F_Q) (N := 6) hx hb htz i_Q t_Q o_Q n_Q hown hK hP hD hS 0 rfl rfl 5 (by decide) (htz _ kf_Q_38) (fun _ h9 => h9) rfl (by decide +kernel) rfl rfl (Nat.le_of_ble_eq_true rfl) d_Q_read_15 (fun H locs hP hD hS => ?_)
  have hP : va_P (dC, dI) classes (s_q k a (va_up f_q 1 y0) r_q c_q ++ (s_t k a f_t g_t ++ (s_r k a r_r ++ (s_c k a f_c g_c ++ (P))))) H := hP
  have hD : va_D A (s_q k a (va_up f_q 1 y0) r_q c_q ++ (s_t k a f_t g_t ++ (s_r k a r_r ++ (s_c k a f_c g_c ++ (P))))) := hD
  refine lv_aload_n hx hb d_Q_read_18 rfl (lv_at hl 0 rfl) ?_
  refine va_get (D := (dC, dI)) (ci := 0) (v := .int y0) (C := R_Q) (T := F_Q) (N := 6) hx hb htz i_Q hown hK hP 0 rfl rfl 5 (by decide) (htz _ kf_Q_38) (fun _ h9 => h9) rfl d_Q_read_19 ?_
  refine lv_iconst (v := -1) hx hb d_Q_read_22 (by decide) ?_
  refine lv_icmp_eq (tgt := 36) hx hb d_Q_read_23 (by decide) (fun c_23 => ?_) (fun c_23 => ?_)
  · refine lv_aload_n hx hb d_Q_read_36 rfl (lv_at hl 0 rfl) ?_
    refine va_get (D := (dC, dI)) (ci := 0) (v := .int (f_q 0)) (C := R_Q) (T := F_Q) (N := 6) hx hb htz i_Q hown hK hP 0 rfl rfl 4 (by decide) (htz _ kf_Q_34) (fun _ h9 => h9) rfl d_Q_read_37 ?_
    refine lv_bipush (v := 8) hx hb d_Q_read_40 (by decide) ?_
    refine lv_icmp_lt (tgt := 55) hx hb d_Q_read_42 (by decide) (fun c_42 => ?_) (fun c_42 => ?_)
    · refine va_new (ci := 3) (fs := [.null, .null, .int 0, .long 0, .long 0, .long 0]) (C := R_Ed) (T := F_Ed) (N := 6) hx hb htz i_Ed t_Ed o_Ed hown (htz _ kc_Q_16) (htz _ mk_Ed) (htz _ ini_Ed) hK hP hD hS hA rfl (by intro j hj; match j, hj with | 0, _ => rfl | 1, _ => rfl | 2, _ => rfl | 3, _ => rfl | 4, _ => rfl | 5, _ => rfl | j + 6, h => exact absurd h (by omega)) (b_55 c_23 c_42).1 (b_55 c_23 c_42).2 d_Q_read_55 (fun w55 H hP hD hS => ?_)
      replace hP := zsP hP
      replace hD := zsD hD
      have hP : va_P (dC, dI) classes ([(w55, .inr (3, [.null, .null, .int 0, .long 0, .long 0, .long 0]))] ++ (s_q k a (va_up f_q 1 y0) r_q c_q ++ (s_t k a f_t g_t ++ (s_r k a r_r ++ (s_c k a f_c g_c ++ (P)))))) H := hP
      have hD : va_D A ([(w55, .inr (3, [.null, .null, .int 0, .long 0, .long 0, .long 0]))] ++ (s_q k a (va_up f_q 1 y0) r_q c_q ++ (s_t k a f_t g_t ++ (s_r k a r_r ++ (s_c k a f_c g_c ++ (P)))))) := hD
      refine lv_dup hx hb d_Q_read_58 rfl ?_
      have hPf : va_P (dC, dI) classes (([]) ++ (([(w55, .inr (3, [.null, .null, .int 0, .long 0, .long 0, .long 0]))]) ++ (s_q k a (va_up f_q 1 y0) r_q c_q ++ (s_t k a f_t g_t ++ (s_r k a r_r ++ (s_c k a f_c g_c ++ (P))))))) H := hP
      have hDf : va_D A (([]) ++ (([(w55, .inr (3, [.null, .null, .int 0, .long 0, .long 0, .long 0]))]) ++ (s_q k a (va_up f_q 1 y0) r_q c_q ++ (s_t k a f_t g_t ++ (s_r k a r_r ++ (s_c k a f_c g_c ++ (P))))))) := hD
      have hFc := zfree hDf hS hA
      refine va_callv (va_runIN (As := []) (rest := [.ref w55]) ⟨hx, hb, hml, hown, htz⟩ ((m_59 c_23 c_42 w55) H.size) ⟨va_cnB 0 htz (z_gI (fun _ h => h) m_Ed_init) rfl rfl rfl (hE.2.1 _ km_Q_29) (htz _ ini_Ed) (by decide +kernel) ⟨(Nat.le_of_ble_eq_true rfl), (Nat.le_of_ble_eq_true rfl)⟩, rfl, (htz _ in_Ed_init)⟩ ⟨z_blind, fun U hU hW => ⟨rfl, by rw [hU], hE.call hS hFc hU hW, by rw [hU]; exact (zPc hPf), va_K.moved hW.alike hK, (zDc hDf)⟩⟩ rfl rfl hl.1 rfl (lv_room (Nat.le_of_ble_eq_true rfl)) d_Q_read_59 (b_59 c_23 c_42 w55)) hS (fun q _ h => hFc q h) hFc (fun u t H1 locs ht hvm hw hB hz1 hk1 hS => ?_)
      obtain ⟨hP1, hK1, hD1⟩ := hB
      rw [ht] at hP1
      obtain ⟨hP, hD⟩ := zf hPf hDf hk1 hFc hP1 hD1
      exact (k_59 c_23 c_42 w55) _ hw H1 locs ls (lv_sub hl [0] rfl) hP hD hS
    · obtain ⟨sa, hstr⟩ := hE.2.2.2.1 ("QuestionText", 69, "there are 8 editions") (by decide)
      have hB9 := z_thr (dC := dC) (dI := dI) (k := k) hP hK hD hS
      exact vx_throwS (own := "QuestionText") (cls := "java/lang/IllegalStateException") (text := "there are 8 editions") (names := ["java/lang/RuntimeException", "java/lang/Exception"]) (ik := 51) (is := 69) (ic := 55) hx hb hlt hown (by decide +kernel) (by decide +kernel) (htz _ kc_Q_51) (htz _ ini_ISE) hstr (z_hat th_Q_55 htz hE.2.1) tg_Q_51_55 hE.2.2.2.2.1 hE.2.2.2.2.2.1 hS (hl.1.trans hml.symm) d_Q_read_45 d_Q_read_48 d_Q_read_49 d_Q_read_51 d_Q_read_54 (fun x hx9 => (hno x hx9).elim) (Nat.le_of_ble_eq_true rfl) (Nat.le_of_ble_eq_true rfl) (b_45 c_23 c_42).1 (b_45 c_23 c_42).2 hlocks (fun t h1 h2 h3 => ⟨(s_q k a (va_up f_q 1 y0) r_q c_q ++ (s_t k a f_t g_t ++ (s_r k a r_r ++ (s_c k a f_c g_c ++ (P))))), trivial, ⟨(t_45 c_23 c_42), (hB9 t h1 h2 h3).1⟩, (hB9 t h1 h2 h3).2⟩) hS.2.2 (b_45 c_23 c_42).1 (b_45 c_23 c_42).2
  · obtain ⟨sa, hstr⟩ := hE.2.2.2.1 ("QuestionText", 67, "the text is wrong") (by decide)
    have hB9 := z_thr (dC := dC) (dI := dI) (k := k) hP hK hD hS
    exact vx_throwS (own := "QuestionText") (cls := "java/lang/IllegalArgumentException") (text := "the text is wrong") (names := ["java/lang/RuntimeException", "java/lang/Exception"]) (ik := 41) (is := 67) (ic := 45) hx hb hlt hown (by decide +kernel) (by decide +kernel) (htz _ kc_Q_41) (htz _ ini_IAE) hstr (z_hat th_Q_45 htz hE.2.1) tg_Q_41_45 hE.2.2.2.2.1 hE.2.2.2.2.2.1 hS (hl.1.trans hml.symm) d_Q_read_26 d_Q_read_29 d_Q_read_30 d_Q_read_32 d_Q_read_35 (fun x hx9 => (hno x hx9).elim) (Nat.le_of_ble_eq_true rfl) (Nat.le_of_ble_eq_true rfl) (b_26 c_23).1 (b_26 c_23).2 hlocks (fun t h1 h2 h3 => ⟨(s_q k a (va_up f_q 1 y0) r_q c_q ++ (s_t k a f_t g_t ++ (s_r k a r_r ++ (s_c k a f_c g_c ++ (P))))), trivial, ⟨(t_26 c_23), (hB9 t h1 h2 h3).1⟩, (hB9 t h1 h2 h3).2⟩) hS.2.2 (b_26 c_23).1 (b_26 c_23).2
set_option maxHeartbeats 1000000 in
set_option maxRecDepth 100000 in
theorem k_Q_read_62 {C : CT} (X : cX C "QuestionText" b_Q_read 2 (some .int)) (Post : Int32 → va_W → Prop) (PX : String → va_W → Prop) {P_78 : va_W → Prop} (y0 : Nat) (f_q : FT) (r_q : Nat → Nat → Option Nat) (c_q : Nat) (f_t : FT) (g_t : GT) (r_r : Nat → Nat → Option Nat) (f_c : FT) (g_c : GT) (P : va_W) (qa : Nat) (ka : Nat) (es : Int32) (e1 : Int64) (e2 : Int64) (e3 : Int64) (qn : Nat) (kn : Nat) (es2 : Int32) (e4 : Int64) (e5 : Int64) (e6 : Int64) (fqn : Nat → Option Nat) (fkn : Nat → Option Nat) (MM : Nat) (SS : Nat) (i1 : Nat) (c0 s0 : Nat) (hf : P[i1]? = some (c_q, .inr (3, [.ref qa, .ref ka, .int es, .long e1, .long e2, .long e3])))
    (b_78 : c0 ≤ MM + 4 ∧ s0 ≤ SS + 138)
    (m_78 : uV C.1 y_Ed_putRows (Cond.code y_Ed_putRows b_Ed_putRows 4 none) 0 0 0 [.ref y0, .ref qa, .ref ka] ([(y0, .inr (3, [.ref qn, .ref kn, .int es2, .long e4, .long e5, .long e6])), (qn, .inl (C.1.2.2.2.1 3, 61, .inr (.inr (.inr (.inr fqn))))), (kn, .inl (C.1.2.2.2.1 4, 10, .inr (.inr (.inr (.inr fkn)))))] ++ (s_q C.1.2.2.2.1 C.1.2.2.2.2 f_q r_q c_q ++ (s_t C.1.2.2.2.1 C.1.2.2.2.2 f_t g_t ++ (s_r C.1.2.2.2.1 C.1.2.2.2.2 r_r ++ (s_c C.1.2.2.2.1 C.1.2.2.2.2 f_c g_c ++ (P)))))) P_78)
    (k_78 : ∀ (u : va_W), P_78 u → zc_Q_read C Post PX MM SS c0 s0 81 [(0, .ref (ad C.1 24)), (1, .ref y0)] [] (u)) : zc_Q_read C Post PX MM SS c0 s0 62 [(0, .ref (ad C.1 24))] [.ref y0] ([(y0, .inr (3, [.ref qn, .ref kn, .int es2, .long e4, .long e5, .long e6])), (qn, .inl (C.1.2.2.2.1 3, 61, .inr (.inr (.inr (.inr fqn))))), (kn, .inl (C.1.2.2.2.1 4, 10, .inr (.inr (.inr (.inr fkn)))))] ++ (s_q C.1.2.2.2.1 C.1.2.2.2.2 f_q r_q c_q ++ (s_t C.1.2.2.2.1 C.1.2.2.2.2 f_t g_t ++ (s_r C.1.2.2.2.1 C.1.2.2.2.2 r_r ++ (s_c C.1.2.2.2.1 C.1.2.2.2.2 f_c g_c ++ (P)))))) := by
  obtain ⟨⟨l, dC, dI, k, a⟩, p, e, s, m, args, below, meth, c, A⟩ := C
  obtain ⟨⟨hx, hb, hr, htz, hown, hlocks, hml, hE, hK, hA⟩, hno, hlt⟩ := X
  intro H locs ls hl hP hD hS
  have hl : lv_has ls 2 [(0, .ref (a 24))] := hl
  have hP : va_P (dC, dI) classes ([(y0, .inr (3, [.ref qn, .ref kn, .int es2, .long e4, .long e5, .long e6])), (qn, .inl (k 3, 61, .inr (.inr (.inr (.inr fqn))))), (kn, .inl (k 4, 10, .inr (.inr (.inr (.inr fkn)))))] ++ (s_q k a f_q r_q c_q ++ (s_t k a f_t g_t ++ (s_r k a r_r ++ (s_c k a f_c g_c ++ (P)))))) H := hP
  have hD : va_D A ([(y0, .inr (3, [.ref qn, .ref kn, .int es2, .long e4, .long e5, .long e6])), (qn, .inl (k 3, 61, .inr (.inr (.inr (.inr fqn))))), (kn, .inl (k 4, 10, .inr (.inr (.inr (.inr fkn)))))] ++ (s_q k a f_q r_q c_q ++ (s_t k a f_t g_t ++ (s_r k a r_r ++ (s_c k a f_c g_c ++ (P)))))) := hD
  show W p l e (z_rm 8 (MM + 4) (SS + 138)) s m args below meth c H locs c0 s0 _ (F0 m 62 ls [.ref y0])
  refine lv_astore_n (lv' := [(1, .ref y0), (0, .ref (a 24))]) hx hb d_Q_read_62 rfl hl (by decide) rfl (fun ls hl => ?_)
  refine lv_aload_n hx hb d_Q_read_63 rfl (lv_at hl 0 rfl) ?_
  refine lv_aload_n hx hb d_Q_read_64 rfl (lv_at hl 1 rfl) ?_
  refine va_get (D := (dC, dI)) (ci := 0) (v := .ref c_q) (C := R_Q) (T := F_Q) (N := 6) hx hb htz i_Q hown hK hP 3 rfl rfl 3 (by decide) (htz _ kf_Q_30) (fun _ h9 => h9) rfl d_Q_read_65 ?_
  refine va_getN (D := (dC, dI)) (ci := 3) (v := .ref qa) (C := R_Ed) (T := F_Ed) (N := 6) hx hb htz i_Ed hown hK hP (i1 + 12) hf rfl 0 (by decide) (va_Nw.use rfl (hE.2.1 _ kf_Q_71)) (fun _ h9 => h9) rfl d_Q_read_68 ?_
  refine lv_aload_n hx hb d_Q_read_71 rfl (lv_at hl 1 rfl) ?_
  refine va_get (D := (dC, dI)) (ci := 0) (v := .ref c_q) (C := R_Q) (T := F_Q) (N := 6) hx hb htz i_Q hown hK hP 3 rfl rfl 3 (by decide) (htz _ kf_Q_30) (fun _ h9 => h9) rfl d_Q_read_72 ?_
  refine va_getN (D := (dC, dI)) (ci := 3) (v := .ref ka) (C := R_Ed) (T := F_Ed) (N := 6) hx hb htz i_Ed hown hK hP (i1 + 12) hf rfl 1 (by decide) (va_Nw.use rfl (hE.2.1 _ kf_Q_75)) (fun _ h9 => h9) rfl d_Q_read_75 ?_
  have hFc : ∀ q, va_A ([(y0, .inr (3, [.ref qn, .ref kn, .int es2, .long e4, .long e5, .long e6])), (qn, .inl (k 3, 61, .inr (.inr (.inr (.inr fqn))))), (kn, .inl (k 4, 10, .inr (.inr (.inr (.inr fkn)))))] ++ (s_q k a f_q r_q c_q ++ (s_t k a f_t g_t ++ (s_r k a r_r ++ (s_c k a f_c g_c ++ (P)))))) H.size q → A q := fun q h => h.elim (fun z => by obtain ⟨i9, e9, h9⟩ := z; exact hD.2 i9 _ h9) (fun z => hA q (Nat.le_trans hS.1 z))
  refine va_callv (va_runV (As := [.ref qa, .ref ka]) (rest := []) ⟨hx, hb, hml, hown, htz⟩ (m_78 H.size) (cwV 2 htz (z_gV (fun _ h => h) km_Q_79 in_Ed_putRows se_Ed_putRows ini_Ed m_Ed_putRows) rfl rfl rfl (by decide +kernel) ⟨(Nat.le_of_ble_eq_true rfl), (Nat.le_of_ble_eq_true rfl)⟩) ⟨z_blind, va_recv hK hP (ci := 3) (q0 := 0) rfl rfl, fun U hU hW => ⟨rfl, by rw [hU], hE.call hS hFc hU hW, by rw [hU]; exact hP, va_K.moved hW.alike hK, (hD.weaken (fun _ _ _ _ => trivial))⟩⟩ rfl rfl hl.1 rfl (lv_room (Nat.le_of_ble_eq_true rfl)) d_Q_read_78 b_78) hS (fun q _ h => hFc q h) hFc (fun u t H1 locs ht hvm hw hB hz1 hk1 hS => ?_)
  obtain ⟨hP1, hK1, hD1⟩ := hB
  rw [ht] at hP1
  have hP := hP1
  have hD := hD1.weaken (fun _ q _ h => hFc _ h)
  exact k_78 _ hw H1 locs ls (lv_sub hl [1, 0] rfl) hP hD hS
set_option maxHeartbeats 1000000 in
set_option maxRecDepth 100000 in
theorem k_Q_read_81 {C : CT} (X : cX C "QuestionText" b_Q_read 2 (some .int)) (Post : Int32 → va_W → Prop) (PX : String → va_W → Prop) {P_96 : va_W → Prop} (x1 : Nat) (f_q : FT) (r_q : Nat → Nat → Option Nat) (c_q : Nat) (f_t : FT) (g_t : GT) (r_r : Nat → Nat → Option Nat) (f_c : FT) (g_c : GT) (P : va_W) (qa : Nat) (ka : Nat) (es : Int32) (e1 : Int64) (e2 : Int64) (e3 : Int64) (qn : Nat) (kn : Nat) (es2 : Int32) (e4 : Int64) (e5 : Int64) (e6 : Int64) (fqn : Nat → Option Nat) (fkn : Nat → Option Nat) (MM : Nat) (SS : Nat) (c0 s0 : Nat)
    (b_96 : c0 ≤ MM + 4 ∧ s0 ≤ SS + 138)
    (m_96 : uV C.1 y_Ed_putRows (Cond.code y_Ed_putRows b_Ed_putRows 4 none) 0 0 0 [.ref x1, .ref (ad C.1 22), .ref (ad C.1 23)] ([(x1, .inr (3, [.ref qn, .ref kn, .int es2, .long e4, .long e5, .long e6])), (qn, .inl (C.1.2.2.2.1 3, 61, .inr (.inr (.inr (.inr fqn))))), (kn, .inl (C.1.2.2.2.1 4, 10, .inr (.inr (.inr (.inr fkn)))))] ++ (s_q C.1.2.2.2.1 C.1.2.2.2.2 f_q r_q c_q ++ (s_t C.1.2.2.2.1 C.1.2.2.2.2 f_t g_t ++ (s_r C.1.2.2.2.1 C.1.2.2.2.2 r_r ++ (s_c C.1.2.2.2.1 C.1.2.2.2.2 f_c g_c ++ (P)))))) P_96)
    (k_96 : ∀ (u : va_W), P_96 u → zc_Q_read C Post PX MM SS c0 s0 99 [(0, .ref (ad C.1 24)), (1, .ref x1)] [] (u)) : zc_Q_read C Post PX MM SS c0 s0 81 [(0, .ref (ad C.1 24)), (1, .ref x1)] [] ([(x1, .inr (3, [.ref qn, .ref kn, .int es2, .long e4, .long e5, .long e6])), (qn, .inl (C.1.2.2.2.1 3, 61, .inr (.inr (.inr (.inr fqn))))), (kn, .inl (C.1.2.2.2.1 4, 10, .inr (.inr (.inr (.inr fkn)))))] ++ (s_q C.1.2.2.2.1 C.1.2.2.2.2 f_q r_q c_q ++ (s_t C.1.2.2.2.1 C.1.2.2.2.2 f_t g_t ++ (s_r C.1.2.2.2.1 C.1.2.2.2.2 r_r ++ (s_c C.1.2.2.2.1 C.1.2.2.2.2 f_c g_c ++ (P)))))) := by
  obtain ⟨⟨l, dC, dI, k, a⟩, p, e, s, m, args, below, meth, c, A⟩ := C
  obtain ⟨⟨hx, hb, hr, htz, hown, hlocks, hml, hE, hK, hA⟩, hno, hlt⟩ := X
  intro H locs ls hl hP hD hS
  have hl : lv_has ls 2 [(0, .ref (a 24)), (1, .ref x1)] := hl
  have hP : va_P (dC, dI) classes ([(x1, .inr (3, [.ref qn, .ref kn, .int es2, .long e4, .long e5, .long e6])), (qn, .inl (k 3, 61, .inr (.inr (.inr (.inr fqn))))), (kn, .inl (k 4, 10, .inr (.inr (.inr (.inr fkn)))))] ++ (s_q k a f_q r_q c_q ++ (s_t k a f_t g_t ++ (s_r k a r_r ++ (s_c k a f_c g_c ++ (P)))))) H := hP
  have hD : va_D A ([(x1, .inr (3, [.ref qn, .ref kn, .int es2, .long e4, .long e5, .long e6])), (qn, .inl (k 3, 61, .inr (.inr (.inr (.inr fqn))))), (kn, .inl (k 4, 10, .inr (.inr (.inr (.inr fkn)))))] ++ (s_q k a f_q r_q c_q ++ (s_t k a f_t g_t ++ (s_r k a r_r ++ (s_c k a f_c g_c ++ (P)))))) := hD
  show W p l e (z_rm 8 (MM + 4) (SS + 138)) s m args below meth c H locs c0 s0 _ (F0 m 81 ls [])
  refine lv_aload_n hx hb d_Q_read_81 rfl (lv_at hl 1 rfl) ?_
  refine lv_aload_n hx hb d_Q_read_82 rfl (lv_at hl 0 rfl) ?_
  refine va_get (D := (dC, dI)) (ci := 0) (v := .ref (a 20)) (C := R_Q) (T := F_Q) (N := 6) hx hb htz i_Q hown hK hP 3 rfl rfl 0 (by decide) (htz _ kf_Q_10) (fun _ h9 => h9) rfl d_Q_read_83 ?_
  refine va_getN (D := (dC, dI)) (ci := 1) (v := .ref (a 22)) (C := R_TR) (T := F_TR) (N := 5) hx hb htz i_TR hown hK hP 5 rfl rfl 1 (by decide) (va_Nw.use rfl (hE.2.1 _ kf_Q_83)) (fun _ h9 => h9) rfl d_Q_read_86 ?_
  refine lv_aload_n hx hb d_Q_read_89 rfl (lv_at hl 0 rfl) ?_
  refine va_get (D := (dC, dI)) (ci := 0) (v := .ref (a 20)) (C := R_Q) (T := F_Q) (N := 6) hx hb htz i_Q hown hK hP 3 rfl rfl 0 (by decide) (htz _ kf_Q_10) (fun _ h9 => h9) rfl d_Q_read_90 ?_
  refine va_getN (D := (dC, dI)) (ci := 1) (v := .ref (a 23)) (C := R_TR) (T := F_TR) (N := 5) hx hb htz i_TR hown hK hP 5 rfl rfl 2 (by decide) (va_Nw.use rfl (hE.2.1 _ kf_Q_84)) (fun _ h9 => h9) rfl d_Q_read_93 ?_
  have hFc : ∀ q, va_A ([(x1, .inr (3, [.ref qn, .ref kn, .int es2, .long e4, .long e5, .long e6])), (qn, .inl (k 3, 61, .inr (.inr (.inr (.inr fqn))))), (kn, .inl (k 4, 10, .inr (.inr (.inr (.inr fkn)))))] ++ (s_q k a f_q r_q c_q ++ (s_t k a f_t g_t ++ (s_r k a r_r ++ (s_c k a f_c g_c ++ (P)))))) H.size q → A q := fun q h => h.elim (fun z => by obtain ⟨i9, e9, h9⟩ := z; exact hD.2 i9 _ h9) (fun z => hA q (Nat.le_trans hS.1 z))
  refine va_callv (va_runV (As := [.ref (a 22), .ref (a 23)]) (rest := []) ⟨hx, hb, hml, hown, htz⟩ (m_96 H.size) (cwV 2 htz (z_gV (fun _ h => h) km_Q_79 in_Ed_putRows se_Ed_putRows ini_Ed m_Ed_putRows) rfl rfl rfl (by decide +kernel) ⟨(Nat.le_of_ble_eq_true rfl), (Nat.le_of_ble_eq_true rfl)⟩) ⟨z_blind, va_recv hK hP (ci := 3) (q0 := 0) rfl rfl, fun U hU hW => ⟨rfl, by rw [hU], hE.call hS hFc hU hW, by rw [hU]; exact hP, va_K.moved hW.alike hK, (hD.weaken (fun _ _ _ _ => trivial))⟩⟩ rfl rfl hl.1 rfl (lv_room (Nat.le_of_ble_eq_true rfl)) d_Q_read_96 b_96) hS (fun q _ h => hFc q h) hFc (fun u t H1 locs ht hvm hw hB hz1 hk1 hS => ?_)
  obtain ⟨hP1, hK1, hD1⟩ := hB
  rw [ht] at hP1
  have hP := hP1
  have hD := hD1.weaken (fun _ q _ h => hFc _ h)
  exact k_96 _ hw H1 locs ls (lv_sub hl [0, 1] rfl) hP hD hS
set_option maxHeartbeats 1000000 in
set_option maxRecDepth 100000 in
theorem k_Q_read_99 {C : CT} (X : cX C "QuestionText" b_Q_read 2 (some .int)) (Post : Int32 → va_W → Prop) (PX : String → va_W → Prop) {P_100 : va_W → Prop} (x1 : Nat) (f_q : FT) (r_q : Nat → Nat → Option Nat) (c_q : Nat) (f_t : FT) (g_t : GT) (r_r : Nat → Nat → Option Nat) (f_c : FT) (g_c : GT) (P : va_W) (qa : Nat) (ka : Nat) (es : Int32) (e1 : Int64) (e2 : Int64) (e3 : Int64) (qn : Nat) (kn : Nat) (es2 : Int32) (e4 : Int64) (e5 : Int64) (e6 : Int64) (fqn : Nat → Option Nat) (fkn : Nat → Option Nat) (MM : Nat) (SS : Nat) (c0 s0 : Nat)
    (b_100 : c0 + 1 ≤ MM + 4 ∧ s0 + 61 ≤ SS + 138)
    (m_100 : uV C.1 y_Ed_study (Cond.code y_Ed_study b_Ed_study 6 none) 5 1 61 [.ref x1] ([(x1, .inr (3, [.ref qn, .ref kn, .int es2, .long e4, .long e5, .long e6]))] ++ (s_q C.1.2.2.2.1 C.1.2.2.2.2 f_q r_q c_q ++ (s_t C.1.2.2.2.1 C.1.2.2.2.2 f_t g_t ++ (s_r C.1.2.2.2.1 C.1.2.2.2.2 r_r ++ (s_c C.1.2.2.2.1 C.1.2.2.2.2 f_c g_c ++ (P)))))) P_100)
    (k_100 : ∀ (u : va_W), P_100 u → zc_Q_read C Post PX MM SS (c0 + 1) (s0 + 61) 103 [(0, .ref (ad C.1 24)), (1, .ref x1)] [] (u)) : zc_Q_read C Post PX MM SS c0 s0 99 [(0, .ref (ad C.1 24)), (1, .ref x1)] [] ([(x1, .inr (3, [.ref qn, .ref kn, .int es2, .long e4, .long e5, .long e6]))] ++ (s_q C.1.2.2.2.1 C.1.2.2.2.2 f_q r_q c_q ++ (s_t C.1.2.2.2.1 C.1.2.2.2.2 f_t g_t ++ (s_r C.1.2.2.2.1 C.1.2.2.2.2 r_r ++ (s_c C.1.2.2.2.1 C.1.2.2.2.2 f_c g_c ++ (P)))))) := by
  obtain ⟨⟨l, dC, dI, k, a⟩, p, e, s, m, args, below, meth, c, A⟩ := C
  obtain ⟨⟨hx, hb, hr, htz, hown, hlocks, hml, hE, hK, hA⟩, hno, hlt⟩ := X
  intro H locs ls hl hP hD hS
  have hl : lv_has ls 2 [(0, .ref (a 24)), (1, .ref x1)] := hl
  have hP : va_P (dC, dI) classes ([(x1, .inr (3, [.ref qn, .ref kn, .int es2, .long e4, .long e5, .long e6]))] ++ (s_q k a f_q r_q c_q ++ (s_t k a f_t g_t ++ (s_r k a r_r ++ (s_c k a f_c g_c ++ (P)))))) H := hP
  have hD : va_D A ([(x1, .inr (3, [.ref qn, .ref kn, .int es2, .long e4, .long e5, .long e6]))] ++ (s_q k a f_q r_q c_q ++ (s_t k a f_t g_t ++ (s_r k a r_r ++ (s_c k a f_c g_c ++ (P)))))) := hD
  show W p l e (z_rm 8 (MM + 4) (SS + 138)) s m args below meth c H locs c0 s0 _ (F0 m 99 ls [])
  refine lv_aload_n hx hb d_Q_read_99 rfl (lv_at hl 1 rfl) ?_
  have hFc : ∀ q, va_A ([(x1, .inr (3, [.ref qn, .ref kn, .int es2, .long e4, .long e5, .long e6]))] ++ (s_q k a f_q r_q c_q ++ (s_t k a f_t g_t ++ (s_r k a r_r ++ (s_c k a f_c g_c ++ (P)))))) H.size q → A q := fun q h => h.elim (fun z => by obtain ⟨i9, e9, h9⟩ := z; exact hD.2 i9 _ h9) (fun z => hA q (Nat.le_trans hS.1 z))
  refine va_callv (va_runV (As := []) (rest := []) ⟨hx, hb, hml, hown, htz⟩ (m_100 H.size) (cwV 0 htz (z_gV (fun _ h => h) km_Q_85 in_Ed_study se_Ed_study ini_Ed m_Ed_study) rfl rfl rfl (by decide +kernel) ⟨(Nat.le_of_ble_eq_true rfl), (Nat.le_of_ble_eq_true rfl)⟩) ⟨z_blind, va_recv hK hP (ci := 3) (q0 := 0) rfl rfl, fun U hU hW => ⟨rfl, by rw [hU], hE.call hS hFc hU hW, by rw [hU]; exact hP, va_K.moved hW.alike hK, (hD.weaken (fun _ _ _ _ => trivial))⟩⟩ rfl rfl hl.1 rfl (lv_room (Nat.le_of_ble_eq_true rfl)) d_Q_read_100 b_100) hS (fun q _ h => hFc q h) hFc (fun u t H1 locs ht hvm hw hB hz1 hk1 hS => ?_)
  obtain ⟨hP1, hK1, hD1⟩ := hB
  rw [ht] at hP1
  have hP := hP1
  have hD := hD1.weaken (fun _ q _ h => hFc _ h)
  exact k_100 _ hw H1 locs ls (lv_sub hl [0, 1] rfl) hP hD hS
set_option maxHeartbeats 1000000 in
set_option maxRecDepth 100000 in
theorem k_Q_read_103 {C : CT} (X : cX C "QuestionText" b_Q_read 2 (some .int)) (Post : Int32 → va_W → Prop) (PX : String → va_W → Prop) (x1 : Nat) (f_q : FT) (r_q : Nat → Nat → Option Nat) (c_q : Nat) (f_t : FT) (g_t : GT) (r_r : Nat → Nat → Option Nat) (f_c : FT) (g_c : GT) (P : va_W) (qa : Nat) (ka : Nat) (es : Int32) (e1 : Int64) (e2 : Int64) (e3 : Int64) (qn : Nat) (kn : Nat) (es2 : Int32) (e4 : Int64) (e5 : Int64) (e6 : Int64) (fqn : Nat → Option Nat) (fkn : Nat → Option Nat) (MM : Nat) (SS : Nat) (i9 : Nat) (c0 s0 : Nat) (hxx : P[i9]? = some (x1, .inr (3, [.ref qn, .ref kn, .int es2, .long e4, .long e5, .long e6])))
    (h_122 : vp_in ((f_q 0) + 1) 9)
    (b_135 : c0 ≤ MM + 4 ∧ s0 ≤ SS + 138)
    (q_135 : Post (es2) (s_q C.1.2.2.2.1 C.1.2.2.2.2 (va_up f_q 0 ((f_q 0) + 1)) (va_up r_q 0 (va_up (r_q 0) ((f_q 0) + 1 : Int32).toNatClampNeg (some x1))) x1 ++ (s_t C.1.2.2.2.1 C.1.2.2.2.2 f_t g_t ++ (s_r C.1.2.2.2.1 C.1.2.2.2.2 r_r ++ (s_c C.1.2.2.2.1 C.1.2.2.2.2 f_c g_c ++ (P)))))) : zc_Q_read C Post PX MM SS c0 s0 103 [(0, .ref (ad C.1 24)), (1, .ref x1)] [] (s_q C.1.2.2.2.1 C.1.2.2.2.2 f_q r_q c_q ++ (s_t C.1.2.2.2.1 C.1.2.2.2.2 f_t g_t ++ (s_r C.1.2.2.2.1 C.1.2.2.2.2 r_r ++ (s_c C.1.2.2.2.1 C.1.2.2.2.2 f_c g_c ++ (P))))) := by
  obtain ⟨⟨l, dC, dI, k, a⟩, p, e, s, m, args, below, meth, c, A⟩ := C
  obtain ⟨⟨hx, hb, hr, htz, hown, hlocks, hml, hE, hK, hA⟩, hno, hlt⟩ := X
  intro H locs ls hl hP hD hS
  have hl : lv_has ls 2 [(0, .ref (a 24)), (1, .ref x1)] := hl
  have hP : va_P (dC, dI) classes (s_q k a f_q r_q c_q ++ (s_t k a f_t g_t ++ (s_r k a r_r ++ (s_c k a f_c g_c ++ (P))))) H := hP
  have hD : va_D A (s_q k a f_q r_q c_q ++ (s_t k a f_t g_t ++ (s_r k a r_r ++ (s_c k a f_c g_c ++ (P))))) := hD
  show W p l e (z_rm 8 (MM + 4) (SS + 138)) s m args below meth c H locs c0 s0 _ (F0 m 103 ls [])
  refine lv_aload_n hx hb d_Q_read_103 rfl (lv_at hl 0 rfl) ?_
  refine lv_dup hx hb d_Q_read_104 rfl ?_
  refine va_get (D := (dC, dI)) (ci := 0) (v := .int (f_q 0)) (C := R_Q) (T := F_Q) (N := 6) hx hb htz i_Q hown hK hP 0 rfl rfl 4 (by decide) (htz _ kf_Q_34) (fun _ h9 => h9) rfl d_Q_read_105 ?_
  refine lv_iconst (v := 1) hx hb d_Q_read_108 (by decide) ?_
  refine lv_iadd hx hb d_Q_read_109 ?_
  refine va_put (D := (dC, dI)) (ci := 0) (v := .int ((f_q 0) + 1)) (ty := .int) (C := R_Q) (T := F_Q) (N := 6) hx hb htz i_Q t_Q o_Q n_Q hown hK hP hD hS 0 rfl rfl 4 (by decide) (htz _ kf_Q_34) (fun _ h9 => h9) rfl (by decide +kernel) rfl rfl (Nat.le_of_ble_eq_true rfl) d_Q_read_110 (fun H locs hP hD hS => ?_)
  have hP : va_P (dC, dI) classes (s_q k a (va_up f_q 0 ((f_q 0) + 1)) r_q c_q ++ (s_t k a f_t g_t ++ (s_r k a r_r ++ (s_c k a f_c g_c ++ (P))))) H := hP
  have hD : va_D A (s_q k a (va_up f_q 0 ((f_q 0) + 1)) r_q c_q ++ (s_t k a f_t g_t ++ (s_r k a r_r ++ (s_c k a f_c g_c ++ (P))))) := hD
  refine lv_aload_n hx hb d_Q_read_113 rfl (lv_at hl 0 rfl) ?_
  refine va_get (D := (dC, dI)) (ci := 0) (v := .ref (a 25)) (C := R_Q) (T := F_Q) (N := 6) hx hb htz i_Q hown hK hP 0 rfl rfl 1 (by decide) (htz _ kf_Q_18) (fun _ h9 => h9) rfl d_Q_read_114 ?_
  refine lv_aload_n hx hb d_Q_read_117 rfl (lv_at hl 0 rfl) ?_
  refine va_get (D := (dC, dI)) (ci := 0) (v := .int ((f_q 0) + 1)) (C := R_Q) (T := F_Q) (N := 6) hx hb htz i_Q hown hK hP 0 rfl rfl 4 (by decide) (htz _ kf_Q_34) (fun _ h9 => h9) rfl d_Q_read_118 ?_
  refine lv_aload_n hx hb d_Q_read_121 rfl (lv_at hl 1 rfl) ?_
  refine va_astq hx hb hK hP hD hS 1 5 (i9 + 9) 3 rfl rfl hxx rfl h_122 d_Q_read_122 (fun H locs hP hD hS => ?_)
  have hP : va_P (dC, dI) classes (s_q k a (va_up f_q 0 ((f_q 0) + 1)) (va_up r_q 0 (va_up (r_q 0) ((f_q 0) + 1 : Int32).toNatClampNeg (some x1))) c_q ++ (s_t k a f_t g_t ++ (s_r k a r_r ++ (s_c k a f_c g_c ++ (P))))) H := hP
  have hD : va_D A (s_q k a (va_up f_q 0 ((f_q 0) + 1)) (va_up r_q 0 (va_up (r_q 0) ((f_q 0) + 1 : Int32).toNatClampNeg (some x1))) c_q ++ (s_t k a f_t g_t ++ (s_r k a r_r ++ (s_c k a f_c g_c ++ (P))))) := hD
  refine lv_aload_n hx hb d_Q_read_123 rfl (lv_at hl 0 rfl) ?_
  refine lv_aload_n hx hb d_Q_read_124 rfl (lv_at hl 1 rfl) ?_
  refine va_put (D := (dC, dI)) (ci := 0) (v := .ref x1) (ty := .object "QuestionText$Edition") (C := R_Q) (T := F_Q) (N := 6) hx hb htz i_Q t_Q o_Q n_Q hown hK hP hD hS 0 rfl rfl 3 (by decide) (htz _ kf_Q_30) (fun _ h9 => h9) rfl (by decide +kernel) rfl rfl (Nat.le_of_ble_eq_true rfl) d_Q_read_125 (fun H locs hP hD hS => ?_)
  have hP : va_P (dC, dI) classes (s_q k a (va_up f_q 0 ((f_q 0) + 1)) (va_up r_q 0 (va_up (r_q 0) ((f_q 0) + 1 : Int32).toNatClampNeg (some x1))) x1 ++ (s_t k a f_t g_t ++ (s_r k a r_r ++ (s_c k a f_c g_c ++ (P))))) H := hP
  have hD : va_D A (s_q k a (va_up f_q 0 ((f_q 0) + 1)) (va_up r_q 0 (va_up (r_q 0) ((f_q 0) + 1 : Int32).toNatClampNeg (some x1))) x1 ++ (s_t k a f_t g_t ++ (s_r k a r_r ++ (s_c k a f_c g_c ++ (P))))) := hD
  refine lv_aload_n hx hb d_Q_read_128 rfl (lv_at hl 0 rfl) ?_
  refine va_get (D := (dC, dI)) (ci := 0) (v := .ref x1) (C := R_Q) (T := F_Q) (N := 6) hx hb htz i_Q hown hK hP 0 rfl rfl 3 (by decide) (htz _ kf_Q_30) (fun _ h9 => h9) rfl d_Q_read_129 ?_
  refine va_getN (D := (dC, dI)) (ci := 3) (v := .int es2) (C := R_Ed) (T := F_Ed) (N := 6) hx hb htz i_Ed hown hK hP (i9 + 9) hxx rfl 2 (by decide) (va_Nw.use rfl (hE.2.1 _ kf_Q_88)) (fun _ h9 => h9) rfl d_Q_read_132 ?_
  refine W.widen (k := MM + 4) (n := SS + 138) b_135.1 b_135.2 ?_
  refine vx_ret ?_
  exact W.iret (v := es2) hx hb hr (fun t ht hW => ⟨⟨_, (s_q k a (va_up f_q 0 ((f_q 0) + 1)) (va_up r_q 0 (va_up (r_q 0) ((f_q 0) + 1 : Int32).toNatClampNeg (some x1))) x1 ++ (s_t k a f_t g_t ++ (s_r k a r_r ++ (s_c k a f_c g_c ++ (P))))), rfl, q_135, by rw [ht]; exact hP, va_K.moved hW.alike hK, hD⟩, hS.F ht⟩) hS.2.2 d_Q_read_135
set_option maxHeartbeats 1000000 in
set_option maxRecDepth 100000 in
theorem e_Q_read (T : ST) (hlt : T.1.stackTraces = false) (Post : Int32 → va_W → Prop) (PX : String → va_W → Prop) (f_q : FT) (r_q : Nat → Nat → Option Nat) (c_q : Nat) (f_t : FT) (g_t : GT) (r_r : Nat → Nat → Option Nat) (f_c : FT) (g_c : GT) (P : va_W) (qa : Nat) (ka : Nat) (es : Int32) (e1 : Int64) (e2 : Int64) (e3 : Int64) (qn : Nat) (kn : Nat) (es2 : Int32) (e4 : Int64) (e5 : Int64) (e6 : Int64) (fqn : Nat → Option Nat) (fkn : Nat → Option Nat) (MM : Nat) (SS : Nat) (h : ∀ C : CT, C.1 = T → cX C "QuestionText" b_Q_read 2 (some .int) → zc_Q_read C Post PX MM SS 0 0 0 [(0, .ref (ad C.1 24))] [] (s_q C.1.2.2.2.1 C.1.2.2.2.2 f_q r_q c_q ++ (s_t C.1.2.2.2.1 C.1.2.2.2.2 f_t g_t ++ (s_r C.1.2.2.2.1 C.1.2.2.2.2 r_r ++ (s_c C.1.2.2.2.1 C.1.2.2.2.2 f_c g_c ++ (P)))))) : xI T y_Q_read (Cond.code y_Q_read b_Q_read 2 (some .int)) 8 (MM + 4) (SS + 138) [.ref (ad T 24)] (s_q T.2.2.2.1 T.2.2.2.2 f_q r_q c_q ++ (s_t T.2.2.2.1 T.2.2.2.2 f_t g_t ++ (s_r T.2.2.2.1 T.2.2.2.2 r_r ++ (s_c T.2.2.2.1 T.2.2.2.2 f_c g_c ++ (P))))) Post PX := by
  obtain ⟨l, dC, dI, k, a⟩ := T
  intro sz
  refine vx_ofW (cc := b_Q_read) (maxL := 2) (ret := (some .int)) (by decide) rfl ?_
  intro p e s m args below meth c s₁ B hml hno hv
  obtain ⟨rfl, hsz, hE, hP, hK, hD0⟩ := hv
  have hts := atoms_spec (ws := (Cond.code y_Q_read b_Q_read 2 (some .int)) :: z_T) B.pre
  have htz : ∀ w ∈ z_T, w.before _ s = true := fun w h => hts w (z_cons w h)
  subst hsz
  have hD := hD0.self (sz := s.heap.size)
  generalize hAe : va_A (s_q k a f_q r_q c_q ++ (s_t k a f_t g_t ++ (s_r k a r_r ++ (s_c k a f_c g_c ++ (P))))) s.heap.size = A at hD hE ⊢
  have hA : ∀ q : Nat, s.heap.size ≤ q → A q := fun q h => by rw [← hAe]; exact Or.inr h
  have hl := lv_entry ([.ref (a 24)]) (n := 2) (Nat.le_of_ble_eq_true rfl)
  rw [lg_entry_eq]
  generalize (lg_sl ([.ref (a 24)]) ++ List.replicate (2 - (lg_sl ([.ref (a 24)])).length) Slot.unset).toArray = ls at hl ⊢
  exact h ((l, dC, dI, k, a), p, e, s, m, ([.ref (a 24)] : List Value).toArray, below, meth, c, A) rfl ⟨⟨B.exec, B.bytes, B.returns, htz, findClass_of_methodNamed B.named, B.notSynchronized, hml, hE, hK, hA⟩, hno, hlt⟩ s.heap [] ls hl hP hD va_S.rf
