def zc_TR_readCondition (C : CT) (Post : Option Nat → va_W → Prop) (PX : String → va_W → Prop) (c0 s0 pc : Nat) (loc : List (Nat × Value)) (st : List Value) (ws : va_W) : Prop := zW C (z_rm 5 47 279) 3 (yR C 47 279 Post PX) c0 s0 pc loc st ws
set_option maxHeartbeats 1000000 in
set_option maxRecDepth 100000 in
theorem k_TR_readCondition_0 {C : CT} (X : cX C "QuestionText$TextReader" b_TR_readCondition 3 (some (.object "QuestionText$Condition"))) (Post : Option Nat → va_W → Prop) (PX : String → va_W → Prop) {P_4 : Nat → va_W → Prop} (f_t : FT) (g_t : GT) (P : va_W) (c0 s0 : Nat)
    (b_0 : c0 + 1 ≤ 47 ∧ s0 + 3 ≤ 279)
    (b_4 : ∀ w0 : Nat, c0 + 1 ≤ 47 ∧ s0 + 3 ≤ 279)
    (m_4 : ∀ w0 : Nat, uV C.1 y_AL_init (Cond.code y_AL_init b_AL_init 1 none) 2 0 0 [.ref w0] ([(w0, .inr (11, [.int 0, .null, .int 0]))]) (P_4 w0))
    (k_4 : ∀ w0 : Nat, ∀ (u : va_W), (P_4 w0) u → zc_TR_readCondition C Post PX (c0 + 1) (s0 + 3) 7 [(0, .ref (ad C.1 20))] [.ref w0] (u ++ (s_t C.1.2.2.2.1 C.1.2.2.2.2 f_t g_t ++ (P)))) : zc_TR_readCondition C Post PX c0 s0 0 [(0, .ref (ad C.1 20))] [] (s_t C.1.2.2.2.1 C.1.2.2.2.2 f_t g_t ++ (P)) := by
  obtain ⟨⟨l, dC, dI, k, a⟩, p, e, s, m, args, below, meth, c, A⟩ := C
  obtain ⟨⟨hx, hb, hr, htz, hown, hlocks, hml, hE, hK, hA⟩, hno, hlt⟩ := X
  intro H locs ls hl hP hD hS
  have hl : lv_has ls 3 [(0, .ref (a 20))] := hl
  have hP : va_P (dC, dI) classes (s_t k a f_t g_t ++ (P)) H := hP
  have hD : va_D A (s_t k a f_t g_t ++ (P)) := hD
  show W p l e (z_rm 5 47 279) s m args below meth c H locs c0 s0 _ (F0 m 0 ls [])
  refine va_new (ci := 11) (fs := [.int 0, .null, .int 0]) (C := R_AL) (T := F_AL) (N := 3) hx hb htz i_AL t_AL o_AL hown (htz _ kc_TR_72) (htz _ mk_AL) (htz _ ini_AL) hK hP hD hS hA rfl (by intro j hj; match j, hj with | 0, _ => rfl | 1, _ => rfl | 2, _ => rfl | j + 3, h => exact absurd h (by omega)) b_0.1 b_0.2 d_TR_readCondition_0 (fun w0 H hP hD hS => ?_)
  replace hP := zsP hP
  replace hD := zsD hD
  have hP : va_P (dC, dI) classes ([(w0, .inr (11, [.int 0, .null, .int 0]))] ++ (s_t k a f_t g_t ++ (P))) H := hP
  have hD : va_D A ([(w0, .inr (11, [.int 0, .null, .int 0]))] ++ (s_t k a f_t g_t ++ (P))) := hD
  refine lv_dup hx hb d_TR_readCondition_3 rfl ?_
  have hPf : va_P (dC, dI) classes (([]) ++ (([(w0, .inr (11, [.int 0, .null, .int 0]))]) ++ (s_t k a f_t g_t ++ (P)))) H := hP
  have hDf : va_D A (([]) ++ (([(w0, .inr (11, [.int 0, .null, .int 0]))]) ++ (s_t k a f_t g_t ++ (P)))) := hD
  have hFc := zfree hDf hS hA
  refine va_callv (va_runI (As := []) (rest := [.ref w0]) ⟨hx, hb, hml, hown, htz⟩ ((m_4 w0) H.size) (cwI 0 htz (z_gI (fun _ h => h) m_AL_init) rfl rfl rfl (htz _ ini_AL) (htz _ km_TR_74) (htz _ in_AL_init) rfl (by decide +kernel) ⟨(Nat.le_of_ble_eq_true rfl), (Nat.le_of_ble_eq_true rfl)⟩) ⟨z_blind, fun U hU hW => ⟨rfl, by rw [hU], hE.call hS hFc hU hW, by rw [hU]; exact (zPc hPf), va_K.moved hW.alike hK, (zDc hDf)⟩⟩ rfl rfl hl.1 rfl (lv_room (Nat.le_of_ble_eq_true rfl)) d_TR_readCondition_4 (b_4 w0)) hS (fun q _ h => hFc q h) hFc (fun u t H1 locs ht hvm hw hB hz1 hk1 hS => ?_)
  obtain ⟨hP1, hK1, hD1⟩ := hB
  rw [ht] at hP1
  obtain ⟨hP, hD⟩ := zf hPf hDf hk1 hFc hP1 hD1
  exact (k_4 w0) _ hw H1 locs ls (lv_sub hl [0] rfl) hP hD hS
set_option maxHeartbeats 1000000 in
set_option maxRecDepth 100000 in
theorem k_TR_readCondition_7 {C : CT} (X : cX C "QuestionText$TextReader" b_TR_readCondition 3 (some (.object "QuestionText$Condition"))) (Post : Option Nat → va_W → Prop) (PX : String → va_W → Prop) {P_10 : Option Nat → va_W → Prop} {X_10 : String → va_W → Prop} (y0 : Nat) (aw : va_W) (f_t : FT) (g_t : GT) (P : va_W) (c0 s0 : Nat)
    (b_10 : c0 + 9 ≤ 47 ∧ s0 + 51 ≤ 279)
    (m_10 : xR C.1 y_TR_readTerm (Cond.code y_TR_readTerm b_TR_readTerm 3 (some (.object "QuestionText$Term"))) 2 9 51 [.ref (ad C.1 20)] (s_t C.1.2.2.2.1 C.1.2.2.2.2 f_t g_t ++ (P)) P_10 X_10)
    (k_10 : ∀ (r : Option Nat) (u : va_W), P_10 r u → zc_TR_readCondition C Post PX (c0 + 9) (s0 + 51) 13 [(0, .ref (ad C.1 20)), (1, .ref y0)] [va_rf r, .ref y0] (aw ++ (u)))
    (x_10 : ∀ (E : String) (u : va_W), X_10 E u → PX E (aw ++ (u))) : zc_TR_readCondition C Post PX c0 s0 7 [(0, .ref (ad C.1 20))] [.ref y0] (s_t C.1.2.2.2.1 C.1.2.2.2.2 f_t g_t ++ (aw ++ (P))) := by
  obtain ⟨⟨l, dC, dI, k, a⟩, p, e, s, m, args, below, meth, c, A⟩ := C
  obtain ⟨⟨hx, hb, hr, htz, hown, hlocks, hml, hE, hK, hA⟩, hno, hlt⟩ := X
  intro H locs ls hl hP hD hS
  have hl : lv_has ls 3 [(0, .ref (a 20))] := hl
  have hP : va_P (dC, dI) classes (s_t k a f_t g_t ++ (aw ++ (P))) H := hP
  have hD : va_D A (s_t k a f_t g_t ++ (aw ++ (P))) := hD
  show W p l e (z_rm 5 47 279) s m args below meth c H locs c0 s0 _ (F0 m 7 ls [.ref y0])
  refine lv_astore_n (lv' := [(1, .ref y0), (0, .ref (a 20))]) hx hb d_TR_readCondition_7 rfl hl (by decide) rfl (fun ls hl => ?_)
  refine lv_aload_n hx hb d_TR_readCondition_8 rfl (lv_at hl 0 rfl) ?_
  refine lv_aload_n hx hb d_TR_readCondition_9 rfl (lv_at hl 1 rfl) ?_
  have hPf : va_P (dC, dI) classes ((aw) ++ ((s_t k a f_t g_t ++ (P)) ++ ([]))) H := by rw [List.append_nil]; exact zpP (zp3 _ _ _) hP
  have hDf : va_D A ((aw) ++ ((s_t k a f_t g_t ++ (P)) ++ ([]))) := by rw [List.append_nil]; exact zpD (zp3 _ _ _) hD
  have hFc := zfree hDf hS hA
  refine vx_callq (vx_runV (As := []) (rest := [.ref y0]) ⟨hx, hb, hml, hown, htz⟩ (m_10 H.size) (cwV 0 htz (z_gV (fun _ h => h) km_TR_117 in_TR_readTerm se_TR_readTerm ini_TR m_TR_readTerm) rfl rfl rfl (by decide +kernel) ⟨(Nat.le_of_ble_eq_true rfl), (Nat.le_of_ble_eq_true rfl)⟩) ⟨z_blind, va_recv hK hP (ci := 1) (q0 := 0) rfl rfl, fun U hU hW => ⟨rfl, by rw [hU], hE.call hS hFc hU hW, by rw [hU]; exact (zPc hPf), va_K.moved hW.alike hK, (zDc hDf)⟩⟩ rfl rfl hl.1 rfl (lv_room (Nat.le_of_ble_eq_true rfl)) d_TR_readCondition_10 b_10) hS (fun q _ h => hFc q h) hFc (fun q _ h => hFc q h) (fun E ce q9 u t H1 locs ht hvm hw hB hz1 hk1 hS hce hcv hcl => ?_) (fun r u t H1 locs ht hvm hw hB hz1 hk1 hS => ?_)
  · obtain ⟨hxe, hP1, hK1, hD1⟩ := hB
    rw [ht] at hP1
    obtain ⟨hP, hD⟩ := zf hPf hDf hk1 hFc hP1 hD1
    rw [List.append_nil] at hP hD
    exact vx_out (fun x hx9 => (hno x hx9).elim) hlocks hce hcv hcl (fun t9 h9 h8 => ⟨_, trivial, ⟨x_10 E u hxe, by rw [h9]; exact hP, va_K.moved h8 hK, hD⟩, hS.F h9⟩) hS.2.2 b_10.1 b_10.2
  · obtain ⟨hP1, hK1, hD1⟩ := hB
    rw [ht] at hP1
    obtain ⟨hP, hD⟩ := zf hPf hDf hk1 hFc hP1 hD1
    rw [List.append_nil] at hP hD
    exact k_10 r _ hw H1 locs ls (lv_sub hl [1, 0] rfl) hP hD hS
set_option maxHeartbeats 1000000 in
set_option maxRecDepth 100000 in
theorem k_TR_readCondition_13 {C : CT} (X : cX C "QuestionText$TextReader" b_TR_readCondition 3 (some (.object "QuestionText$Condition"))) (Post : Option Nat → va_W → Prop) (PX : String → va_W → Prop) {P_13 : Int32 → va_W → Prop} (x1 : Nat) (y0 : Nat) (y1 : Nat) (aw : va_W) (f_t : FT) (g_t : GT) (P : va_W) (c0 s0 : Nat)
    (b_13 : c0 + 1 ≤ 47 ∧ s0 + 10 ≤ 279)
    (m_13 : uI C.1 y_AL_add (Cond.code y_AL_add b_AL_add 2 (some .boolean)) 4 1 10 [.ref y1, .ref y0] (aw ++ (P)) P_13)
    (k_13 : ∀ (r : Int32) (u : va_W), P_13 r u → zc_TR_readCondition C Post PX (c0 + 1) (s0 + 10) 18 [(0, .ref (ad C.1 20)), (1, .ref x1)] [.int r] (s_t C.1.2.2.2.1 C.1.2.2.2.2 f_t g_t ++ (u)))
    (r_13 : ∃ (i : Nat) (fs : List Value), aw[i]? = some (y1, .inr (11, fs))) : zc_TR_readCondition C Post PX c0 s0 13 [(0, .ref (ad C.1 20)), (1, .ref x1)] [.ref y0, .ref y1] (s_t C.1.2.2.2.1 C.1.2.2.2.2 f_t g_t ++ (aw ++ (P))) := by
  obtain ⟨⟨l, dC, dI, k, a⟩, p, e, s, m, args, below, meth, c, A⟩ := C
  obtain ⟨⟨hx, hb, hr, htz, hown, hlocks, hml, hE, hK, hA⟩, hno, hlt⟩ := X
  intro H locs ls hl hP hD hS
  have hl : lv_has ls 3 [(0, .ref (a 20)), (1, .ref x1)] := hl
  have hP : va_P (dC, dI) classes (s_t k a f_t g_t ++ (aw ++ (P))) H := hP
  have hD : va_D A (s_t k a f_t g_t ++ (aw ++ (P))) := hD
  show W p l e (z_rm 5 47 279) s m args below meth c H locs c0 s0 _ (F0 m 13 ls [.ref y0, .ref y1])
  have hPf : va_P (dC, dI) classes ((s_t k a f_t g_t) ++ ((aw ++ (P)) ++ ([]))) H := by rw [List.append_nil]; exact hP
  have hDf : va_D A ((s_t k a f_t g_t) ++ ((aw ++ (P)) ++ ([]))) := by rw [List.append_nil]; exact hD
  have hFc := zfree hDf hS hA
  obtain ⟨i9, fs9, h9r⟩ := r_13
  have h9a : (aw ++ (P))[i9]? = some (y1, .inr (11, fs9)) := by rw [List.getElem?_append_left (List.getElem?_eq_some_iff.mp h9r).1]; exact h9r
  refine va_callFi (va_runF (hK.1 11 _ rfl).2 (As := [.ref y0]) (rest := []) ⟨hx, hb, hml, hown, htz⟩ (m_13 H.size) (va_cwF 1 htz (z_gF (fun _ h => h) km_TR_82 sx_AL_add in_AL_add ini_AL m_AL_add) rfl rfl rfl (hE.1.1 (⟨"java/util/List", "add", "(Ljava/lang/Object;)Z"⟩, y_AL_add) (by decide +kernel)) (by decide +kernel) ⟨(Nat.le_of_ble_eq_true rfl), (Nat.le_of_ble_eq_true rfl)⟩) ⟨z_blind, va_recv hK (zPc hPf) (ci := 11) (q0 := i9) rfl h9a, fun U hU hW => ⟨rfl, by rw [hU], hE.call hS hFc hU hW, by rw [hU]; exact (zPc hPf), va_K.moved hW.alike hK, (zDc hDf)⟩⟩ rfl rfl hl.1 rfl (lv_room (Nat.le_of_ble_eq_true rfl)) d_TR_readCondition_13 b_13) hS (fun q _ h => hFc q h) hFc (fun r u t H1 locs ht hvm hw hB hz1 hk1 hS => ?_)
  obtain ⟨hP1, hK1, hD1⟩ := hB
  rw [ht] at hP1
  obtain ⟨hP, hD⟩ := zf hPf hDf hk1 hFc hP1 hD1
  rw [List.append_nil] at hP hD
  exact k_13 r _ hw H1 locs ls (lv_sub hl [0, 1] rfl) hP hD hS
set_option maxHeartbeats 1000000 in
set_option maxRecDepth 100000 in
theorem k_TR_readCondition_18 {C : CT} (X : cX C "QuestionText$TextReader" b_TR_readCondition 3 (some (.object "QuestionText$Condition"))) (Post : Option Nat → va_W → Prop) (PX : String → va_W → Prop) (x1 : Nat) (y0 : Int32) (aw : va_W) (f_t : FT) (g_t : GT) (P : va_W) (c0 s0 : Nat)
    (k_21 : zc_TR_readCondition C Post PX c0 s0 21 [(0, .ref (ad C.1 20)), (1, .ref x1), (2, .int 1)] [] (s_t C.1.2.2.2.1 C.1.2.2.2.2 f_t g_t ++ (aw ++ (P)))) : zc_TR_readCondition C Post PX c0 s0 18 [(0, .ref (ad C.1 20)), (1, .ref x1)] [.int y0] (s_t C.1.2.2.2.1 C.1.2.2.2.2 f_t g_t ++ (aw ++ (P))) := by
  obtain ⟨⟨l, dC, dI, k, a⟩, p, e, s, m, args, below, meth, c, A⟩ := C
  obtain ⟨⟨hx, hb, hr, htz, hown, hlocks, hml, hE, hK, hA⟩, hno, hlt⟩ := X
  intro H locs ls hl hP hD hS
  have hl : lv_has ls 3 [(0, .ref (a 20)), (1, .ref x1)] := hl
  have hP : va_P (dC, dI) classes (s_t k a f_t g_t ++ (aw ++ (P))) H := hP
  have hD : va_D A (s_t k a f_t g_t ++ (aw ++ (P))) := hD
  show W p l e (z_rm 5 47 279) s m args below meth c H locs c0 s0 _ (F0 m 18 ls [.int y0])
  refine lv_pop hx hb d_TR_readCondition_18 rfl ?_
  refine lv_iconst (v := 1) hx hb d_TR_readCondition_19 (by decide) ?_
  refine lv_istore_n (lv' := [(2, .int 1), (0, .ref (a 20)), (1, .ref x1)]) hx hb d_TR_readCondition_20 rfl hl (by decide) rfl (fun ls hl => ?_)
  exact k_21 H locs ls (lv_sub hl [1, 2, 0] rfl) hP hD hS
set_option maxHeartbeats 1000000 in
set_option maxRecDepth 100000 in
theorem k_TR_readCondition_21 {C : CT} (X : cX C "QuestionText$TextReader" b_TR_readCondition 3 (some (.object "QuestionText$Condition"))) (Post : Option Nat → va_W → Prop) (PX : String → va_W → Prop) {P_29 : Int32 → va_W → Prop} (x1 : Nat) (x2 : Int32) (aw : va_W) (f_t : FT) (g_t : GT) (P : va_W) (c0 s0 : Nat)
    (k_52 : (4 ≤ x2) → zc_TR_readCondition C Post PX c0 s0 52 [(0, .ref (ad C.1 20)), (1, .ref x1), (2, .int x2)] [] (s_t C.1.2.2.2.1 C.1.2.2.2.2 f_t g_t ++ (aw ++ (P))))
    (b_29 : (¬ 4 ≤ x2) → c0 ≤ 47 ∧ s0 ≤ 279)
    (m_29 : (¬ 4 ≤ x2) → uI C.1 y_TR_took (Cond.code y_TR_took b_TR_took 2 (some .boolean)) 1 0 0 [.ref (ad C.1 20), .int 38] (s_t C.1.2.2.2.1 C.1.2.2.2.2 f_t g_t) P_29)
    (k_29 : (¬ 4 ≤ x2) → ∀ (r : Int32) (u : va_W), P_29 r u → zc_TR_readCondition C Post PX c0 s0 32 [(0, .ref (ad C.1 20)), (1, .ref x1), (2, .int x2)] [.int r] (u ++ (aw ++ (P)))) : zc_TR_readCondition C Post PX c0 s0 21 [(0, .ref (ad C.1 20)), (1, .ref x1), (2, .int x2)] [] (s_t C.1.2.2.2.1 C.1.2.2.2.2 f_t g_t ++ (aw ++ (P))) := by
  obtain ⟨⟨l, dC, dI, k, a⟩, p, e, s, m, args, below, meth, c, A⟩ := C
  obtain ⟨⟨hx, hb, hr, htz, hown, hlocks, hml, hE, hK, hA⟩, hno, hlt⟩ := X
  intro H locs ls hl hP hD hS
  have hl : lv_has ls 3 [(0, .ref (a 20)), (1, .ref x1), (2, .int x2)] := hl
  have hP : va_P (dC, dI) classes (s_t k a f_t g_t ++ (aw ++ (P))) H := hP
  have hD : va_D A (s_t k a f_t g_t ++ (aw ++ (P))) := hD
  show W p l e (z_rm 5 47 279) s m args below meth c H locs c0 s0 _ (F0 m 21 ls [])
  refine lv_iload_n hx hb d_TR_readCondition_21 rfl (lv_at hl 2 rfl) ?_
  refine lv_iconst (v := 4) hx hb d_TR_readCondition_22 (by decide) ?_
  refine lv_icmp_ge (tgt := 52) hx hb d_TR_readCondition_23 (by decide) (fun c_23 => ?_) (fun c_23 => ?_)
  · exact (k_52 c_23) H locs ls (lv_sub hl [0, 1, 2] rfl) hP hD hS
  · refine lv_aload_n hx hb d_TR_readCondition_26 rfl (lv_at hl 0 rfl) ?_
    refine lv_bipush (v := 38) hx hb d_TR_readCondition_27 (by decide) ?_
    have hPf : va_P (dC, dI) classes (([]) ++ ((s_t k a f_t g_t) ++ (aw ++ (P)))) H := hP
    have hDf : va_D A (([]) ++ ((s_t k a f_t g_t) ++ (aw ++ (P)))) := hD
    have hFc := zfree hDf hS hA
    refine va_calli (va_runV (As := [.int 38]) (rest := []) ⟨hx, hb, hml, hown, htz⟩ ((m_29 c_23) H.size) (cwV 1 htz (z_gV (fun _ h => h) km_TR_41 in_TR_took se_TR_took ini_TR m_TR_took) rfl rfl rfl (by decide +kernel) ⟨(Nat.le_of_ble_eq_true rfl), (Nat.le_of_ble_eq_true rfl)⟩) ⟨z_blind, va_recv hK hP (ci := 1) (q0 := 0) rfl rfl, fun U hU hW => ⟨rfl, by rw [hU], hE.call hS hFc hU hW, by rw [hU]; exact (zPc hPf), va_K.moved hW.alike hK, (zDc hDf)⟩⟩ rfl rfl hl.1 rfl (lv_room (Nat.le_of_ble_eq_true rfl)) d_TR_readCondition_29 (b_29 c_23)) hS (fun q _ h => hFc q h) hFc (fun r u t H1 locs ht hvm hw hB hz1 hk1 hS => ?_)
    obtain ⟨hP1, hK1, hD1⟩ := hB
    rw [ht] at hP1
    obtain ⟨hP, hD⟩ := zf hPf hDf hk1 hFc hP1 hD1
    exact (k_29 c_23) r _ hw H1 locs ls (lv_sub hl [0, 1, 2] rfl) hP hD hS
set_option maxHeartbeats 1000000 in
set_option maxRecDepth 100000 in
theorem k_TR_readCondition_32 {C : CT} (X : cX C "QuestionText$TextReader" b_TR_readCondition 3 (some (.object "QuestionText$Condition"))) (Post : Option Nat → va_W → Prop) (PX : String → va_W → Prop) {P_37 : Option Nat → va_W → Prop} {X_37 : String → va_W → Prop} (x1 : Nat) (x2 : Int32) (y0 : Int32) (aw : va_W) (f_t : FT) (g_t : GT) (P : va_W) (c0 s0 : Nat)
    (k_52 : (y0 = 0) → zc_TR_readCondition C Post PX c0 s0 52 [(0, .ref (ad C.1 20)), (1, .ref x1), (2, .int x2)] [] (s_t C.1.2.2.2.1 C.1.2.2.2.2 f_t g_t ++ (aw ++ (P))))
    (b_37 : (¬ y0 = 0) → c0 + 9 ≤ 47 ∧ s0 + 51 ≤ 279)
    (m_37 : (¬ y0 = 0) → xR C.1 y_TR_readTerm (Cond.code y_TR_readTerm b_TR_readTerm 3 (some (.object "QuestionText$Term"))) 2 9 51 [.ref (ad C.1 20)] (s_t C.1.2.2.2.1 C.1.2.2.2.2 f_t g_t ++ (P)) P_37 X_37)
    (k_37 : (¬ y0 = 0) → ∀ (r : Option Nat) (u : va_W), P_37 r u → zc_TR_readCondition C Post PX (c0 + 9) (s0 + 51) 40 [(0, .ref (ad C.1 20)), (1, .ref x1), (2, .int x2)] [va_rf r, .ref x1] (aw ++ (u)))
    (x_37 : (¬ y0 = 0) → ∀ (E : String) (u : va_W), X_37 E u → PX E (aw ++ (u))) : zc_TR_readCondition C Post PX c0 s0 32 [(0, .ref (ad C.1 20)), (1, .ref x1), (2, .int x2)] [.int y0] (s_t C.1.2.2.2.1 C.1.2.2.2.2 f_t g_t ++ (aw ++ (P))) := by
  obtain ⟨⟨l, dC, dI, k, a⟩, p, e, s, m, args, below, meth, c, A⟩ := C
  obtain ⟨⟨hx, hb, hr, htz, hown, hlocks, hml, hE, hK, hA⟩, hno, hlt⟩ := X
  intro H locs ls hl hP hD hS
  have hl : lv_has ls 3 [(0, .ref (a 20)), (1, .ref x1), (2, .int x2)] := hl
  have hP : va_P (dC, dI) classes (s_t k a f_t g_t ++ (aw ++ (P))) H := hP
  have hD : va_D A (s_t k a f_t g_t ++ (aw ++ (P))) := hD
  show W p l e (z_rm 5 47 279) s m args below meth c H locs c0 s0 _ (F0 m 32 ls [.int y0])
  refine lv_if_eq (tgt := 52) hx hb d_TR_readCondition_32 (by decide) (fun c_32 => ?_) (fun c_32 => ?_)
  · exact (k_52 c_32) H locs ls (lv_sub hl [0, 1, 2] rfl) hP hD hS
  · refine lv_aload_n hx hb d_TR_readCondition_35 rfl (lv_at hl 1 rfl) ?_
    refine lv_aload_n hx hb d_TR_readCondition_36 rfl (lv_at hl 0 rfl) ?_
    have hPf : va_P (dC, dI) classes ((aw) ++ ((s_t k a f_t g_t ++ (P)) ++ ([]))) H := by rw [List.append_nil]; exact zpP (zp3 _ _ _) hP
    have hDf : va_D A ((aw) ++ ((s_t k a f_t g_t ++ (P)) ++ ([]))) := by rw [List.append_nil]; exact zpD (zp3 _ _ _) hD
    have hFc := zfree hDf hS hA
    refine vx_callq (vx_runV (As := []) (rest := [.ref x1]) ⟨hx, hb, hml, hown, htz⟩ ((m_37 c_32) H.size) (cwV 0 htz (z_gV (fun _ h => h) km_TR_117 in_TR_readTerm se_TR_readTerm ini_TR m_TR_readTerm) rfl rfl rfl (by decide +kernel) ⟨(Nat.le_of_ble_eq_true rfl), (Nat.le_of_ble_eq_true rfl)⟩) ⟨z_blind, va_recv hK hP (ci := 1) (q0 := 0) rfl rfl, fun U hU hW => ⟨rfl, by rw [hU], hE.call hS hFc hU hW, by rw [hU]; exact (zPc hPf), va_K.moved hW.alike hK, (zDc hDf)⟩⟩ rfl rfl hl.1 rfl (lv_room (Nat.le_of_ble_eq_true rfl)) d_TR_readCondition_37 (b_37 c_32)) hS (fun q _ h => hFc q h) hFc (fun q _ h => hFc q h) (fun E ce q9 u t H1 locs ht hvm hw hB hz1 hk1 hS hce hcv hcl => ?_) (fun r u t H1 locs ht hvm hw hB hz1 hk1 hS => ?_)
    · obtain ⟨hxe, hP1, hK1, hD1⟩ := hB
      rw [ht] at hP1
      obtain ⟨hP, hD⟩ := zf hPf hDf hk1 hFc hP1 hD1
      rw [List.append_nil] at hP hD
      exact vx_out (fun x hx9 => (hno x hx9).elim) hlocks hce hcv hcl (fun t9 h9 h8 => ⟨_, trivial, ⟨(x_37 c_32) E u hxe, by rw [h9]; exact hP, va_K.moved h8 hK, hD⟩, hS.F h9⟩) hS.2.2 (b_37 c_32).1 (b_37 c_32).2
    · obtain ⟨hP1, hK1, hD1⟩ := hB
      rw [ht] at hP1
      obtain ⟨hP, hD⟩ := zf hPf hDf hk1 hFc hP1 hD1
      rw [List.append_nil] at hP hD
      exact (k_37 c_32) r _ hw H1 locs ls (lv_sub hl [0, 1, 2] rfl) hP hD hS
set_option maxHeartbeats 1000000 in
set_option maxRecDepth 100000 in
theorem k_TR_readCondition_40 {C : CT} (X : cX C "QuestionText$TextReader" b_TR_readCondition 3 (some (.object "QuestionText$Condition"))) (Post : Option Nat → va_W → Prop) (PX : String → va_W → Prop) {P_40 : Int32 → va_W → Prop} (x1 : Nat) (x2 : Int32) (y0 : Nat) (y1 : Nat) (aw : va_W) (f_t : FT) (g_t : GT) (P : va_W) (c0 s0 : Nat)
    (b_40 : c0 + 1 ≤ 47 ∧ s0 + 10 ≤ 279)
    (m_40 : uI C.1 y_AL_add (Cond.code y_AL_add b_AL_add 2 (some .boolean)) 4 1 10 [.ref y1, .ref y0] (aw ++ (P)) P_40)
    (k_40 : ∀ (r : Int32) (u : va_W), P_40 r u → zc_TR_readCondition C Post PX (c0 + 1) (s0 + 10) 45 [(0, .ref (ad C.1 20)), (1, .ref x1), (2, .int x2)] [.int r] (s_t C.1.2.2.2.1 C.1.2.2.2.2 f_t g_t ++ (u)))
    (r_40 : ∃ (i : Nat) (fs : List Value), aw[i]? = some (y1, .inr (11, fs))) : zc_TR_readCondition C Post PX c0 s0 40 [(0, .ref (ad C.1 20)), (1, .ref x1), (2, .int x2)] [.ref y0, .ref y1] (s_t C.1.2.2.2.1 C.1.2.2.2.2 f_t g_t ++ (aw ++ (P))) := by
  obtain ⟨⟨l, dC, dI, k, a⟩, p, e, s, m, args, below, meth, c, A⟩ := C
  obtain ⟨⟨hx, hb, hr, htz, hown, hlocks, hml, hE, hK, hA⟩, hno, hlt⟩ := X
  intro H locs ls hl hP hD hS
  have hl : lv_has ls 3 [(0, .ref (a 20)), (1, .ref x1), (2, .int x2)] := hl
  have hP : va_P (dC, dI) classes (s_t k a f_t g_t ++ (aw ++ (P))) H := hP
  have hD : va_D A (s_t k a f_t g_t ++ (aw ++ (P))) := hD
  show W p l e (z_rm 5 47 279) s m args below meth c H locs c0 s0 _ (F0 m 40 ls [.ref y0, .ref y1])
  have hPf : va_P (dC, dI) classes ((s_t k a f_t g_t) ++ ((aw ++ (P)) ++ ([]))) H := by rw [List.append_nil]; exact hP
  have hDf : va_D A ((s_t k a f_t g_t) ++ ((aw ++ (P)) ++ ([]))) := by rw [List.append_nil]; exact hD
  have hFc := zfree hDf hS hA
  obtain ⟨i9, fs9, h9r⟩ := r_40
  have h9a : (aw ++ (P))[i9]? = some (y1, .inr (11, fs9)) := by rw [List.getElem?_append_left (List.getElem?_eq_some_iff.mp h9r).1]; exact h9r
  refine va_callFi (va_runF (hK.1 11 _ rfl).2 (As := [.ref y0]) (rest := []) ⟨hx, hb, hml, hown, htz⟩ (m_40 H.size) (va_cwF 1 htz (z_gF (fun _ h => h) km_TR_82 sx_AL_add in_AL_add ini_AL m_AL_add) rfl rfl rfl (hE.1.1 (⟨"java/util/List", "add", "(Ljava/lang/Object;)Z"⟩, y_AL_add) (by decide +kernel)) (by decide +kernel) ⟨(Nat.le_of_ble_eq_true rfl), (Nat.le_of_ble_eq_true rfl)⟩) ⟨z_blind, va_recv hK (zPc hPf) (ci := 11) (q0 := i9) rfl h9a, fun U hU hW => ⟨rfl, by rw [hU], hE.call hS hFc hU hW, by rw [hU]; exact (zPc hPf), va_K.moved hW.alike hK, (zDc hDf)⟩⟩ rfl rfl hl.1 rfl (lv_room (Nat.le_of_ble_eq_true rfl)) d_TR_readCondition_40 b_40) hS (fun q _ h => hFc q h) hFc (fun r u t H1 locs ht hvm hw hB hz1 hk1 hS => ?_)
  obtain ⟨hP1, hK1, hD1⟩ := hB
  rw [ht] at hP1
  obtain ⟨hP, hD⟩ := zf hPf hDf hk1 hFc hP1 hD1
  rw [List.append_nil] at hP hD
  exact k_40 r _ hw H1 locs ls (lv_sub hl [0, 1, 2] rfl) hP hD hS
set_option maxHeartbeats 1000000 in
set_option maxRecDepth 100000 in
theorem k_TR_readCondition_45 {C : CT} (X : cX C "QuestionText$TextReader" b_TR_readCondition 3 (some (.object "QuestionText$Condition"))) (Post : Option Nat → va_W → Prop) (PX : String → va_W → Prop) (x1 : Nat) (x2 : Int32) (y0 : Int32) (aw : va_W) (f_t : FT) (g_t : GT) (P : va_W) (c0 s0 : Nat)
    (k_21 : zc_TR_readCondition C Post PX c0 s0 21 [(0, .ref (ad C.1 20)), (1, .ref x1), (2, .int (x2 + 1))] [] (s_t C.1.2.2.2.1 C.1.2.2.2.2 f_t g_t ++ (aw ++ (P)))) : zc_TR_readCondition C Post PX c0 s0 45 [(0, .ref (ad C.1 20)), (1, .ref x1), (2, .int x2)] [.int y0] (s_t C.1.2.2.2.1 C.1.2.2.2.2 f_t g_t ++ (aw ++ (P))) := by
  obtain ⟨⟨l, dC, dI, k, a⟩, p, e, s, m, args, below, meth, c, A⟩ := C
  obtain ⟨⟨hx, hb, hr, htz, hown, hlocks, hml, hE, hK, hA⟩, hno, hlt⟩ := X
  intro H locs ls hl hP hD hS
  have hl : lv_has ls 3 [(0, .ref (a 20)), (1, .ref x1), (2, .int x2)] := hl
  have hP : va_P (dC, dI) classes (s_t k a f_t g_t ++ (aw ++ (P))) H := hP
  have hD : va_D A (s_t k a f_t g_t ++ (aw ++ (P))) := hD
  show W p l e (z_rm 5 47 279) s m args below meth c H locs c0 s0 _ (F0 m 45 ls [.int y0])
  refine lv_pop hx hb d_TR_readCondition_45 rfl ?_
  refine lv_iinc (v := x2 + 1) (lv' := [(2, .int (x2 + 1)), (0, .ref (a 20)), (1, .ref x1)]) hx hb d_TR_readCondition_46 hl (k := 2) rfl (rfl) (by decide) rfl (fun ls hl => ?_)
  refine lv_goto (tgt := 21) hx hb d_TR_readCondition_49 (by decide) ?_
  exact k_21 H locs ls (lv_sub hl [1, 2, 0] rfl) hP hD hS
set_option maxHeartbeats 1000000 in
set_option maxRecDepth 100000 in
theorem k_TR_readCondition_52 {C : CT} (X : cX C "QuestionText$TextReader" b_TR_readCondition 3 (some (.object "QuestionText$Condition"))) (Post : Option Nat → va_W → Prop) (PX : String → va_W → Prop) {P_55 : va_W → Prop} {X_55 : String → va_W → Prop} (x1 : Nat) (x2 : Int32) (aw : va_W) (f_t : FT) (g_t : GT) (P : va_W) (c0 s0 : Nat)
    (b_55 : c0 + 1 ≤ 47 ∧ s0 + 6 ≤ 279)
    (m_55 : xV C.1 y_TR_take (Cond.code y_TR_take b_TR_take 2 none) 1 1 6 [.ref (ad C.1 20), .int 58] (s_t C.1.2.2.2.1 C.1.2.2.2.2 f_t g_t) P_55 X_55)
    (k_55 : ∀ (u : va_W), P_55 u → zc_TR_readCondition C Post PX (c0 + 1) (s0 + 6) 58 [(0, .ref (ad C.1 20)), (1, .ref x1), (2, .int x2)] [] (u ++ (aw ++ (P))))
    (x_55 : ∀ (E : String) (u : va_W), X_55 E u → PX E (u ++ (aw ++ (P)))) : zc_TR_readCondition C Post PX c0 s0 52 [(0, .ref (ad C.1 20)), (1, .ref x1), (2, .int x2)] [] (s_t C.1.2.2.2.1 C.1.2.2.2.2 f_t g_t ++ (aw ++ (P))) := by
  obtain ⟨⟨l, dC, dI, k, a⟩, p, e, s, m, args, below, meth, c, A⟩ := C
  obtain ⟨⟨hx, hb, hr, htz, hown, hlocks, hml, hE, hK, hA⟩, hno, hlt⟩ := X
  intro H locs ls hl hP hD hS
  have hl : lv_has ls 3 [(0, .ref (a 20)), (1, .ref x1), (2, .int x2)] := hl
  have hP : va_P (dC, dI) classes (s_t k a f_t g_t ++ (aw ++ (P))) H := hP
  have hD : va_D A (s_t k a f_t g_t ++ (aw ++ (P))) := hD
  show W p l e (z_rm 5 47 279) s m args below meth c H locs c0 s0 _ (F0 m 52 ls [])
  refine lv_aload_n hx hb d_TR_readCondition_52 rfl (lv_at hl 0 rfl) ?_
  refine lv_bipush (v := 58) hx hb d_TR_readCondition_53 (by decide) ?_
  have hPf : va_P (dC, dI) classes (([]) ++ ((s_t k a f_t g_t) ++ (aw ++ (P)))) H := hP
  have hDf : va_D A (([]) ++ ((s_t k a f_t g_t) ++ (aw ++ (P)))) := hD
  have hFc := zfree hDf hS hA
  refine vx_callv (vx_runV (As := [.int 58]) (rest := []) ⟨hx, hb, hml, hown, htz⟩ (m_55 H.size) (cwV 1 htz (z_gV (fun _ h => h) km_TR_48 in_TR_take se_TR_take ini_TR m_TR_take) rfl rfl rfl (by decide +kernel) ⟨(Nat.le_of_ble_eq_true rfl), (Nat.le_of_ble_eq_true rfl)⟩) ⟨z_blind, va_recv hK hP (ci := 1) (q0 := 0) rfl rfl, fun U hU hW => ⟨rfl, by rw [hU], hE.call hS hFc hU hW, by rw [hU]; exact (zPc hPf), va_K.moved hW.alike hK, (zDc hDf)⟩⟩ rfl rfl hl.1 rfl (lv_room (Nat.le_of_ble_eq_true rfl)) d_TR_readCondition_55 b_55) hS (fun q _ h => hFc q h) hFc (fun q _ h => hFc q h) (fun E ce q9 u t H1 locs ht hvm hw hB hz1 hk1 hS hce hcv hcl => ?_) (fun u t H1 locs ht hvm hw hB hz1 hk1 hS => ?_)
  · obtain ⟨hxe, hP1, hK1, hD1⟩ := hB
    rw [ht] at hP1
    obtain ⟨hP, hD⟩ := zf hPf hDf hk1 hFc hP1 hD1
    exact vx_out (fun x hx9 => (hno x hx9).elim) hlocks hce hcv hcl (fun t9 h9 h8 => ⟨_, trivial, ⟨x_55 E u hxe, by rw [h9]; exact hP, va_K.moved h8 hK, hD⟩, hS.F h9⟩) hS.2.2 b_55.1 b_55.2
  · obtain ⟨hP1, hK1, hD1⟩ := hB
    rw [ht] at hP1
    obtain ⟨hP, hD⟩ := zf hPf hDf hk1 hFc hP1 hD1
    exact k_55 _ hw H1 locs ls (lv_sub hl [0, 1, 2] rfl) hP hD hS
set_option maxHeartbeats 1000000 in
set_option maxRecDepth 100000 in
theorem k_TR_readCondition_58 {C : CT} (X : cX C "QuestionText$TextReader" b_TR_readCondition 3 (some (.object "QuestionText$Condition"))) (Post : Option Nat → va_W → Prop) (PX : String → va_W → Prop) {P_62 : Int32 → va_W → Prop} {X_62 : String → va_W → Prop} (x1 : Nat) (x2 : Int32) (aw : va_W) (f_t : FT) (g_t : GT) (P : va_W) (c0 s0 : Nat)
    (b_62 : c0 + 3 ≤ 47 ∧ s0 + 18 ≤ 279)
    (m_62 : xI C.1 y_TR_readNumber (Cond.code y_TR_readNumber b_TR_readNumber 6 (some .int)) 1 3 18 [.ref (ad C.1 20), .int 0, .int 9] (s_t C.1.2.2.2.1 C.1.2.2.2.2 f_t g_t) P_62 X_62)
    (k_62 : ∀ (r : Int32) (u : va_W), P_62 r u → zc_TR_readCondition C Post PX (c0 + 3) (s0 + 18) 65 [(0, .ref (ad C.1 20)), (1, .ref x1), (2, .int x2)] [.int r] (u ++ (aw ++ (P))))
    (x_62 : ∀ (E : String) (u : va_W), X_62 E u → PX E (u ++ (aw ++ (P)))) : zc_TR_readCondition C Post PX c0 s0 58 [(0, .ref (ad C.1 20)), (1, .ref x1), (2, .int x2)] [] (s_t C.1.2.2.2.1 C.1.2.2.2.2 f_t g_t ++ (aw ++ (P))) := by
  obtain ⟨⟨l, dC, dI, k, a⟩, p, e, s, m, args, below, meth, c, A⟩ := C
  obtain ⟨⟨hx, hb, hr, htz, hown, hlocks, hml, hE, hK, hA⟩, hno, hlt⟩ := X
  intro H locs ls hl hP hD hS
  have hl : lv_has ls 3 [(0, .ref (a 20)), (1, .ref x1), (2, .int x2)] := hl
  have hP : va_P (dC, dI) classes (s_t k a f_t g_t ++ (aw ++ (P))) H := hP
  have hD : va_D A (s_t k a f_t g_t ++ (aw ++ (P))) := hD
  show W p l e (z_rm 5 47 279) s m args below meth c H locs c0 s0 _ (F0 m 58 ls [])
  refine lv_aload_n hx hb d_TR_readCondition_58 rfl (lv_at hl 0 rfl) ?_
  refine lv_iconst (v := 0) hx hb d_TR_readCondition_59 (by decide) ?_
  refine lv_bipush (v := 9) hx hb d_TR_readCondition_60 (by decide) ?_
  have hPf : va_P (dC, dI) classes (([]) ++ ((s_t k a f_t g_t) ++ (aw ++ (P)))) H := hP
  have hDf : va_D A (([]) ++ ((s_t k a f_t g_t) ++ (aw ++ (P)))) := hD
  have hFc := zfree hDf hS hA
  refine vx_calli (vx_runV (As := [.int 0, .int 9]) (rest := []) ⟨hx, hb, hml, hown, htz⟩ (m_62 H.size) (cwV 2 htz (z_gV (fun _ h => h) km_TR_57 in_TR_readNumber se_TR_readNumber ini_TR m_TR_readNumber) rfl rfl rfl (by decide +kernel) ⟨(Nat.le_of_ble_eq_true rfl), (Nat.le_of_ble_eq_true rfl)⟩) ⟨z_blind, va_recv hK hP (ci := 1) (q0 := 0) rfl rfl, fun U hU hW => ⟨rfl, by rw [hU], hE.call hS hFc hU hW, by rw [hU]; exact (zPc hPf), va_K.moved hW.alike hK, (zDc hDf)⟩⟩ rfl rfl hl.1 rfl (lv_room (Nat.le_of_ble_eq_true rfl)) d_TR_readCondition_62 b_62) hS (fun q _ h => hFc q h) hFc (fun q _ h => hFc q h) (fun E ce q9 u t H1 locs ht hvm hw hB hz1 hk1 hS hce hcv hcl => ?_) (fun r u t H1 locs ht hvm hw hB hz1 hk1 hS => ?_)
  · obtain ⟨hxe, hP1, hK1, hD1⟩ := hB
    rw [ht] at hP1
    obtain ⟨hP, hD⟩ := zf hPf hDf hk1 hFc hP1 hD1
    exact vx_out (fun x hx9 => (hno x hx9).elim) hlocks hce hcv hcl (fun t9 h9 h8 => ⟨_, trivial, ⟨x_62 E u hxe, by rw [h9]; exact hP, va_K.moved h8 hK, hD⟩, hS.F h9⟩) hS.2.2 b_62.1 b_62.2
  · obtain ⟨hP1, hK1, hD1⟩ := hB
    rw [ht] at hP1
    obtain ⟨hP, hD⟩ := zf hPf hDf hk1 hFc hP1 hD1
    exact k_62 r _ hw H1 locs ls (lv_sub hl [0, 1, 2] rfl) hP hD hS
set_option maxHeartbeats 1000000 in
set_option maxRecDepth 100000 in
theorem k_TR_readCondition_65 {C : CT} (X : cX C "QuestionText$TextReader" b_TR_readCondition 3 (some (.object "QuestionText$Condition"))) (Post : Option Nat → va_W → Prop) (PX : String → va_W → Prop) {P_69 : va_W → Prop} {X_69 : String → va_W → Prop} (x1 : Nat) (x2 : Int32) (y0 : Int32) (aw : va_W) (f_t : FT) (g_t : GT) (P : va_W) (c0 s0 : Nat)
    (b_69 : c0 + 1 ≤ 47 ∧ s0 + 6 ≤ 279)
    (m_69 : xV C.1 y_TR_take (Cond.code y_TR_take b_TR_take 2 none) 1 1 6 [.ref (ad C.1 20), .int 41] (s_t C.1.2.2.2.1 C.1.2.2.2.2 f_t g_t) P_69 X_69)
    (k_69 : ∀ (u : va_W), P_69 u → zc_TR_readCondition C Post PX (c0 + 1) (s0 + 6) 72 [(0, .ref (ad C.1 20)), (1, .ref x1), (2, .int y0)] [] (u ++ (aw ++ (P))))
    (x_69 : ∀ (E : String) (u : va_W), X_69 E u → PX E (u ++ (aw ++ (P)))) : zc_TR_readCondition C Post PX c0 s0 65 [(0, .ref (ad C.1 20)), (1, .ref x1), (2, .int x2)] [.int y0] (s_t C.1.2.2.2.1 C.1.2.2.2.2 f_t g_t ++ (aw ++ (P))) := by
  obtain ⟨⟨l, dC, dI, k, a⟩, p, e, s, m, args, below, meth, c, A⟩ := C
  obtain ⟨⟨hx, hb, hr, htz, hown, hlocks, hml, hE, hK, hA⟩, hno, hlt⟩ := X
  intro H locs ls hl hP hD hS
  have hl : lv_has ls 3 [(0, .ref (a 20)), (1, .ref x1), (2, .int x2)] := hl
  have hP : va_P (dC, dI) classes (s_t k a f_t g_t ++ (aw ++ (P))) H := hP
  have hD : va_D A (s_t k a f_t g_t ++ (aw ++ (P))) := hD
  show W p l e (z_rm 5 47 279) s m args below meth c H locs c0 s0 _ (F0 m 65 ls [.int y0])
  refine lv_istore_n (lv' := [(2, .int y0), (0, .ref (a 20)), (1, .ref x1)]) hx hb d_TR_readCondition_65 rfl hl (by decide) rfl (fun ls hl => ?_)
  refine lv_aload_n hx hb d_TR_readCondition_66 rfl (lv_at hl 1 rfl) ?_
  refine lv_bipush (v := 41) hx hb d_TR_readCondition_67 (by decide) ?_
  have hPf : va_P (dC, dI) classes (([]) ++ ((s_t k a f_t g_t) ++ (aw ++ (P)))) H := hP
  have hDf : va_D A (([]) ++ ((s_t k a f_t g_t) ++ (aw ++ (P)))) := hD
  have hFc := zfree hDf hS hA
  refine vx_callv (vx_runV (As := [.int 41]) (rest := []) ⟨hx, hb, hml, hown, htz⟩ (m_69 H.size) (cwV 1 htz (z_gV (fun _ h => h) km_TR_48 in_TR_take se_TR_take ini_TR m_TR_take) rfl rfl rfl (by decide +kernel) ⟨(Nat.le_of_ble_eq_true rfl), (Nat.le_of_ble_eq_true rfl)⟩) ⟨z_blind, va_recv hK hP (ci := 1) (q0 := 0) rfl rfl, fun U hU hW => ⟨rfl, by rw [hU], hE.call hS hFc hU hW, by rw [hU]; exact (zPc hPf), va_K.moved hW.alike hK, (zDc hDf)⟩⟩ rfl rfl hl.1 rfl (lv_room (Nat.le_of_ble_eq_true rfl)) d_TR_readCondition_69 b_69) hS (fun q _ h => hFc q h) hFc (fun q _ h => hFc q h) (fun E ce q9 u t H1 locs ht hvm hw hB hz1 hk1 hS hce hcv hcl => ?_) (fun u t H1 locs ht hvm hw hB hz1 hk1 hS => ?_)
  · obtain ⟨hxe, hP1, hK1, hD1⟩ := hB
    rw [ht] at hP1
    obtain ⟨hP, hD⟩ := zf hPf hDf hk1 hFc hP1 hD1
    exact vx_out (fun x hx9 => (hno x hx9).elim) hlocks hce hcv hcl (fun t9 h9 h8 => ⟨_, trivial, ⟨x_69 E u hxe, by rw [h9]; exact hP, va_K.moved h8 hK, hD⟩, hS.F h9⟩) hS.2.2 b_69.1 b_69.2
  · obtain ⟨hP1, hK1, hD1⟩ := hB
    rw [ht] at hP1
    obtain ⟨hP, hD⟩ := zf hPf hDf hk1 hFc hP1 hD1
    exact k_69 _ hw H1 locs ls (lv_sub hl [1, 2, 0] rfl) hP hD hS
set_option maxHeartbeats 1000000 in
set_option maxRecDepth 100000 in
theorem k_TR_readCondition_72 {C : CT} (X : cX C "QuestionText$TextReader" b_TR_readCondition 3 (some (.object "QuestionText$Condition"))) (Post : Option Nat → va_W → Prop) (PX : String → va_W → Prop) {P_78 : Nat → va_W → Prop} (x1 : Nat) (x2 : Int32) (aw : va_W) (f_t : FT) (g_t : GT) (P : va_W) (c0 s0 : Nat)
    (b_72 : c0 + 1 ≤ 47 ∧ s0 + 2 ≤ 279)
    (b_78 : ∀ w72 : Nat, c0 + 1 ≤ 47 ∧ s0 + 2 ≤ 279)
    (m_78 : ∀ w72 : Nat, uV C.1 y_Co_init (Cond.code y_Co_init b_Co_init 3 none) 0 0 0 [.ref w72, .ref x1, .int x2] ([(w72, .inr (10, [.null, .int 0]))]) (P_78 w72))
    (k_78 : ∀ w72 : Nat, ∀ (u : va_W), (P_78 w72) u → zc_TR_readCondition C Post PX (c0 + 1) (s0 + 2) 81 [(0, .ref (ad C.1 20)), (1, .ref x1), (2, .int x2)] [.ref w72] (u ++ (s_t C.1.2.2.2.1 C.1.2.2.2.2 f_t g_t ++ (aw ++ (P))))) : zc_TR_readCondition C Post PX c0 s0 72 [(0, .ref (ad C.1 20)), (1, .ref x1), (2, .int x2)] [] (s_t C.1.2.2.2.1 C.1.2.2.2.2 f_t g_t ++ (aw ++ (P))) := by
  obtain ⟨⟨l, dC, dI, k, a⟩, p, e, s, m, args, below, meth, c, A⟩ := C
  obtain ⟨⟨hx, hb, hr, htz, hown, hlocks, hml, hE, hK, hA⟩, hno, hlt⟩ := X
  intro H locs ls hl hP hD hS
  have hl : lv_has ls 3 [(0, .ref (a 20)), (1, .ref x1), (2, .int x2)] := hl
  have hP : va_P (dC, dI) classes (s_t k a f_t g_t ++ (aw ++ (P))) H := hP
  have hD : va_D A (s_t k a f_t g_t ++ (aw ++ (P))) := hD
  show W p l e (z_rm 5 47 279) s m args below meth c H locs c0 s0 _ (F0 m 72 ls [])
  refine va_new (ci := 10) (fs := [.null, .int 0]) (C := R_Co) (T := F_Co) (N := 2) hx hb htz i_Co t_Co o_Co hown (htz _ kc_TR_121) (htz _ mk_Co) (htz _ ini_Co) hK hP hD hS hA rfl (by intro j hj; match j, hj with | 0, _ => rfl | 1, _ => rfl | j + 2, h => exact absurd h (by omega)) b_72.1 b_72.2 d_TR_readCondition_72 (fun w72 H hP hD hS => ?_)
  replace hP := zsP hP
  replace hD := zsD hD
  have hP : va_P (dC, dI) classes ([(w72, .inr (10, [.null, .int 0]))] ++ (s_t k a f_t g_t ++ (aw ++ (P)))) H := hP
  have hD : va_D A ([(w72, .inr (10, [.null, .int 0]))] ++ (s_t k a f_t g_t ++ (aw ++ (P)))) := hD
  refine lv_dup hx hb d_TR_readCondition_75 rfl ?_
  refine lv_aload_n hx hb d_TR_readCondition_76 rfl (lv_at hl 1 rfl) ?_
  refine lv_iload_n hx hb d_TR_readCondition_77 rfl (lv_at hl 2 rfl) ?_
  have hPf : va_P (dC, dI) classes (([]) ++ (([(w72, .inr (10, [.null, .int 0]))]) ++ (s_t k a f_t g_t ++ (aw ++ (P))))) H := hP
  have hDf : va_D A (([]) ++ (([(w72, .inr (10, [.null, .int 0]))]) ++ (s_t k a f_t g_t ++ (aw ++ (P))))) := hD
  have hFc := zfree hDf hS hA
  refine va_callv (va_runI (As := [.ref x1, .int x2]) (rest := [.ref w72]) ⟨hx, hb, hml, hown, htz⟩ ((m_78 w72) H.size) (cwI 2 htz (z_gI (fun _ h => h) m_Co_init) rfl rfl rfl (htz _ ini_Co) (htz _ km_TR_123) (htz _ in_Co_init) rfl (by decide +kernel) ⟨(Nat.le_of_ble_eq_true rfl), (Nat.le_of_ble_eq_true rfl)⟩) ⟨z_blind, fun U hU hW => ⟨rfl, by rw [hU], hE.call hS hFc hU hW, by rw [hU]; exact (zPc hPf), va_K.moved hW.alike hK, (zDc hDf)⟩⟩ rfl rfl hl.1 rfl (lv_room (Nat.le_of_ble_eq_true rfl)) d_TR_readCondition_78 (b_78 w72)) hS (fun q _ h => hFc q h) hFc (fun u t H1 locs ht hvm hw hB hz1 hk1 hS => ?_)
  obtain ⟨hP1, hK1, hD1⟩ := hB
  rw [ht] at hP1
  obtain ⟨hP, hD⟩ := zf hPf hDf hk1 hFc hP1 hD1
  exact (k_78 w72) _ hw H1 locs ls (lv_sub hl [0, 1, 2] rfl) hP hD hS
set_option maxHeartbeats 1000000 in
set_option maxRecDepth 100000 in
theorem k_TR_readCondition_81 {C : CT} (X : cX C "QuestionText$TextReader" b_TR_readCondition 3 (some (.object "QuestionText$Condition"))) (Post : Option Nat → va_W → Prop) (PX : String → va_W → Prop) (x1 : Nat) (x2 : Int32) (y0 : Nat) (aw : va_W) (f_t : FT) (g_t : GT) (P : va_W) (c0 s0 : Nat)
    (b_81 : c0 ≤ 47 ∧ s0 ≤ 279)
    (q_81 : Post (some y0) (s_t C.1.2.2.2.1 C.1.2.2.2.2 f_t g_t ++ (aw ++ (P)))) : zc_TR_readCondition C Post PX c0 s0 81 [(0, .ref (ad C.1 20)), (1, .ref x1), (2, .int x2)] [.ref y0] (s_t C.1.2.2.2.1 C.1.2.2.2.2 f_t g_t ++ (aw ++ (P))) := by
  obtain ⟨⟨l, dC, dI, k, a⟩, p, e, s, m, args, below, meth, c, A⟩ := C
  obtain ⟨⟨hx, hb, hr, htz, hown, hlocks, hml, hE, hK, hA⟩, hno, hlt⟩ := X
  intro H locs ls hl hP hD hS
  have hl : lv_has ls 3 [(0, .ref (a 20)), (1, .ref x1), (2, .int x2)] := hl
  have hP : va_P (dC, dI) classes (s_t k a f_t g_t ++ (aw ++ (P))) H := hP
  have hD : va_D A (s_t k a f_t g_t ++ (aw ++ (P))) := hD
  show W p l e (z_rm 5 47 279) s m args below meth c H locs c0 s0 _ (F0 m 81 ls [.ref y0])
  refine W.widen (k := 47) (n := 279) b_81.1 b_81.2 ?_
  refine vx_ret ?_
  exact W.aret (v := .ref y0) hx hb hr (Or.inl ⟨_, rfl⟩) (Or.inr ⟨_, rfl⟩) (fun t ht hW => ⟨⟨(some y0), (s_t k a f_t g_t ++ (aw ++ (P))), rfl, q_81, by rw [ht]; exact hP, va_K.moved hW.alike hK, hD⟩, hS.F ht⟩) hS.2.2 d_TR_readCondition_81
set_option maxHeartbeats 1000000 in
set_option maxRecDepth 100000 in
theorem e_TR_readCondition (T : ST) (hlt : T.1.stackTraces = false) (Post : Option Nat → va_W → Prop) (PX : String → va_W → Prop) (f_t : FT) (g_t : GT) (P : va_W) (h : ∀ C : CT, C.1 = T → cX C "QuestionText$TextReader" b_TR_readCondition 3 (some (.object "QuestionText$Condition")) → zc_TR_readCondition C Post PX 0 0 0 [(0, .ref (ad C.1 20))] [] (s_t C.1.2.2.2.1 C.1.2.2.2.2 f_t g_t ++ (P))) : xR T y_TR_readCondition (Cond.code y_TR_readCondition b_TR_readCondition 3 (some (.object "QuestionText$Condition"))) 5 47 279 [.ref (ad T 20)] (s_t T.2.2.2.1 T.2.2.2.2 f_t g_t ++ (P)) Post PX := by
  obtain ⟨l, dC, dI, k, a⟩ := T
  intro sz
  refine vx_ofW (cc := b_TR_readCondition) (maxL := 3) (ret := (some (.object "QuestionText$Condition"))) (by decide) rfl ?_
  intro p e s m args below meth c s₁ B hml hno hv
  obtain ⟨rfl, hsz, hE, hP, hK, hD0⟩ := hv
  have hts := atoms_spec (ws := (Cond.code y_TR_readCondition b_TR_readCondition 3 (some (.object "QuestionText$Condition"))) :: z_T) B.pre
  have htz : ∀ w ∈ z_T, w.before _ s = true := fun w h => hts w (z_cons w h)
  subst hsz
  have hD := hD0.self (sz := s.heap.size)
  generalize hAe : va_A (s_t k a f_t g_t ++ (P)) s.heap.size = A at hD hE ⊢
  have hA : ∀ q : Nat, s.heap.size ≤ q → A q := fun q h => by rw [← hAe]; exact Or.inr h
  have hl := lv_entry ([.ref (a 20)]) (n := 3) (Nat.le_of_ble_eq_true rfl)
  rw [lg_entry_eq]
  generalize (lg_sl ([.ref (a 20)]) ++ List.replicate (3 - (lg_sl ([.ref (a 20)])).length) Slot.unset).toArray = ls at hl ⊢
  exact h ((l, dC, dI, k, a), p, e, s, m, ([.ref (a 20)] : List Value).toArray, below, meth, c, A) rfl ⟨⟨B.exec, B.bytes, B.returns, htz, findClass_of_methodNamed B.named, B.notSynchronized, hml, hE, hK, hA⟩, hno, hlt⟩ s.heap [] ls hl hP hD va_S.rf
