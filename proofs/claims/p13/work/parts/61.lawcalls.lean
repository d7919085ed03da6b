def zc_La_sign (C : CT) (Post : Int32 → va_W → Prop) (c0 s0 pc : Nat) (loc : List (Nat × Value)) (st : List Value) (ws : va_W) : Prop := zW C (z_rm 2 1 6) 6 (oI C 1 6 Post) c0 s0 pc loc st ws
set_option maxHeartbeats 1000000 in
set_option maxRecDepth 100000 in
theorem k_La_sign_0 {C : CT} (X : cT C "QuestionTextLaw" b_La_sign 6 (some .int) [⟨0, 11, 14, 13⟩, ⟨0, 11, 18, 15⟩]) (Post : Int32 → va_W → Prop) {P_6 : Int32 → va_W → Prop} {X_6 : String → va_W → Prop} (x1 : Int64) (x3 : Int32) (f_q : FT) (r_q : Nat → Nat → Option Nat) (c_q : Nat) (f_t : FT) (g_t : GT) (r_r : Nat → Nat → Option Nat) (f_c : FT) (g_c : GT) (P : va_W) (ou : Nat) (of : Nat → Int64) (c0 s0 : Nat)
    (b_6 : c0 + 1 ≤ 1 ∧ s0 + 6 ≤ 6)
    (m_6 : xI C.1 y_Q_sign (Cond.code y_Q_sign b_Q_sign 5 (some .int)) 1 1 6 [.ref (ad C.1 24), .long x1, .int x3] (s_q C.1.2.2.2.1 C.1.2.2.2.2 f_q r_q c_q ++ (s_t C.1.2.2.2.1 C.1.2.2.2.2 f_t g_t ++ (s_r C.1.2.2.2.1 C.1.2.2.2.2 r_r ++ (s_c C.1.2.2.2.1 C.1.2.2.2.2 f_c g_c ++ (P))))) P_6 X_6)
    (k_6 : ∀ (r : Int32) (u : va_W), P_6 r u → zc_La_sign C Post (c0 + 1) (s0 + 6) 9 [(0, .ref (ad C.1 24)), (1, .long x1), (3, .int x3), (4, .ref ou)] [.int r, .int 0, .ref ou] ([(ou, .inl (C.1.2.2.2.1 1, 1, .inr (.inl of)))] ++ (u)))
    (x_6 : ∀ (E : String) (u : va_W), X_6 E u → (E = "java/lang/IllegalArgumentException" ∧ ∀ q9 : Nat, zc_La_sign C Post (c0 + 1) (s0 + 6) 14 [(0, .ref (ad C.1 24)), (1, .long x1), (3, .int x3), (4, .ref ou)] [.ref q9] ([(ou, .inl (C.1.2.2.2.1 1, 1, .inr (.inl of)))] ++ (u))) ∨ (E = "java/lang/IllegalStateException" ∧ ∀ q9 : Nat, zc_La_sign C Post (c0 + 1) (s0 + 6) 18 [(0, .ref (ad C.1 24)), (1, .long x1), (3, .int x3), (4, .ref ou)] [.ref q9] ([(ou, .inl (C.1.2.2.2.1 1, 1, .inr (.inl of)))] ++ (u)))) : zc_La_sign C Post c0 s0 0 [(0, .ref (ad C.1 24)), (1, .long x1), (3, .int x3), (4, .ref ou)] [] ([(ou, .inl (C.1.2.2.2.1 1, 1, .inr (.inl of)))] ++ (s_q C.1.2.2.2.1 C.1.2.2.2.2 f_q r_q c_q ++ (s_t C.1.2.2.2.1 C.1.2.2.2.2 f_t g_t ++ (s_r C.1.2.2.2.1 C.1.2.2.2.2 r_r ++ (s_c C.1.2.2.2.1 C.1.2.2.2.2 f_c g_c ++ (P)))))) := by
  obtain ⟨⟨l, dC, dI, k, a⟩, p, e, s, m, args, below, meth, c, A⟩ := C
  obtain ⟨⟨hx, hb, hr, htz, hown, hlocks, hml, hE, hK, hA⟩, hTab, hlt⟩ := X
  intro H locs ls hl hP hD hS
  have hl : lv_has ls 6 [(0, .ref (a 24)), (1, .long x1), (3, .int x3), (4, .ref ou)] := hl
  have hP : va_P (dC, dI) classes ([(ou, .inl (k 1, 1, .inr (.inl of)))] ++ (s_q k a f_q r_q c_q ++ (s_t k a f_t g_t ++ (s_r k a r_r ++ (s_c k a f_c g_c ++ (P)))))) H := hP
  have hD : va_D A ([(ou, .inl (k 1, 1, .inr (.inl of)))] ++ (s_q k a f_q r_q c_q ++ (s_t k a f_t g_t ++ (s_r k a r_r ++ (s_c k a f_c g_c ++ (P)))))) := hD
  show W p l e (z_rm 2 1 6) s m args below meth c H locs c0 s0 _ (F0 m 0 ls [])
  refine lv_aload hx hb d_La_sign_0 (lv_at hl 3 rfl) ?_
  refine lv_iconst (v := 0) hx hb d_La_sign_2 (by decide) ?_
  refine lv_aload_n hx hb d_La_sign_3 rfl (lv_at hl 0 rfl) ?_
  refine lv_lload_n hx hb d_La_sign_4 rfl (lv_at hl 1 rfl) ?_
  refine lv_iload_n hx hb d_La_sign_5 rfl (lv_at hl 2 rfl) ?_
  have hPf : va_P (dC, dI) classes (([(ou, .inl (k 1, 1, .inr (.inl of)))]) ++ ((s_q k a f_q r_q c_q ++ (s_t k a f_t g_t ++ (s_r k a r_r ++ (s_c k a f_c g_c ++ (P))))) ++ ([]))) H := by rw [List.append_nil]; exact hP
  have hDf : va_D A (([(ou, .inl (k 1, 1, .inr (.inl of)))]) ++ ((s_q k a f_q r_q c_q ++ (s_t k a f_t g_t ++ (s_r k a r_r ++ (s_c k a f_c g_c ++ (P))))) ++ ([]))) := by rw [List.append_nil]; exact hD
  have hFc := zfree hDf hS hA
  refine vx_calli (vx_runV (As := [.long x1, .int x3]) (rest := [.int 0, .ref ou]) ⟨hx, hb, hml, hown, htz⟩ (m_6 H.size) (cwV 2 htz (z_gV (fun _ h => h) km_La_7 in_Q_sign se_Q_sign ini_Q m_Q_sign) rfl rfl rfl (by decide +kernel) ⟨(Nat.le_of_ble_eq_true rfl), (Nat.le_of_ble_eq_true rfl)⟩) ⟨z_blind, va_recv hK hP (ci := 0) (q0 := 1) rfl rfl, fun U hU hW => ⟨rfl, by rw [hU], hE.call hS hFc hU hW, by rw [hU]; exact (zPc hPf), va_K.moved hW.alike hK, (zDc hDf)⟩⟩ rfl rfl hl.1 rfl (lv_room (Nat.le_of_ble_eq_true rfl)) d_La_sign_6 b_6) hS (fun q _ h => hFc q h) hFc (fun q _ h => hFc q h) (fun E ce q9 u t H1 locs ht hvm hw hB hz1 hk1 hS hce hcv hcl => ?_) (fun r u t H1 locs ht hvm hw hB hz1 hk1 hS => ?_)
  · obtain ⟨hxe, hP1, hK1, hD1⟩ := hB
    rw [ht] at hP1
    obtain ⟨hP, hD⟩ := zf hPf hDf hk1 hFc hP1 hD1
    rw [List.append_nil] at hP hD
    rcases x_6 E u hxe with ⟨rfl, hz9⟩ | ⟨rfl, hz9⟩
    · refine vx_catch hown [] ⟨0, 11, 14, 13⟩ [⟨0, 11, 18, 15⟩] hTab (fun z hz => nomatch hz) (by decide) (by decide) (htz _ kc_La_13) (va_Nw.use rfl (hE.2.1 _ ca_IAE)) hce hcv hcl ?_
      exact hz9 q9 H1 locs ls (lv_sub hl [0, 1, 2, 3] rfl) hP hD hS
    · refine vx_catch hown [⟨0, 11, 14, 13⟩] ⟨0, 11, 18, 15⟩ [] hTab (fun z hz => by rw [List.mem_singleton.mp hz]; exact Or.inr ⟨by decide, _, htz _ kc_La_13, hE.2.2.2.2.2.2⟩) (by decide) (by decide) (htz _ kc_La_15) (va_Nw.use rfl (hE.2.1 _ ca_ISE)) hce hcv hcl ?_
      exact hz9 q9 H1 locs ls (lv_sub hl [0, 1, 2, 3] rfl) hP hD hS
  · obtain ⟨hP1, hK1, hD1⟩ := hB
    rw [ht] at hP1
    obtain ⟨hP, hD⟩ := zf hPf hDf hk1 hFc hP1 hD1
    rw [List.append_nil] at hP hD
    exact k_6 r _ hw H1 locs ls (lv_sub hl [0, 1, 2, 3] rfl) hP hD hS
set_option maxHeartbeats 1000000 in
set_option maxRecDepth 100000 in
theorem k_La_sign_9 {C : CT} (X : cT C "QuestionTextLaw" b_La_sign 6 (some .int) [⟨0, 11, 14, 13⟩, ⟨0, 11, 18, 15⟩]) (Post : Int32 → va_W → Prop) (x1 : Int64) (x3 : Int32) (y0 : Int32) (y1 : Int32) (f_q : FT) (r_q : Nat → Nat → Option Nat) (c_q : Nat) (f_t : FT) (g_t : GT) (r_r : Nat → Nat → Option Nat) (f_c : FT) (g_c : GT) (P : va_W) (ou : Nat) (of : Nat → Int64) (c0 s0 : Nat)
    (h_10 : vp_in (y1) 1)
    (b_23 : c0 ≤ 1 ∧ s0 ≤ 6)
    (q_23 : Post (0) ([(ou, .inl (C.1.2.2.2.1 1, 1, .inr (.inl (vp_updL of (y1 : Int32).toNatClampNeg y0.toInt64))))] ++ (s_q C.1.2.2.2.1 C.1.2.2.2.2 f_q r_q c_q ++ (s_t C.1.2.2.2.1 C.1.2.2.2.2 f_t g_t ++ (s_r C.1.2.2.2.1 C.1.2.2.2.2 r_r ++ (s_c C.1.2.2.2.1 C.1.2.2.2.2 f_c g_c ++ (P))))))) : zc_La_sign C Post c0 s0 9 [(0, .ref (ad C.1 24)), (1, .long x1), (3, .int x3), (4, .ref ou)] [.int y0, .int y1, .ref ou] ([(ou, .inl (C.1.2.2.2.1 1, 1, .inr (.inl of)))] ++ (s_q C.1.2.2.2.1 C.1.2.2.2.2 f_q r_q c_q ++ (s_t C.1.2.2.2.1 C.1.2.2.2.2 f_t g_t ++ (s_r C.1.2.2.2.1 C.1.2.2.2.2 r_r ++ (s_c C.1.2.2.2.1 C.1.2.2.2.2 f_c g_c ++ (P)))))) := by
  obtain ⟨⟨l, dC, dI, k, a⟩, p, e, s, m, args, below, meth, c, A⟩ := C
  obtain ⟨⟨hx, hb, hr, htz, hown, hlocks, hml, hE, hK, hA⟩, hTab, hlt⟩ := X
  intro H locs ls hl hP hD hS
  have hl : lv_has ls 6 [(0, .ref (a 24)), (1, .long x1), (3, .int x3), (4, .ref ou)] := hl
  have hP : va_P (dC, dI) classes ([(ou, .inl (k 1, 1, .inr (.inl of)))] ++ (s_q k a f_q r_q c_q ++ (s_t k a f_t g_t ++ (s_r k a r_r ++ (s_c k a f_c g_c ++ (P)))))) H := hP
  have hD : va_D A ([(ou, .inl (k 1, 1, .inr (.inl of)))] ++ (s_q k a f_q r_q c_q ++ (s_t k a f_t g_t ++ (s_r k a r_r ++ (s_c k a f_c g_c ++ (P)))))) := hD
  show W p l e (z_rm 2 1 6) s m args below meth c H locs c0 s0 _ (F0 m 9 ls [.int y0, .int y1, .ref ou])
  refine lv_i2l (v := y0.toInt64) hx hb d_La_sign_9 rfl ?_
  refine va_last hx hb hK hP hD hS 0 1 rfl rfl h_10 d_La_sign_10 (fun H locs hP hD hS => ?_)
  have hP : va_P (dC, dI) classes ([(ou, .inl (k 1, 1, .inr (.inl (vp_updL of (y1 : Int32).toNatClampNeg y0.toInt64))))] ++ (s_q k a f_q r_q c_q ++ (s_t k a f_t g_t ++ (s_r k a r_r ++ (s_c k a f_c g_c ++ (P)))))) H := hP
  have hD : va_D A ([(ou, .inl (k 1, 1, .inr (.inl (vp_updL of (y1 : Int32).toNatClampNeg y0.toInt64))))] ++ (s_q k a f_q r_q c_q ++ (s_t k a f_t g_t ++ (s_r k a r_r ++ (s_c k a f_c g_c ++ (P)))))) := hD
  refine lv_goto (tgt := 22) hx hb d_La_sign_11 (by decide) ?_
  refine lv_iconst (v := 0) hx hb d_La_sign_22 (by decide) ?_
  refine W.widen (k := 1) (n := 6) b_23.1 b_23.2 ?_
  exact W.iret (v := 0) hx hb hr (fun t ht hW => ⟨⟨_, ([(ou, .inl (k 1, 1, .inr (.inl (vp_updL of (y1 : Int32).toNatClampNeg y0.toInt64))))] ++ (s_q k a f_q r_q c_q ++ (s_t k a f_t g_t ++ (s_r k a r_r ++ (s_c k a f_c g_c ++ (P)))))), rfl, q_23, by rw [ht]; exact hP, va_K.moved hW.alike hK, hD⟩, hS.F ht⟩) hS.2.2 d_La_sign_23
set_option maxHeartbeats 1000000 in
set_option maxRecDepth 100000 in
theorem k_La_sign_14 {C : CT} (X : cT C "QuestionTextLaw" b_La_sign 6 (some .int) [⟨0, 11, 14, 13⟩, ⟨0, 11, 18, 15⟩]) (Post : Int32 → va_W → Prop) (x1 : Int64) (x3 : Int32) (y0 : Nat) (f_q : FT) (r_q : Nat → Nat → Option Nat) (c_q : Nat) (f_t : FT) (g_t : GT) (r_r : Nat → Nat → Option Nat) (f_c : FT) (g_c : GT) (P : va_W) (ou : Nat) (of : Nat → Int64) (c0 s0 : Nat)
    (b_17 : c0 ≤ 1 ∧ s0 ≤ 6)
    (q_17 : Post (1) ([(ou, .inl (C.1.2.2.2.1 1, 1, .inr (.inl of)))] ++ (s_q C.1.2.2.2.1 C.1.2.2.2.2 f_q r_q c_q ++ (s_t C.1.2.2.2.1 C.1.2.2.2.2 f_t g_t ++ (s_r C.1.2.2.2.1 C.1.2.2.2.2 r_r ++ (s_c C.1.2.2.2.1 C.1.2.2.2.2 f_c g_c ++ (P))))))) : zc_La_sign C Post c0 s0 14 [(0, .ref (ad C.1 24)), (1, .long x1), (3, .int x3), (4, .ref ou)] [.ref y0] ([(ou, .inl (C.1.2.2.2.1 1, 1, .inr (.inl of)))] ++ (s_q C.1.2.2.2.1 C.1.2.2.2.2 f_q r_q c_q ++ (s_t C.1.2.2.2.1 C.1.2.2.2.2 f_t g_t ++ (s_r C.1.2.2.2.1 C.1.2.2.2.2 r_r ++ (s_c C.1.2.2.2.1 C.1.2.2.2.2 f_c g_c ++ (P)))))) := by
  obtain ⟨⟨l, dC, dI, k, a⟩, p, e, s, m, args, below, meth, c, A⟩ := C
  obtain ⟨⟨hx, hb, hr, htz, hown, hlocks, hml, hE, hK, hA⟩, hTab, hlt⟩ := X
  intro H locs ls hl hP hD hS
  have hl : lv_has ls 6 [(0, .ref (a 24)), (1, .long x1), (3, .int x3), (4, .ref ou)] := hl
  have hP : va_P (dC, dI) classes ([(ou, .inl (k 1, 1, .inr (.inl of)))] ++ (s_q k a f_q r_q c_q ++ (s_t k a f_t g_t ++ (s_r k a r_r ++ (s_c k a f_c g_c ++ (P)))))) H := hP
  have hD : va_D A ([(ou, .inl (k 1, 1, .inr (.inl of)))] ++ (s_q k a f_q r_q c_q ++ (s_t k a f_t g_t ++ (s_r k a r_r ++ (s_c k a f_c g_c ++ (P)))))) := hD
  show W p l e (z_rm 2 1 6) s m args below meth c H locs c0 s0 _ (F0 m 14 ls [.ref y0])
  refine lv_astore (lv' := [(5, .ref y0), (0, .ref (a 24)), (1, .long x1), (3, .int x3), (4, .ref ou)]) hx hb d_La_sign_14 hl (by decide) rfl (fun ls hl => ?_)
  refine lv_iconst (v := 1) hx hb d_La_sign_16 (by decide) ?_
  refine W.widen (k := 1) (n := 6) b_17.1 b_17.2 ?_
  exact W.iret (v := 1) hx hb hr (fun t ht hW => ⟨⟨_, ([(ou, .inl (k 1, 1, .inr (.inl of)))] ++ (s_q k a f_q r_q c_q ++ (s_t k a f_t g_t ++ (s_r k a r_r ++ (s_c k a f_c g_c ++ (P)))))), rfl, q_17, by rw [ht]; exact hP, va_K.moved hW.alike hK, hD⟩, hS.F ht⟩) hS.2.2 d_La_sign_17
set_option maxHeartbeats 1000000 in
set_option maxRecDepth 100000 in
theorem k_La_sign_18 {C : CT} (X : cT C "QuestionTextLaw" b_La_sign 6 (some .int) [⟨0, 11, 14, 13⟩, ⟨0, 11, 18, 15⟩]) (Post : Int32 → va_W → Prop) (x1 : Int64) (x3 : Int32) (y0 : Nat) (f_q : FT) (r_q : Nat → Nat → Option Nat) (c_q : Nat) (f_t : FT) (g_t : GT) (r_r : Nat → Nat → Option Nat) (f_c : FT) (g_c : GT) (P : va_W) (ou : Nat) (of : Nat → Int64) (c0 s0 : Nat)
    (b_21 : c0 ≤ 1 ∧ s0 ≤ 6)
    (q_21 : Post (2) ([(ou, .inl (C.1.2.2.2.1 1, 1, .inr (.inl of)))] ++ (s_q C.1.2.2.2.1 C.1.2.2.2.2 f_q r_q c_q ++ (s_t C.1.2.2.2.1 C.1.2.2.2.2 f_t g_t ++ (s_r C.1.2.2.2.1 C.1.2.2.2.2 r_r ++ (s_c C.1.2.2.2.1 C.1.2.2.2.2 f_c g_c ++ (P))))))) : zc_La_sign C Post c0 s0 18 [(0, .ref (ad C.1 24)), (1, .long x1), (3, .int x3), (4, .ref ou)] [.ref y0] ([(ou, .inl (C.1.2.2.2.1 1, 1, .inr (.inl of)))] ++ (s_q C.1.2.2.2.1 C.1.2.2.2.2 f_q r_q c_q ++ (s_t C.1.2.2.2.1 C.1.2.2.2.2 f_t g_t ++ (s_r C.1.2.2.2.1 C.1.2.2.2.2 r_r ++ (s_c C.1.2.2.2.1 C.1.2.2.2.2 f_c g_c ++ (P)))))) := by
  obtain ⟨⟨l, dC, dI, k, a⟩, p, e, s, m, args, below, meth, c, A⟩ := C
  obtain ⟨⟨hx, hb, hr, htz, hown, hlocks, hml, hE, hK, hA⟩, hTab, hlt⟩ := X
  intro H locs ls hl hP hD hS
  have hl : lv_has ls 6 [(0, .ref (a 24)), (1, .long x1), (3, .int x3), (4, .ref ou)] := hl
  have hP : va_P (dC, dI) classes ([(ou, .inl (k 1, 1, .inr (.inl of)))] ++ (s_q k a f_q r_q c_q ++ (s_t k a f_t g_t ++ (s_r k a r_r ++ (s_c k a f_c g_c ++ (P)))))) H := hP
  have hD : va_D A ([(ou, .inl (k 1, 1, .inr (.inl of)))] ++ (s_q k a f_q r_q c_q ++ (s_t k a f_t g_t ++ (s_r k a r_r ++ (s_c k a f_c g_c ++ (P)))))) := hD
  show W p l e (z_rm 2 1 6) s m args below meth c H locs c0 s0 _ (F0 m 18 ls [.ref y0])
  refine lv_astore (lv' := [(5, .ref y0), (0, .ref (a 24)), (1, .long x1), (3, .int x3), (4, .ref ou)]) hx hb d_La_sign_18 hl (by decide) rfl (fun ls hl => ?_)
  refine lv_iconst (v := 2) hx hb d_La_sign_20 (by decide) ?_
  refine W.widen (k := 1) (n := 6) b_21.1 b_21.2 ?_
  exact W.iret (v := 2) hx hb hr (fun t ht hW => ⟨⟨_, ([(ou, .inl (k 1, 1, .inr (.inl of)))] ++ (s_q k a f_q r_q c_q ++ (s_t k a f_t g_t ++ (s_r k a r_r ++ (s_c k a f_c g_c ++ (P)))))), rfl, q_21, by rw [ht]; exact hP, va_K.moved hW.alike hK, hD⟩, hS.F ht⟩) hS.2.2 d_La_sign_21
set_option maxHeartbeats 1000000 in
set_option maxRecDepth 100000 in
theorem e_La_sign (T : ST) (hlt : T.1.stackTraces = false) (Post : Int32 → va_W → Prop) (x1 : Int64) (x3 : Int32) (f_q : FT) (r_q : Nat → Nat → Option Nat) (c_q : Nat) (f_t : FT) (g_t : GT) (r_r : Nat → Nat → Option Nat) (f_c : FT) (g_c : GT) (P : va_W) (ou : Nat) (of : Nat → Int64) (h : ∀ C : CT, C.1 = T → cT C "QuestionTextLaw" b_La_sign 6 (some .int) [⟨0, 11, 14, 13⟩, ⟨0, 11, 18, 15⟩] → zc_La_sign C Post 0 0 0 [(0, .ref (ad C.1 24)), (1, .long x1), (3, .int x3), (4, .ref ou)] [] ([(ou, .inl (C.1.2.2.2.1 1, 1, .inr (.inl of)))] ++ (s_q C.1.2.2.2.1 C.1.2.2.2.2 f_q r_q c_q ++ (s_t C.1.2.2.2.1 C.1.2.2.2.2 f_t g_t ++ (s_r C.1.2.2.2.1 C.1.2.2.2.2 r_r ++ (s_c C.1.2.2.2.1 C.1.2.2.2.2 f_c g_c ++ (P))))))) : uI T y_La_sign (Cond.codeWith y_La_sign b_La_sign 6 (some .int) [(0, 11, 14, 13), (0, 11, 18, 15)]) 2 1 6 [.ref (ad T 24), .long x1, .int x3, .ref ou] ([(ou, .inl (T.2.2.2.1 1, 1, .inr (.inl of)))] ++ (s_q T.2.2.2.1 T.2.2.2.2 f_q r_q c_q ++ (s_t T.2.2.2.1 T.2.2.2.2 f_t g_t ++ (s_r T.2.2.2.1 T.2.2.2.2 r_r ++ (s_c T.2.2.2.1 T.2.2.2.2 f_c g_c ++ (P)))))) Post := by
  obtain ⟨l, dC, dI, k, a⟩ := T
  intro sz
  refine va_MetW (cc := b_La_sign) (maxL := 6) (ret := (some .int)) (by decide) rfl ?_
  intro p e s m args below meth c s₁ B hml hv
  obtain ⟨rfl, hsz, hE, hP, hK, hD0⟩ := hv
  have hts := atoms_spec (ws := (Cond.codeWith y_La_sign b_La_sign 6 (some .int) [(0, 11, 14, 13), (0, 11, 18, 15)]) :: z_T) B.pre
  have htz : ∀ w ∈ z_T, w.before _ s = true := fun w h => hts w (z_cons w h)
  subst hsz
  have hD := hD0.self (sz := s.heap.size)
  generalize hAe : va_A ([(ou, .inl (k 1, 1, .inr (.inl of)))] ++ (s_q k a f_q r_q c_q ++ (s_t k a f_t g_t ++ (s_r k a r_r ++ (s_c k a f_c g_c ++ (P)))))) s.heap.size = A at hD hE ⊢
  have hA : ∀ q : Nat, s.heap.size ≤ q → A q := fun q h => by rw [← hAe]; exact Or.inr h
  have hl := lv_entry ([.ref (a 24), .long x1, .int x3, .ref ou]) (n := 6) (Nat.le_of_ble_eq_true rfl)
  rw [lg_entry_eq]
  generalize (lg_sl ([.ref (a 24), .long x1, .int x3, .ref ou]) ++ List.replicate (6 - (lg_sl ([.ref (a 24), .long x1, .int x3, .ref ou])).length) Slot.unset).toArray = ls at hl ⊢
  have hTab := vx_table (x := y_La_sign) B (htz _ m_La_sign)
  exact h ((l, dC, dI, k, a), p, e, s, m, ([.ref (a 24), .long x1, .int x3, .ref ou] : List Value).toArray, below, meth, c, A) rfl ⟨⟨B.exec, B.bytes, B.returns, htz, findClass_of_methodNamed B.named, B.notSynchronized, hml, hE, hK, hA⟩, hTab, hlt⟩ s.heap [] ls hl hP hD va_S.rf
def zc_La_read (C : CT) (Post : Int32 → va_W → Prop) (MM : Nat) (SS : Nat) (c0 s0 pc : Nat) (loc : List (Nat × Value)) (st : List Value) (ws : va_W) : Prop := zW C (z_rm 9 (MM + 4) (SS + 138)) 3 (oI C (MM + 4) (SS + 138) Post) c0 s0 pc loc st ws
set_option maxHeartbeats 1000000 in
set_option maxRecDepth 100000 in
theorem k_La_read_0 {C : CT} (X : cT C "QuestionTextLaw" b_La_read 3 (some .int) [⟨0, 8, 11, 13⟩, ⟨0, 8, 14, 15⟩]) (Post : Int32 → va_W → Prop) {P_3 : Int32 → va_W → Prop} {X_3 : String → va_W → Prop} (f_q : FT) (r_q : Nat → Nat → Option Nat) (c_q : Nat) (f_t : FT) (g_t : GT) (r_r : Nat → Nat → Option Nat) (f_c : FT) (g_c : GT) (P : va_W) (ou : Nat) (of : Nat → Int64) (MM : Nat) (SS : Nat) (c0 s0 : Nat)
    (b_3 : c0 + MM + 4 ≤ MM + 4 ∧ s0 + SS + 138 ≤ SS + 138)
    (m_3 : xI C.1 y_Q_read (Cond.code y_Q_read b_Q_read 2 (some .int)) 8 (MM + 4) (SS + 138) [.ref (ad C.1 24)] (s_q C.1.2.2.2.1 C.1.2.2.2.2 f_q r_q c_q ++ (s_t C.1.2.2.2.1 C.1.2.2.2.2 f_t g_t ++ (s_r C.1.2.2.2.1 C.1.2.2.2.2 r_r ++ (s_c C.1.2.2.2.1 C.1.2.2.2.2 f_c g_c ++ (P))))) P_3 X_3)
    (k_3 : ∀ (r : Int32) (u : va_W), P_3 r u → zc_La_read C Post MM SS (c0 + MM + 4) (s0 + SS + 138) 6 [(0, .ref (ad C.1 24)), (1, .ref ou)] [.int r, .int 0, .ref ou] ([(ou, .inl (C.1.2.2.2.1 1, 1, .inr (.inl of)))] ++ (u)))
    (x_3 : ∀ (E : String) (u : va_W), X_3 E u → (E = "java/lang/IllegalArgumentException" ∧ ∀ q9 : Nat, zc_La_read C Post MM SS (c0 + MM + 4) (s0 + SS + 138) 11 [(0, .ref (ad C.1 24)), (1, .ref ou)] [.ref q9] ([(ou, .inl (C.1.2.2.2.1 1, 1, .inr (.inl of)))] ++ (u))) ∨ (E = "java/lang/IllegalStateException" ∧ ∀ q9 : Nat, zc_La_read C Post MM SS (c0 + MM + 4) (s0 + SS + 138) 14 [(0, .ref (ad C.1 24)), (1, .ref ou)] [.ref q9] ([(ou, .inl (C.1.2.2.2.1 1, 1, .inr (.inl of)))] ++ (u)))) : zc_La_read C Post MM SS c0 s0 0 [(0, .ref (ad C.1 24)), (1, .ref ou)] [] ([(ou, .inl (C.1.2.2.2.1 1, 1, .inr (.inl of)))] ++ (s_q C.1.2.2.2.1 C.1.2.2.2.2 f_q r_q c_q ++ (s_t C.1.2.2.2.1 C.1.2.2.2.2 f_t g_t ++ (s_r C.1.2.2.2.1 C.1.2.2.2.2 r_r ++ (s_c C.1.2.2.2.1 C.1.2.2.2.2 f_c g_c ++ (P)))))) := by
  obtain ⟨⟨l, dC, dI, k, a⟩, p, e, s, m, args, below, meth, c, A⟩ := C
  obtain ⟨⟨hx, hb, hr, htz, hown, hlocks, hml, hE, hK, hA⟩, hTab, hlt⟩ := X
  intro H locs ls hl hP hD hS
  have hl : lv_has ls 3 [(0, .ref (a 24)), (1, .ref ou)] := hl
  have hP : va_P (dC, dI) classes ([(ou, .inl (k 1, 1, .inr (.inl of)))] ++ (s_q k a f_q r_q c_q ++ (s_t k a f_t g_t ++ (s_r k a r_r ++ (s_c k a f_c g_c ++ (P)))))) H := hP
  have hD : va_D A ([(ou, .inl (k 1, 1, .inr (.inl of)))] ++ (s_q k a f_q r_q c_q ++ (s_t k a f_t g_t ++ (s_r k a r_r ++ (s_c k a f_c g_c ++ (P)))))) := hD
  show W p l e (z_rm 9 (MM + 4) (SS + 138)) s m args below meth c H locs c0 s0 _ (F0 m 0 ls [])
  refine lv_aload_n hx hb d_La_read_0 rfl (lv_at hl 1 rfl) ?_
  refine lv_iconst (v := 0) hx hb d_La_read_1 (by decide) ?_
  refine lv_aload_n hx hb d_La_read_2 rfl (lv_at hl 0 rfl) ?_
  have hPf : va_P (dC, dI) classes (([(ou, .inl (k 1, 1, .inr (.inl of)))]) ++ ((s_q k a f_q r_q c_q ++ (s_t k a f_t g_t ++ (s_r k a r_r ++ (s_c k a f_c g_c ++ (P))))) ++ ([]))) H := by rw [List.append_nil]; exact hP
  have hDf : va_D A (([(ou, .inl (k 1, 1, .inr (.inl of)))]) ++ ((s_q k a f_q r_q c_q ++ (s_t k a f_t g_t ++ (s_r k a r_r ++ (s_c k a f_c g_c ++ (P))))) ++ ([]))) := by rw [List.append_nil]; exact hD
  have hFc := zfree hDf hS hA
  refine vx_calli (vx_runV (As := []) (rest := [.int 0, .ref ou]) ⟨hx, hb, hml, hown, htz⟩ (m_3 H.size) (cwV 0 htz (z_gV (fun _ h => h) km_La_17 in_Q_read se_Q_read ini_Q m_Q_read) rfl rfl rfl (by decide +kernel) ⟨(Nat.le_of_ble_eq_true rfl), (Nat.le_of_ble_eq_true rfl)⟩) ⟨z_blind, va_recv hK hP (ci := 0) (q0 := 1) rfl rfl, fun U hU hW => ⟨rfl, by rw [hU], hE.call hS hFc hU hW, by rw [hU]; exact (zPc hPf), va_K.moved hW.alike hK, (zDc hDf)⟩⟩ rfl rfl hl.1 rfl (lv_room (Nat.le_of_ble_eq_true rfl)) d_La_read_3 b_3) hS (fun q _ h => hFc q h) hFc (fun q _ h => hFc q h) (fun E ce q9 u t H1 locs ht hvm hw hB hz1 hk1 hS hce hcv hcl => ?_) (fun r u t H1 locs ht hvm hw hB hz1 hk1 hS => ?_)
  · obtain ⟨hxe, hP1, hK1, hD1⟩ := hB
    rw [ht] at hP1
    obtain ⟨hP, hD⟩ := zf hPf hDf hk1 hFc hP1 hD1
    rw [List.append_nil] at hP hD
    rcases x_3 E u hxe with ⟨rfl, hz9⟩ | ⟨rfl, hz9⟩
    · refine vx_catch hown [] ⟨0, 8, 11, 13⟩ [⟨0, 8, 14, 15⟩] hTab (fun z hz => nomatch hz) (by decide) (by decide) (htz _ kc_La_13) (va_Nw.use rfl (hE.2.1 _ ca_IAE)) hce hcv hcl ?_
      exact hz9 q9 H1 locs ls (lv_sub hl [0, 1] rfl) hP hD hS
    · refine vx_catch hown [⟨0, 8, 11, 13⟩] ⟨0, 8, 14, 15⟩ [] hTab (fun z hz => by rw [List.mem_singleton.mp hz]; exact Or.inr ⟨by decide, _, htz _ kc_La_13, hE.2.2.2.2.2.2⟩) (by decide) (by decide) (htz _ kc_La_15) (va_Nw.use rfl (hE.2.1 _ ca_ISE)) hce hcv hcl ?_
      exact hz9 q9 H1 locs ls (lv_sub hl [0, 1] rfl) hP hD hS
  · obtain ⟨hP1, hK1, hD1⟩ := hB
    rw [ht] at hP1
    obtain ⟨hP, hD⟩ := zf hPf hDf hk1 hFc hP1 hD1
    rw [List.append_nil] at hP hD
    exact k_3 r _ hw H1 locs ls (lv_sub hl [0, 1] rfl) hP hD hS
set_option maxHeartbeats 1000000 in
set_option maxRecDepth 100000 in
theorem k_La_read_6 {C : CT} (X : cT C "QuestionTextLaw" b_La_read 3 (some .int) [⟨0, 8, 11, 13⟩, ⟨0, 8, 14, 15⟩]) (Post : Int32 → va_W → Prop) (y0 : Int32) (y1 : Int32) (f_q : FT) (r_q : Nat → Nat → Option Nat) (c_q : Nat) (f_t : FT) (g_t : GT) (r_r : Nat → Nat → Option Nat) (f_c : FT) (g_c : GT) (P : va_W) (ou : Nat) (of : Nat → Int64) (MM : Nat) (SS : Nat) (c0 s0 : Nat)
    (h_7 : vp_in (y1) 1)
    (b_18 : c0 ≤ MM + 4 ∧ s0 ≤ SS + 138)
    (q_18 : Post (0) ([(ou, .inl (C.1.2.2.2.1 1, 1, .inr (.inl (vp_updL of (y1 : Int32).toNatClampNeg y0.toInt64))))] ++ (s_q C.1.2.2.2.1 C.1.2.2.2.2 f_q r_q c_q ++ (s_t C.1.2.2.2.1 C.1.2.2.2.2 f_t g_t ++ (s_r C.1.2.2.2.1 C.1.2.2.2.2 r_r ++ (s_c C.1.2.2.2.1 C.1.2.2.2.2 f_c g_c ++ (P))))))) : zc_La_read C Post MM SS c0 s0 6 [(0, .ref (ad C.1 24)), (1, .ref ou)] [.int y0, .int y1, .ref ou] ([(ou, .inl (C.1.2.2.2.1 1, 1, .inr (.inl of)))] ++ (s_q C.1.2.2.2.1 C.1.2.2.2.2 f_q r_q c_q ++ (s_t C.1.2.2.2.1 C.1.2.2.2.2 f_t g_t ++ (s_r C.1.2.2.2.1 C.1.2.2.2.2 r_r ++ (s_c C.1.2.2.2.1 C.1.2.2.2.2 f_c g_c ++ (P)))))) := by
  obtain ⟨⟨l, dC, dI, k, a⟩, p, e, s, m, args, below, meth, c, A⟩ := C
  obtain ⟨⟨hx, hb, hr, htz, hown, hlocks, hml, hE, hK, hA⟩, hTab, hlt⟩ := X
  intro H locs ls hl hP hD hS
  have hl : lv_has ls 3 [(0, .ref (a 24)), (1, .ref ou)] := hl
  have hP : va_P (dC, dI) classes ([(ou, .inl (k 1, 1, .inr (.inl of)))] ++ (s_q k a f_q r_q c_q ++ (s_t k a f_t g_t ++ (s_r k a r_r ++ (s_c k a f_c g_c ++ (P)))))) H := hP
  have hD : va_D A ([(ou, .inl (k 1, 1, .inr (.inl of)))] ++ (s_q k a f_q r_q c_q ++ (s_t k a f_t g_t ++ (s_r k a r_r ++ (s_c k a f_c g_c ++ (P)))))) := hD
  show W p l e (z_rm 9 (MM + 4) (SS + 138)) s m args below meth c H locs c0 s0 _ (F0 m 6 ls [.int y0, .int y1, .ref ou])
  refine lv_i2l (v := y0.toInt64) hx hb d_La_read_6 rfl ?_
  refine va_last hx hb hK hP hD hS 0 1 rfl rfl h_7 d_La_read_7 (fun H locs hP hD hS => ?_)
  have hP : va_P (dC, dI) classes ([(ou, .inl (k 1, 1, .inr (.inl (vp_updL of (y1 : Int32).toNatClampNeg y0.toInt64))))] ++ (s_q k a f_q r_q c_q ++ (s_t k a f_t g_t ++ (s_r k a r_r ++ (s_c k a f_c g_c ++ (P)))))) H := hP
  have hD : va_D A ([(ou, .inl (k 1, 1, .inr (.inl (vp_updL of (y1 : Int32).toNatClampNeg y0.toInt64))))] ++ (s_q k a f_q r_q c_q ++ (s_t k a f_t g_t ++ (s_r k a r_r ++ (s_c k a f_c g_c ++ (P)))))) := hD
  refine lv_goto (tgt := 17) hx hb d_La_read_8 (by decide) ?_
  refine lv_iconst (v := 0) hx hb d_La_read_17 (by decide) ?_
  refine W.widen (k := MM + 4) (n := SS + 138) b_18.1 b_18.2 ?_
  exact W.iret (v := 0) hx hb hr (fun t ht hW => ⟨⟨_, ([(ou, .inl (k 1, 1, .inr (.inl (vp_updL of (y1 : Int32).toNatClampNeg y0.toInt64))))] ++ (s_q k a f_q r_q c_q ++ (s_t k a f_t g_t ++ (s_r k a r_r ++ (s_c k a f_c g_c ++ (P)))))), rfl, q_18, by rw [ht]; exact hP, va_K.moved hW.alike hK, hD⟩, hS.F ht⟩) hS.2.2 d_La_read_18
set_option maxHeartbeats 1000000 in
set_option maxRecDepth 100000 in
theorem k_La_read_11 {C : CT} (X : cT C "QuestionTextLaw" b_La_read 3 (some .int) [⟨0, 8, 11, 13⟩, ⟨0, 8, 14, 15⟩]) (Post : Int32 → va_W → Prop) (y0 : Nat) (f_q : FT) (r_q : Nat → Nat → Option Nat) (c_q : Nat) (f_t : FT) (g_t : GT) (r_r : Nat → Nat → Option Nat) (f_c : FT) (g_c : GT) (P : va_W) (ou : Nat) (of : Nat → Int64) (MM : Nat) (SS : Nat) (c0 s0 : Nat)
    (b_13 : c0 ≤ MM + 4 ∧ s0 ≤ SS + 138)
    (q_13 : Post (1) ([(ou, .inl (C.1.2.2.2.1 1, 1, .inr (.inl of)))] ++ (s_q C.1.2.2.2.1 C.1.2.2.2.2 f_q r_q c_q ++ (s_t C.1.2.2.2.1 C.1.2.2.2.2 f_t g_t ++ (s_r C.1.2.2.2.1 C.1.2.2.2.2 r_r ++ (s_c C.1.2.2.2.1 C.1.2.2.2.2 f_c g_c ++ (P))))))) : zc_La_read C Post MM SS c0 s0 11 [(0, .ref (ad C.1 24)), (1, .ref ou)] [.ref y0] ([(ou, .inl (C.1.2.2.2.1 1, 1, .inr (.inl of)))] ++ (s_q C.1.2.2.2.1 C.1.2.2.2.2 f_q r_q c_q ++ (s_t C.1.2.2.2.1 C.1.2.2.2.2 f_t g_t ++ (s_r C.1.2.2.2.1 C.1.2.2.2.2 r_r ++ (s_c C.1.2.2.2.1 C.1.2.2.2.2 f_c g_c ++ (P)))))) := by
  obtain ⟨⟨l, dC, dI, k, a⟩, p, e, s, m, args, below, meth, c, A⟩ := C
  obtain ⟨⟨hx, hb, hr, htz, hown, hlocks, hml, hE, hK, hA⟩, hTab, hlt⟩ := X
  intro H locs ls hl hP hD hS
  have hl : lv_has ls 3 [(0, .ref (a 24)), (1, .ref ou)] := hl
  have hP : va_P (dC, dI) classes ([(ou, .inl (k 1, 1, .inr (.inl of)))] ++ (s_q k a f_q r_q c_q ++ (s_t k a f_t g_t ++ (s_r k a r_r ++ (s_c k a f_c g_c ++ (P)))))) H := hP
  have hD : va_D A ([(ou, .inl (k 1, 1, .inr (.inl of)))] ++ (s_q k a f_q r_q c_q ++ (s_t k a f_t g_t ++ (s_r k a r_r ++ (s_c k a f_c g_c ++ (P)))))) := hD
  show W p l e (z_rm 9 (MM + 4) (SS + 138)) s m args below meth c H locs c0 s0 _ (F0 m 11 ls [.ref y0])
  refine lv_astore_n (lv' := [(2, .ref y0), (0, .ref (a 24)), (1, .ref ou)]) hx hb d_La_read_11 rfl hl (by decide) rfl (fun ls hl => ?_)
  refine lv_iconst (v := 1) hx hb d_La_read_12 (by decide) ?_
  refine W.widen (k := MM + 4) (n := SS + 138) b_13.1 b_13.2 ?_
  exact W.iret (v := 1) hx hb hr (fun t ht hW => ⟨⟨_, ([(ou, .inl (k 1, 1, .inr (.inl of)))] ++ (s_q k a f_q r_q c_q ++ (s_t k a f_t g_t ++ (s_r k a r_r ++ (s_c k a f_c g_c ++ (P)))))), rfl, q_13, by rw [ht]; exact hP, va_K.moved hW.alike hK, hD⟩, hS.F ht⟩) hS.2.2 d_La_read_13
set_option maxHeartbeats 1000000 in
set_option maxRecDepth 100000 in
theorem k_La_read_14 {C : CT} (X : cT C "QuestionTextLaw" b_La_read 3 (some .int) [⟨0, 8, 11, 13⟩, ⟨0, 8, 14, 15⟩]) (Post : Int32 → va_W → Prop) (y0 : Nat) (f_q : FT) (r_q : Nat → Nat → Option Nat) (c_q : Nat) (f_t : FT) (g_t : GT) (r_r : Nat → Nat → Option Nat) (f_c : FT) (g_c : GT) (P : va_W) (ou : Nat) (of : Nat → Int64) (MM : Nat) (SS : Nat) (c0 s0 : Nat)
    (b_16 : c0 ≤ MM + 4 ∧ s0 ≤ SS + 138)
    (q_16 : Post (2) ([(ou, .inl (C.1.2.2.2.1 1, 1, .inr (.inl of)))] ++ (s_q C.1.2.2.2.1 C.1.2.2.2.2 f_q r_q c_q ++ (s_t C.1.2.2.2.1 C.1.2.2.2.2 f_t g_t ++ (s_r C.1.2.2.2.1 C.1.2.2.2.2 r_r ++ (s_c C.1.2.2.2.1 C.1.2.2.2.2 f_c g_c ++ (P))))))) : zc_La_read C Post MM SS c0 s0 14 [(0, .ref (ad C.1 24)), (1, .ref ou)] [.ref y0] ([(ou, .inl (C.1.2.2.2.1 1, 1, .inr (.inl of)))] ++ (s_q C.1.2.2.2.1 C.1.2.2.2.2 f_q r_q c_q ++ (s_t C.1.2.2.2.1 C.1.2.2.2.2 f_t g_t ++ (s_r C.1.2.2.2.1 C.1.2.2.2.2 r_r ++ (s_c C.1.2.2.2.1 C.1.2.2.2.2 f_c g_c ++ (P)))))) := by
  obtain ⟨⟨l, dC, dI, k, a⟩, p, e, s, m, args, below, meth, c, A⟩ := C
  obtain ⟨⟨hx, hb, hr, htz, hown, hlocks, hml, hE, hK, hA⟩, hTab, hlt⟩ := X
  intro H locs ls hl hP hD hS
  have hl : lv_has ls 3 [(0, .ref (a 24)), (1, .ref ou)] := hl
  have hP : va_P (dC, dI) classes ([(ou, .inl (k 1, 1, .inr (.inl of)))] ++ (s_q k a f_q r_q c_q ++ (s_t k a f_t g_t ++ (s_r k a r_r ++ (s_c k a f_c g_c ++ (P)))))) H := hP
  have hD : va_D A ([(ou, .inl (k 1, 1, .inr (.inl of)))] ++ (s_q k a f_q r_q c_q ++ (s_t k a f_t g_t ++ (s_r k a r_r ++ (s_c k a f_c g_c ++ (P)))))) := hD
  show W p l e (z_rm 9 (MM + 4) (SS + 138)) s m args below meth c H locs c0 s0 _ (F0 m 14 ls [.ref y0])
  refine lv_astore_n (lv' := [(2, .ref y0), (0, .ref (a 24)), (1, .ref ou)]) hx hb d_La_read_14 rfl hl (by decide) rfl (fun ls hl => ?_)
  refine lv_iconst (v := 2) hx hb d_La_read_15 (by decide) ?_
  refine W.widen (k := MM + 4) (n := SS + 138) b_16.1 b_16.2 ?_
  exact W.iret (v := 2) hx hb hr (fun t ht hW => ⟨⟨_, ([(ou, .inl (k 1, 1, .inr (.inl of)))] ++ (s_q k a f_q r_q c_q ++ (s_t k a f_t g_t ++ (s_r k a r_r ++ (s_c k a f_c g_c ++ (P)))))), rfl, q_16, by rw [ht]; exact hP, va_K.moved hW.alike hK, hD⟩, hS.F ht⟩) hS.2.2 d_La_read_16
set_option maxHeartbeats 1000000 in
set_option maxRecDepth 100000 in
theorem e_La_read (T : ST) (hlt : T.1.stackTraces = false) (Post : Int32 → va_W → Prop) (f_q : FT) (r_q : Nat → Nat → Option Nat) (c_q : Nat) (f_t : FT) (g_t : GT) (r_r : Nat → Nat → Option Nat) (f_c : FT) (g_c : GT) (P : va_W) (ou : Nat) (of : Nat → Int64) (MM : Nat) (SS : Nat) (h : ∀ C : CT, C.1 = T → cT C "QuestionTextLaw" b_La_read 3 (some .int) [⟨0, 8, 11, 13⟩, ⟨0, 8, 14, 15⟩] → zc_La_read C Post MM SS 0 0 0 [(0, .ref (ad C.1 24)), (1, .ref ou)] [] ([(ou, .inl (C.1.2.2.2.1 1, 1, .inr (.inl of)))] ++ (s_q C.1.2.2.2.1 C.1.2.2.2.2 f_q r_q c_q ++ (s_t C.1.2.2.2.1 C.1.2.2.2.2 f_t g_t ++ (s_r C.1.2.2.2.1 C.1.2.2.2.2 r_r ++ (s_c C.1.2.2.2.1 C.1.2.2.2.2 f_c g_c ++ (P))))))) : uI T y_La_read (Cond.codeWith y_La_read b_La_read 3 (some .int) [(0, 8, 11, 13), (0, 8, 14, 15)]) 9 (MM + 4) (SS + 138) [.ref (ad T 24), .ref ou] ([(ou, .inl (T.2.2.2.1 1, 1, .inr (.inl of)))] ++ (s_q T.2.2.2.1 T.2.2.2.2 f_q r_q c_q ++ (s_t T.2.2.2.1 T.2.2.2.2 f_t g_t ++ (s_r T.2.2.2.1 T.2.2.2.2 r_r ++ (s_c T.2.2.2.1 T.2.2.2.2 f_c g_c ++ (P)))))) Post := by
  obtain ⟨l, dC, dI, k, a⟩ := T
  intro sz
  refine va_MetW (cc := b_La_read) (maxL := 3) (ret := (some .int)) (by decide) rfl ?_
  intro p e s m args below meth c s₁ B hml hv
  obtain ⟨rfl, hsz, hE, hP, hK, hD0⟩ := hv
  have hts := atoms_spec (ws := (Cond.codeWith y_La_read b_La_read 3 (some .int) [(0, 8, 11, 13), (0, 8, 14, 15)]) :: z_T) B.pre
  have htz : ∀ w ∈ z_T, w.before _ s = true := fun w h => hts w (z_cons w h)
  subst hsz
  have hD := hD0.self (sz := s.heap.size)
  generalize hAe : va_A ([(ou, .inl (k 1, 1, .inr (.inl of)))] ++ (s_q k a f_q r_q c_q ++ (s_t k a f_t g_t ++ (s_r k a r_r ++ (s_c k a f_c g_c ++ (P)))))) s.heap.size = A at hD hE ⊢
  have hA : ∀ q : Nat, s.heap.size ≤ q → A q := fun q h => by rw [← hAe]; exact Or.inr h
  have hl := lv_entry ([.ref (a 24), .ref ou]) (n := 3) (Nat.le_of_ble_eq_true rfl)
  rw [lg_entry_eq]
  generalize (lg_sl ([.ref (a 24), .ref ou]) ++ List.replicate (3 - (lg_sl ([.ref (a 24), .ref ou])).length) Slot.unset).toArray = ls at hl ⊢
  have hTab := vx_table (x := y_La_read) B (htz _ m_La_read)
  exact h ((l, dC, dI, k, a), p, e, s, m, ([.ref (a 24), .ref ou] : List Value).toArray, below, meth, c, A) rfl ⟨⟨B.exec, B.bytes, B.returns, htz, findClass_of_methodNamed B.named, B.notSynchronized, hml, hE, hK, hA⟩, hTab, hlt⟩ s.heap [] ls hl hP hD va_S.rf
def zc_La_edition (C : CT) (Post : Int32 → va_W → Prop) (c0 s0 pc : Nat) (loc : List (Nat × Value)) (st : List Value) (ws : va_W) : Prop := zW C (z_rm 3 1 6) 4 (oI C 1 6 Post) c0 s0 pc loc st ws
set_option maxHeartbeats 1000000 in
set_option maxRecDepth 100000 in
theorem k_La_edition_0 {C : CT} (X : cT C "QuestionTextLaw" b_La_edition 4 (some .int) [⟨0, 9, 12, 13⟩]) (Post : Int32 → va_W → Prop) {P_4 : Int32 → va_W → Prop} {X_4 : String → va_W → Prop} (x1 : Int32) (f_q : FT) (r_q : Nat → Nat → Option Nat) (c_q : Nat) (f_t : FT) (g_t : GT) (r_r : Nat → Nat → Option Nat) (f_c : FT) (g_c : GT) (P : va_W) (ou : Nat) (of : Nat → Int64) (c0 s0 : Nat)
    (b_4 : c0 + 1 ≤ 1 ∧ s0 + 6 ≤ 6)
    (m_4 : xI C.1 y_Q_edition (Cond.code y_Q_edition b_Q_edition 2 (some .int)) 2 1 6 [.ref (ad C.1 24), .int x1] (s_q C.1.2.2.2.1 C.1.2.2.2.2 f_q r_q c_q ++ (s_t C.1.2.2.2.1 C.1.2.2.2.2 f_t g_t ++ (s_r C.1.2.2.2.1 C.1.2.2.2.2 r_r ++ (s_c C.1.2.2.2.1 C.1.2.2.2.2 f_c g_c ++ (P))))) P_4 X_4)
    (k_4 : ∀ (r : Int32) (u : va_W), P_4 r u → zc_La_edition C Post (c0 + 1) (s0 + 6) 7 [(0, .ref (ad C.1 24)), (1, .int x1), (2, .ref ou)] [.int r, .int 0, .ref ou] ([(ou, .inl (C.1.2.2.2.1 1, 1, .inr (.inl of)))] ++ (u)))
    (x_4 : ∀ (E : String) (u : va_W), X_4 E u → E = "java/lang/IllegalArgumentException" ∧ ∀ q9 : Nat, zc_La_edition C Post (c0 + 1) (s0 + 6) 12 [(0, .ref (ad C.1 24)), (1, .int x1), (2, .ref ou)] [.ref q9] ([(ou, .inl (C.1.2.2.2.1 1, 1, .inr (.inl of)))] ++ (u))) : zc_La_edition C Post c0 s0 0 [(0, .ref (ad C.1 24)), (1, .int x1), (2, .ref ou)] [] ([(ou, .inl (C.1.2.2.2.1 1, 1, .inr (.inl of)))] ++ (s_q C.1.2.2.2.1 C.1.2.2.2.2 f_q r_q c_q ++ (s_t C.1.2.2.2.1 C.1.2.2.2.2 f_t g_t ++ (s_r C.1.2.2.2.1 C.1.2.2.2.2 r_r ++ (s_c C.1.2.2.2.1 C.1.2.2.2.2 f_c g_c ++ (P)))))) := by
  obtain ⟨⟨l, dC, dI, k, a⟩, p, e, s, m, args, below, meth, c, A⟩ := C
  obtain ⟨⟨hx, hb, hr, htz, hown, hlocks, hml, hE, hK, hA⟩, hTab, hlt⟩ := X
  intro H locs ls hl hP hD hS
  have hl : lv_has ls 4 [(0, .ref (a 24)), (1, .int x1), (2, .ref ou)] := hl
  have hP : va_P (dC, dI) classes ([(ou, .inl (k 1, 1, .inr (.inl of)))] ++ (s_q k a f_q r_q c_q ++ (s_t k a f_t g_t ++ (s_r k a r_r ++ (s_c k a f_c g_c ++ (P)))))) H := hP
  have hD : va_D A ([(ou, .inl (k 1, 1, .inr (.inl of)))] ++ (s_q k a f_q r_q c_q ++ (s_t k a f_t g_t ++ (s_r k a r_r ++ (s_c k a f_c g_c ++ (P)))))) := hD
  show W p l e (z_rm 3 1 6) s m args below meth c H locs c0 s0 _ (F0 m 0 ls [])
  refine lv_aload_n hx hb d_La_edition_0 rfl (lv_at hl 2 rfl) ?_
  refine lv_iconst (v := 0) hx hb d_La_edition_1 (by decide) ?_
  refine lv_aload_n hx hb d_La_edition_2 rfl (lv_at hl 0 rfl) ?_
  refine lv_iload_n hx hb d_La_edition_3 rfl (lv_at hl 1 rfl) ?_
  have hPf : va_P (dC, dI) classes (([(ou, .inl (k 1, 1, .inr (.inl of)))]) ++ ((s_q k a f_q r_q c_q ++ (s_t k a f_t g_t ++ (s_r k a r_r ++ (s_c k a f_c g_c ++ (P))))) ++ ([]))) H := by rw [List.append_nil]; exact hP
  have hDf : va_D A (([(ou, .inl (k 1, 1, .inr (.inl of)))]) ++ ((s_q k a f_q r_q c_q ++ (s_t k a f_t g_t ++ (s_r k a r_r ++ (s_c k a f_c g_c ++ (P))))) ++ ([]))) := by rw [List.append_nil]; exact hD
  have hFc := zfree hDf hS hA
  refine vx_calli (vx_runV (As := [.int x1]) (rest := [.int 0, .ref ou]) ⟨hx, hb, hml, hown, htz⟩ (m_4 H.size) (cwV 1 htz (z_gV (fun _ h => h) km_La_21 in_Q_edition se_Q_edition ini_Q m_Q_edition) rfl rfl rfl (by decide +kernel) ⟨(Nat.le_of_ble_eq_true rfl), (Nat.le_of_ble_eq_true rfl)⟩) ⟨z_blind, va_recv hK hP (ci := 0) (q0 := 1) rfl rfl, fun U hU hW => ⟨rfl, by rw [hU], hE.call hS hFc hU hW, by rw [hU]; exact (zPc hPf), va_K.moved hW.alike hK, (zDc hDf)⟩⟩ rfl rfl hl.1 rfl (lv_room (Nat.le_of_ble_eq_true rfl)) d_La_edition_4 b_4) hS (fun q _ h => hFc q h) hFc (fun q _ h => hFc q h) (fun E ce q9 u t H1 locs ht hvm hw hB hz1 hk1 hS hce hcv hcl => ?_) (fun r u t H1 locs ht hvm hw hB hz1 hk1 hS => ?_)
  · obtain ⟨hxe, hP1, hK1, hD1⟩ := hB
    rw [ht] at hP1
    obtain ⟨hP, hD⟩ := zf hPf hDf hk1 hFc hP1 hD1
    rw [List.append_nil] at hP hD
    obtain ⟨rfl, hz9⟩ := x_4 E u hxe
    refine vx_catch hown [] ⟨0, 9, 12, 13⟩ [] hTab (fun z hz => nomatch hz) (by decide) (by decide) (htz _ kc_La_13) (va_Nw.use rfl (hE.2.1 _ ca_IAE)) hce hcv hcl ?_
    exact hz9 q9 H1 locs ls (lv_sub hl [0, 1, 2] rfl) hP hD hS
  · obtain ⟨hP1, hK1, hD1⟩ := hB
    rw [ht] at hP1
    obtain ⟨hP, hD⟩ := zf hPf hDf hk1 hFc hP1 hD1
    rw [List.append_nil] at hP hD
    exact k_4 r _ hw H1 locs ls (lv_sub hl [0, 1, 2] rfl) hP hD hS
set_option maxHeartbeats 1000000 in
set_option maxRecDepth 100000 in
theorem k_La_edition_7 {C : CT} (X : cT C "QuestionTextLaw" b_La_edition 4 (some .int) [⟨0, 9, 12, 13⟩]) (Post : Int32 → va_W → Prop) (x1 : Int32) (y0 : Int32) (y1 : Int32) (f_q : FT) (r_q : Nat → Nat → Option Nat) (c_q : Nat) (f_t : FT) (g_t : GT) (r_r : Nat → Nat → Option Nat) (f_c : FT) (g_c : GT) (P : va_W) (ou : Nat) (of : Nat → Int64) (c0 s0 : Nat)
    (h_8 : vp_in (y1) 1)
    (b_16 : c0 ≤ 1 ∧ s0 ≤ 6)
    (q_16 : Post (0) ([(ou, .inl (C.1.2.2.2.1 1, 1, .inr (.inl (vp_updL of (y1 : Int32).toNatClampNeg y0.toInt64))))] ++ (s_q C.1.2.2.2.1 C.1.2.2.2.2 f_q r_q c_q ++ (s_t C.1.2.2.2.1 C.1.2.2.2.2 f_t g_t ++ (s_r C.1.2.2.2.1 C.1.2.2.2.2 r_r ++ (s_c C.1.2.2.2.1 C.1.2.2.2.2 f_c g_c ++ (P))))))) : zc_La_edition C Post c0 s0 7 [(0, .ref (ad C.1 24)), (1, .int x1), (2, .ref ou)] [.int y0, .int y1, .ref ou] ([(ou, .inl (C.1.2.2.2.1 1, 1, .inr (.inl of)))] ++ (s_q C.1.2.2.2.1 C.1.2.2.2.2 f_q r_q c_q ++ (s_t C.1.2.2.2.1 C.1.2.2.2.2 f_t g_t ++ (s_r C.1.2.2.2.1 C.1.2.2.2.2 r_r ++ (s_c C.1.2.2.2.1 C.1.2.2.2.2 f_c g_c ++ (P)))))) := by
  obtain ⟨⟨l, dC, dI, k, a⟩, p, e, s, m, args, below, meth, c, A⟩ := C
  obtain ⟨⟨hx, hb, hr, htz, hown, hlocks, hml, hE, hK, hA⟩, hTab, hlt⟩ := X
  intro H locs ls hl hP hD hS
  have hl : lv_has ls 4 [(0, .ref (a 24)), (1, .int x1), (2, .ref ou)] := hl
  have hP : va_P (dC, dI) classes ([(ou, .inl (k 1, 1, .inr (.inl of)))] ++ (s_q k a f_q r_q c_q ++ (s_t k a f_t g_t ++ (s_r k a r_r ++ (s_c k a f_c g_c ++ (P)))))) H := hP
  have hD : va_D A ([(ou, .inl (k 1, 1, .inr (.inl of)))] ++ (s_q k a f_q r_q c_q ++ (s_t k a f_t g_t ++ (s_r k a r_r ++ (s_c k a f_c g_c ++ (P)))))) := hD
  show W p l e (z_rm 3 1 6) s m args below meth c H locs c0 s0 _ (F0 m 7 ls [.int y0, .int y1, .ref ou])
  refine lv_i2l (v := y0.toInt64) hx hb d_La_edition_7 rfl ?_
  refine va_last hx hb hK hP hD hS 0 1 rfl rfl h_8 d_La_edition_8 (fun H locs hP hD hS => ?_)
  have hP : va_P (dC, dI) classes ([(ou, .inl (k 1, 1, .inr (.inl (vp_updL of (y1 : Int32).toNatClampNeg y0.toInt64))))] ++ (s_q k a f_q r_q c_q ++ (s_t k a f_t g_t ++ (s_r k a r_r ++ (s_c k a f_c g_c ++ (P)))))) H := hP
  have hD : va_D A ([(ou, .inl (k 1, 1, .inr (.inl (vp_updL of (y1 : Int32).toNatClampNeg y0.toInt64))))] ++ (s_q k a f_q r_q c_q ++ (s_t k a f_t g_t ++ (s_r k a r_r ++ (s_c k a f_c g_c ++ (P)))))) := hD
  refine lv_goto (tgt := 15) hx hb d_La_edition_9 (by decide) ?_
  refine lv_iconst (v := 0) hx hb d_La_edition_15 (by decide) ?_
  refine W.widen (k := 1) (n := 6) b_16.1 b_16.2 ?_
  exact W.iret (v := 0) hx hb hr (fun t ht hW => ⟨⟨_, ([(ou, .inl (k 1, 1, .inr (.inl (vp_updL of (y1 : Int32).toNatClampNeg y0.toInt64))))] ++ (s_q k a f_q r_q c_q ++ (s_t k a f_t g_t ++ (s_r k a r_r ++ (s_c k a f_c g_c ++ (P)))))), rfl, q_16, by rw [ht]; exact hP, va_K.moved hW.alike hK, hD⟩, hS.F ht⟩) hS.2.2 d_La_edition_16
set_option maxHeartbeats 1000000 in
set_option maxRecDepth 100000 in
theorem k_La_edition_12 {C : CT} (X : cT C "QuestionTextLaw" b_La_edition 4 (some .int) [⟨0, 9, 12, 13⟩]) (Post : Int32 → va_W → Prop) (x1 : Int32) (y0 : Nat) (f_q : FT) (r_q : Nat → Nat → Option Nat) (c_q : Nat) (f_t : FT) (g_t : GT) (r_r : Nat → Nat → Option Nat) (f_c : FT) (g_c : GT) (P : va_W) (ou : Nat) (of : Nat → Int64) (c0 s0 : Nat)
    (b_14 : c0 ≤ 1 ∧ s0 ≤ 6)
    (q_14 : Post (1) ([(ou, .inl (C.1.2.2.2.1 1, 1, .inr (.inl of)))] ++ (s_q C.1.2.2.2.1 C.1.2.2.2.2 f_q r_q c_q ++ (s_t C.1.2.2.2.1 C.1.2.2.2.2 f_t g_t ++ (s_r C.1.2.2.2.1 C.1.2.2.2.2 r_r ++ (s_c C.1.2.2.2.1 C.1.2.2.2.2 f_c g_c ++ (P))))))) : zc_La_edition C Post c0 s0 12 [(0, .ref (ad C.1 24)), (1, .int x1), (2, .ref ou)] [.ref y0] ([(ou, .inl (C.1.2.2.2.1 1, 1, .inr (.inl of)))] ++ (s_q C.1.2.2.2.1 C.1.2.2.2.2 f_q r_q c_q ++ (s_t C.1.2.2.2.1 C.1.2.2.2.2 f_t g_t ++ (s_r C.1.2.2.2.1 C.1.2.2.2.2 r_r ++ (s_c C.1.2.2.2.1 C.1.2.2.2.2 f_c g_c ++ (P)))))) := by
  obtain ⟨⟨l, dC, dI, k, a⟩, p, e, s, m, args, below, meth, c, A⟩ := C
  obtain ⟨⟨hx, hb, hr, htz, hown, hlocks, hml, hE, hK, hA⟩, hTab, hlt⟩ := X
  intro H locs ls hl hP hD hS
  have hl : lv_has ls 4 [(0, .ref (a 24)), (1, .int x1), (2, .ref ou)] := hl
  have hP : va_P (dC, dI) classes ([(ou, .inl (k 1, 1, .inr (.inl of)))] ++ (s_q k a f_q r_q c_q ++ (s_t k a f_t g_t ++ (s_r k a r_r ++ (s_c k a f_c g_c ++ (P)))))) H := hP
  have hD : va_D A ([(ou, .inl (k 1, 1, .inr (.inl of)))] ++ (s_q k a f_q r_q c_q ++ (s_t k a f_t g_t ++ (s_r k a r_r ++ (s_c k a f_c g_c ++ (P)))))) := hD
  show W p l e (z_rm 3 1 6) s m args below meth c H locs c0 s0 _ (F0 m 12 ls [.ref y0])
  refine lv_astore_n (lv' := [(3, .ref y0), (0, .ref (a 24)), (1, .int x1), (2, .ref ou)]) hx hb d_La_edition_12 rfl hl (by decide) rfl (fun ls hl => ?_)
  refine lv_iconst (v := 1) hx hb d_La_edition_13 (by decide) ?_
  refine W.widen (k := 1) (n := 6) b_14.1 b_14.2 ?_
  exact W.iret (v := 1) hx hb hr (fun t ht hW => ⟨⟨_, ([(ou, .inl (k 1, 1, .inr (.inl of)))] ++ (s_q k a f_q r_q c_q ++ (s_t k a f_t g_t ++ (s_r k a r_r ++ (s_c k a f_c g_c ++ (P)))))), rfl, q_14, by rw [ht]; exact hP, va_K.moved hW.alike hK, hD⟩, hS.F ht⟩) hS.2.2 d_La_edition_14
set_option maxHeartbeats 1000000 in
set_option maxRecDepth 100000 in
theorem e_La_edition (T : ST) (hlt : T.1.stackTraces = false) (Post : Int32 → va_W → Prop) (x1 : Int32) (f_q : FT) (r_q : Nat → Nat → Option Nat) (c_q : Nat) (f_t : FT) (g_t : GT) (r_r : Nat → Nat → Option Nat) (f_c : FT) (g_c : GT) (P : va_W) (ou : Nat) (of : Nat → Int64) (h : ∀ C : CT, C.1 = T → cT C "QuestionTextLaw" b_La_edition 4 (some .int) [⟨0, 9, 12, 13⟩] → zc_La_edition C Post 0 0 0 [(0, .ref (ad C.1 24)), (1, .int x1), (2, .ref ou)] [] ([(ou, .inl (C.1.2.2.2.1 1, 1, .inr (.inl of)))] ++ (s_q C.1.2.2.2.1 C.1.2.2.2.2 f_q r_q c_q ++ (s_t C.1.2.2.2.1 C.1.2.2.2.2 f_t g_t ++ (s_r C.1.2.2.2.1 C.1.2.2.2.2 r_r ++ (s_c C.1.2.2.2.1 C.1.2.2.2.2 f_c g_c ++ (P))))))) : uI T y_La_edition (Cond.codeWith y_La_edition b_La_edition 4 (some .int) [(0, 9, 12, 13)]) 3 1 6 [.ref (ad T 24), .int x1, .ref ou] ([(ou, .inl (T.2.2.2.1 1, 1, .inr (.inl of)))] ++ (s_q T.2.2.2.1 T.2.2.2.2 f_q r_q c_q ++ (s_t T.2.2.2.1 T.2.2.2.2 f_t g_t ++ (s_r T.2.2.2.1 T.2.2.2.2 r_r ++ (s_c T.2.2.2.1 T.2.2.2.2 f_c g_c ++ (P)))))) Post := by
  obtain ⟨l, dC, dI, k, a⟩ := T
  intro sz
  refine va_MetW (cc := b_La_edition) (maxL := 4) (ret := (some .int)) (by decide) rfl ?_
  intro p e s m args below meth c s₁ B hml hv
  obtain ⟨rfl, hsz, hE, hP, hK, hD0⟩ := hv
  have hts := atoms_spec (ws := (Cond.codeWith y_La_edition b_La_edition 4 (some .int) [(0, 9, 12, 13)]) :: z_T) B.pre
  have htz : ∀ w ∈ z_T, w.before _ s = true := fun w h => hts w (z_cons w h)
  subst hsz
  have hD := hD0.self (sz := s.heap.size)
  generalize hAe : va_A ([(ou, .inl (k 1, 1, .inr (.inl of)))] ++ (s_q k a f_q r_q c_q ++ (s_t k a f_t g_t ++ (s_r k a r_r ++ (s_c k a f_c g_c ++ (P)))))) s.heap.size = A at hD hE ⊢
  have hA : ∀ q : Nat, s.heap.size ≤ q → A q := fun q h => by rw [← hAe]; exact Or.inr h
  have hl := lv_entry ([.ref (a 24), .int x1, .ref ou]) (n := 4) (Nat.le_of_ble_eq_true rfl)
  rw [lg_entry_eq]
  generalize (lg_sl ([.ref (a 24), .int x1, .ref ou]) ++ List.replicate (4 - (lg_sl ([.ref (a 24), .int x1, .ref ou])).length) Slot.unset).toArray = ls at hl ⊢
  have hTab := vx_table (x := y_La_edition) B (htz _ m_La_edition)
  exact h ((l, dC, dI, k, a), p, e, s, m, ([.ref (a 24), .int x1, .ref ou] : List Value).toArray, below, meth, c, A) rfl ⟨⟨B.exec, B.bytes, B.returns, htz, findClass_of_methodNamed B.named, B.notSynchronized, hml, hE, hK, hA⟩, hTab, hlt⟩ s.heap [] ls hl hP hD va_S.rf
def zc_La_first (C : CT) (Post : Int32 → va_W → Prop) (c0 s0 pc : Nat) (loc : List (Nat × Value)) (st : List Value) (ws : va_W) : Prop := zW C (z_rm 3 1 6) 4 (oI C 1 6 Post) c0 s0 pc loc st ws
set_option maxHeartbeats 1000000 in
set_option maxRecDepth 100000 in
theorem k_La_first_0 {C : CT} (X : cT C "QuestionTextLaw" b_La_first 4 (some .int) [⟨0, 9, 12, 13⟩]) (Post : Int32 → va_W → Prop) {P_4 : Int32 → va_W → Prop} {X_4 : String → va_W → Prop} (x1 : Int32) (f_q : FT) (r_q : Nat → Nat → Option Nat) (c_q : Nat) (f_t : FT) (g_t : GT) (r_r : Nat → Nat → Option Nat) (f_c : FT) (g_c : GT) (P : va_W) (ou : Nat) (of : Nat → Int64) (c0 s0 : Nat)
    (b_4 : c0 + 1 ≤ 1 ∧ s0 + 6 ≤ 6)
    (m_4 : xI C.1 y_Q_first (Cond.code y_Q_first b_Q_first 3 (some .int)) 2 1 6 [.ref (ad C.1 24), .int x1] (s_q C.1.2.2.2.1 C.1.2.2.2.2 f_q r_q c_q ++ (s_t C.1.2.2.2.1 C.1.2.2.2.2 f_t g_t ++ (s_r C.1.2.2.2.1 C.1.2.2.2.2 r_r ++ (s_c C.1.2.2.2.1 C.1.2.2.2.2 f_c g_c ++ (P))))) P_4 X_4)
    (k_4 : ∀ (r : Int32) (u : va_W), P_4 r u → zc_La_first C Post (c0 + 1) (s0 + 6) 7 [(0, .ref (ad C.1 24)), (1, .int x1), (2, .ref ou)] [.int r, .int 0, .ref ou] ([(ou, .inl (C.1.2.2.2.1 1, 1, .inr (.inl of)))] ++ (u)))
    (x_4 : ∀ (E : String) (u : va_W), X_4 E u → E = "java/lang/IllegalArgumentException" ∧ ∀ q9 : Nat, zc_La_first C Post (c0 + 1) (s0 + 6) 12 [(0, .ref (ad C.1 24)), (1, .int x1), (2, .ref ou)] [.ref q9] ([(ou, .inl (C.1.2.2.2.1 1, 1, .inr (.inl of)))] ++ (u))) : zc_La_first C Post c0 s0 0 [(0, .ref (ad C.1 24)), (1, .int x1), (2, .ref ou)] [] ([(ou, .inl (C.1.2.2.2.1 1, 1, .inr (.inl of)))] ++ (s_q C.1.2.2.2.1 C.1.2.2.2.2 f_q r_q c_q ++ (s_t C.1.2.2.2.1 C.1.2.2.2.2 f_t g_t ++ (s_r C.1.2.2.2.1 C.1.2.2.2.2 r_r ++ (s_c C.1.2.2.2.1 C.1.2.2.2.2 f_c g_c ++ (P)))))) := by
  obtain ⟨⟨l, dC, dI, k, a⟩, p, e, s, m, args, below, meth, c, A⟩ := C
  obtain ⟨⟨hx, hb, hr, htz, hown, hlocks, hml, hE, hK, hA⟩, hTab, hlt⟩ := X
  intro H locs ls hl hP hD hS
  have hl : lv_has ls 4 [(0, .ref (a 24)), (1, .int x1), (2, .ref ou)] := hl
  have hP : va_P (dC, dI) classes ([(ou, .inl (k 1, 1, .inr (.inl of)))] ++ (s_q k a f_q r_q c_q ++ (s_t k a f_t g_t ++ (s_r k a r_r ++ (s_c k a f_c g_c ++ (P)))))) H := hP
  have hD : va_D A ([(ou, .inl (k 1, 1, .inr (.inl of)))] ++ (s_q k a f_q r_q c_q ++ (s_t k a f_t g_t ++ (s_r k a r_r ++ (s_c k a f_c g_c ++ (P)))))) := hD
  show W p l e (z_rm 3 1 6) s m args below meth c H locs c0 s0 _ (F0 m 0 ls [])
  refine lv_aload_n hx hb d_La_first_0 rfl (lv_at hl 2 rfl) ?_
  refine lv_iconst (v := 0) hx hb d_La_first_1 (by decide) ?_
  refine lv_aload_n hx hb d_La_first_2 rfl (lv_at hl 0 rfl) ?_
  refine lv_iload_n hx hb d_La_first_3 rfl (lv_at hl 1 rfl) ?_
  have hPf : va_P (dC, dI) classes (([(ou, .inl (k 1, 1, .inr (.inl of)))]) ++ ((s_q k a f_q r_q c_q ++ (s_t k a f_t g_t ++ (s_r k a r_r ++ (s_c k a f_c g_c ++ (P))))) ++ ([]))) H := by rw [List.append_nil]; exact hP
  have hDf : va_D A (([(ou, .inl (k 1, 1, .inr (.inl of)))]) ++ ((s_q k a f_q r_q c_q ++ (s_t k a f_t g_t ++ (s_r k a r_r ++ (s_c k a f_c g_c ++ (P))))) ++ ([]))) := by rw [List.append_nil]; exact hD
  have hFc := zfree hDf hS hA
  refine vx_calli (vx_runV (As := [.int x1]) (rest := [.int 0, .ref ou]) ⟨hx, hb, hml, hown, htz⟩ (m_4 H.size) (cwV 1 htz (z_gV (fun _ h => h) km_La_25 in_Q_first se_Q_first ini_Q m_Q_first) rfl rfl rfl (by decide +kernel) ⟨(Nat.le_of_ble_eq_true rfl), (Nat.le_of_ble_eq_true rfl)⟩) ⟨z_blind, va_recv hK hP (ci := 0) (q0 := 1) rfl rfl, fun U hU hW => ⟨rfl, by rw [hU], hE.call hS hFc hU hW, by rw [hU]; exact (zPc hPf), va_K.moved hW.alike hK, (zDc hDf)⟩⟩ rfl rfl hl.1 rfl (lv_room (Nat.le_of_ble_eq_true rfl)) d_La_first_4 b_4) hS (fun q _ h => hFc q h) hFc (fun q _ h => hFc q h) (fun E ce q9 u t H1 locs ht hvm hw hB hz1 hk1 hS hce hcv hcl => ?_) (fun r u t H1 locs ht hvm hw hB hz1 hk1 hS => ?_)
  · obtain ⟨hxe, hP1, hK1, hD1⟩ := hB
    rw [ht] at hP1
    obtain ⟨hP, hD⟩ := zf hPf hDf hk1 hFc hP1 hD1
    rw [List.append_nil] at hP hD
    obtain ⟨rfl, hz9⟩ := x_4 E u hxe
    refine vx_catch hown [] ⟨0, 9, 12, 13⟩ [] hTab (fun z hz => nomatch hz) (by decide) (by decide) (htz _ kc_La_13) (va_Nw.use rfl (hE.2.1 _ ca_IAE)) hce hcv hcl ?_
    exact hz9 q9 H1 locs ls (lv_sub hl [0, 1, 2] rfl) hP hD hS
  · obtain ⟨hP1, hK1, hD1⟩ := hB
    rw [ht] at hP1
    obtain ⟨hP, hD⟩ := zf hPf hDf hk1 hFc hP1 hD1
    rw [List.append_nil] at hP hD
    exact k_4 r _ hw H1 locs ls (lv_sub hl [0, 1, 2] rfl) hP hD hS
set_option maxHeartbeats 1000000 in
set_option maxRecDepth 100000 in
theorem k_La_first_7 {C : CT} (X : cT C "QuestionTextLaw" b_La_first 4 (some .int) [⟨0, 9, 12, 13⟩]) (Post : Int32 → va_W → Prop) (x1 : Int32) (y0 : Int32) (y1 : Int32) (f_q : FT) (r_q : Nat → Nat → Option Nat) (c_q : Nat) (f_t : FT) (g_t : GT) (r_r : Nat → Nat → Option Nat) (f_c : FT) (g_c : GT) (P : va_W) (ou : Nat) (of : Nat → Int64) (c0 s0 : Nat)
    (h_8 : vp_in (y1) 1)
    (b_16 : c0 ≤ 1 ∧ s0 ≤ 6)
    (q_16 : Post (0) ([(ou, .inl (C.1.2.2.2.1 1, 1, .inr (.inl (vp_updL of (y1 : Int32).toNatClampNeg y0.toInt64))))] ++ (s_q C.1.2.2.2.1 C.1.2.2.2.2 f_q r_q c_q ++ (s_t C.1.2.2.2.1 C.1.2.2.2.2 f_t g_t ++ (s_r C.1.2.2.2.1 C.1.2.2.2.2 r_r ++ (s_c C.1.2.2.2.1 C.1.2.2.2.2 f_c g_c ++ (P))))))) : zc_La_first C Post c0 s0 7 [(0, .ref (ad C.1 24)), (1, .int x1), (2, .ref ou)] [.int y0, .int y1, .ref ou] ([(ou, .inl (C.1.2.2.2.1 1, 1, .inr (.inl of)))] ++ (s_q C.1.2.2.2.1 C.1.2.2.2.2 f_q r_q c_q ++ (s_t C.1.2.2.2.1 C.1.2.2.2.2 f_t g_t ++ (s_r C.1.2.2.2.1 C.1.2.2.2.2 r_r ++ (s_c C.1.2.2.2.1 C.1.2.2.2.2 f_c g_c ++ (P)))))) := by
  obtain ⟨⟨l, dC, dI, k, a⟩, p, e, s, m, args, below, meth, c, A⟩ := C
  obtain ⟨⟨hx, hb, hr, htz, hown, hlocks, hml, hE, hK, hA⟩, hTab, hlt⟩ := X
  intro H locs ls hl hP hD hS
  have hl : lv_has ls 4 [(0, .ref (a 24)), (1, .int x1), (2, .ref ou)] := hl
  have hP : va_P (dC, dI) classes ([(ou, .inl (k 1, 1, .inr (.inl of)))] ++ (s_q k a f_q r_q c_q ++ (s_t k a f_t g_t ++ (s_r k a r_r ++ (s_c k a f_c g_c ++ (P)))))) H := hP
  have hD : va_D A ([(ou, .inl (k 1, 1, .inr (.inl of)))] ++ (s_q k a f_q r_q c_q ++ (s_t k a f_t g_t ++ (s_r k a r_r ++ (s_c k a f_c g_c ++ (P)))))) := hD
  show W p l e (z_rm 3 1 6) s m args below meth c H locs c0 s0 _ (F0 m 7 ls [.int y0, .int y1, .ref ou])
  refine lv_i2l (v := y0.toInt64) hx hb d_La_first_7 rfl ?_
  refine va_last hx hb hK hP hD hS 0 1 rfl rfl h_8 d_La_first_8 (fun H locs hP hD hS => ?_)
  have hP : va_P (dC, dI) classes ([(ou, .inl (k 1, 1, .inr (.inl (vp_updL of (y1 : Int32).toNatClampNeg y0.toInt64))))] ++ (s_q k a f_q r_q c_q ++ (s_t k a f_t g_t ++ (s_r k a r_r ++ (s_c k a f_c g_c ++ (P)))))) H := hP
  have hD : va_D A ([(ou, .inl (k 1, 1, .inr (.inl (vp_updL of (y1 : Int32).toNatClampNeg y0.toInt64))))] ++ (s_q k a f_q r_q c_q ++ (s_t k a f_t g_t ++ (s_r k a r_r ++ (s_c k a f_c g_c ++ (P)))))) := hD
  refine lv_goto (tgt := 15) hx hb d_La_first_9 (by decide) ?_
  refine lv_iconst (v := 0) hx hb d_La_first_15 (by decide) ?_
  refine W.widen (k := 1) (n := 6) b_16.1 b_16.2 ?_
  exact W.iret (v := 0) hx hb hr (fun t ht hW => ⟨⟨_, ([(ou, .inl (k 1, 1, .inr (.inl (vp_updL of (y1 : Int32).toNatClampNeg y0.toInt64))))] ++ (s_q k a f_q r_q c_q ++ (s_t k a f_t g_t ++ (s_r k a r_r ++ (s_c k a f_c g_c ++ (P)))))), rfl, q_16, by rw [ht]; exact hP, va_K.moved hW.alike hK, hD⟩, hS.F ht⟩) hS.2.2 d_La_first_16
set_option maxHeartbeats 1000000 in
set_option maxRecDepth 100000 in
theorem k_La_first_12 {C : CT} (X : cT C "QuestionTextLaw" b_La_first 4 (some .int) [⟨0, 9, 12, 13⟩]) (Post : Int32 → va_W → Prop) (x1 : Int32) (y0 : Nat) (f_q : FT) (r_q : Nat → Nat → Option Nat) (c_q : Nat) (f_t : FT) (g_t : GT) (r_r : Nat → Nat → Option Nat) (f_c : FT) (g_c : GT) (P : va_W) (ou : Nat) (of : Nat → Int64) (c0 s0 : Nat)
    (b_14 : c0 ≤ 1 ∧ s0 ≤ 6)
    (q_14 : Post (1) ([(ou, .inl (C.1.2.2.2.1 1, 1, .inr (.inl of)))] ++ (s_q C.1.2.2.2.1 C.1.2.2.2.2 f_q r_q c_q ++ (s_t C.1.2.2.2.1 C.1.2.2.2.2 f_t g_t ++ (s_r C.1.2.2.2.1 C.1.2.2.2.2 r_r ++ (s_c C.1.2.2.2.1 C.1.2.2.2.2 f_c g_c ++ (P))))))) : zc_La_first C Post c0 s0 12 [(0, .ref (ad C.1 24)), (1, .int x1), (2, .ref ou)] [.ref y0] ([(ou, .inl (C.1.2.2.2.1 1, 1, .inr (.inl of)))] ++ (s_q C.1.2.2.2.1 C.1.2.2.2.2 f_q r_q c_q ++ (s_t C.1.2.2.2.1 C.1.2.2.2.2 f_t g_t ++ (s_r C.1.2.2.2.1 C.1.2.2.2.2 r_r ++ (s_c C.1.2.2.2.1 C.1.2.2.2.2 f_c g_c ++ (P)))))) := by
  obtain ⟨⟨l, dC, dI, k, a⟩, p, e, s, m, args, below, meth, c, A⟩ := C
  obtain ⟨⟨hx, hb, hr, htz, hown, hlocks, hml, hE, hK, hA⟩, hTab, hlt⟩ := X
  intro H locs ls hl hP hD hS
  have hl : lv_has ls 4 [(0, .ref (a 24)), (1, .int x1), (2, .ref ou)] := hl
  have hP : va_P (dC, dI) classes ([(ou, .inl (k 1, 1, .inr (.inl of)))] ++ (s_q k a f_q r_q c_q ++ (s_t k a f_t g_t ++ (s_r k a r_r ++ (s_c k a f_c g_c ++ (P)))))) H := hP
  have hD : va_D A ([(ou, .inl (k 1, 1, .inr (.inl of)))] ++ (s_q k a f_q r_q c_q ++ (s_t k a f_t g_t ++ (s_r k a r_r ++ (s_c k a f_c g_c ++ (P)))))) := hD
  show W p l e (z_rm 3 1 6) s m args below meth c H locs c0 s0 _ (F0 m 12 ls [.ref y0])
  refine lv_astore_n (lv' := [(3, .ref y0), (0, .ref (a 24)), (1, .int x1), (2, .ref ou)]) hx hb d_La_first_12 rfl hl (by decide) rfl (fun ls hl => ?_)
  refine lv_iconst (v := 1) hx hb d_La_first_13 (by decide) ?_
  refine W.widen (k := 1) (n := 6) b_14.1 b_14.2 ?_
  exact W.iret (v := 1) hx hb hr (fun t ht hW => ⟨⟨_, ([(ou, .inl (k 1, 1, .inr (.inl of)))] ++ (s_q k a f_q r_q c_q ++ (s_t k a f_t g_t ++ (s_r k a r_r ++ (s_c k a f_c g_c ++ (P)))))), rfl, q_14, by rw [ht]; exact hP, va_K.moved hW.alike hK, hD⟩, hS.F ht⟩) hS.2.2 d_La_first_14
set_option maxHeartbeats 1000000 in
set_option maxRecDepth 100000 in
theorem e_La_first (T : ST) (hlt : T.1.stackTraces = false) (Post : Int32 → va_W → Prop) (x1 : Int32) (f_q : FT) (r_q : Nat → Nat → Option Nat) (c_q : Nat) (f_t : FT) (g_t : GT) (r_r : Nat → Nat → Option Nat) (f_c : FT) (g_c : GT) (P : va_W) (ou : Nat) (of : Nat → Int64) (h : ∀ C : CT, C.1 = T → cT C "QuestionTextLaw" b_La_first 4 (some .int) [⟨0, 9, 12, 13⟩] → zc_La_first C Post 0 0 0 [(0, .ref (ad C.1 24)), (1, .int x1), (2, .ref ou)] [] ([(ou, .inl (C.1.2.2.2.1 1, 1, .inr (.inl of)))] ++ (s_q C.1.2.2.2.1 C.1.2.2.2.2 f_q r_q c_q ++ (s_t C.1.2.2.2.1 C.1.2.2.2.2 f_t g_t ++ (s_r C.1.2.2.2.1 C.1.2.2.2.2 r_r ++ (s_c C.1.2.2.2.1 C.1.2.2.2.2 f_c g_c ++ (P))))))) : uI T y_La_first (Cond.codeWith y_La_first b_La_first 4 (some .int) [(0, 9, 12, 13)]) 3 1 6 [.ref (ad T 24), .int x1, .ref ou] ([(ou, .inl (T.2.2.2.1 1, 1, .inr (.inl of)))] ++ (s_q T.2.2.2.1 T.2.2.2.2 f_q r_q c_q ++ (s_t T.2.2.2.1 T.2.2.2.2 f_t g_t ++ (s_r T.2.2.2.1 T.2.2.2.2 r_r ++ (s_c T.2.2.2.1 T.2.2.2.2 f_c g_c ++ (P)))))) Post := by
  obtain ⟨l, dC, dI, k, a⟩ := T
  intro sz
  refine va_MetW (cc := b_La_first) (maxL := 4) (ret := (some .int)) (by decide) rfl ?_
  intro p e s m args below meth c s₁ B hml hv
  obtain ⟨rfl, hsz, hE, hP, hK, hD0⟩ := hv
  have hts := atoms_spec (ws := (Cond.codeWith y_La_first b_La_first 4 (some .int) [(0, 9, 12, 13)]) :: z_T) B.pre
  have htz : ∀ w ∈ z_T, w.before _ s = true := fun w h => hts w (z_cons w h)
  subst hsz
  have hD := hD0.self (sz := s.heap.size)
  generalize hAe : va_A ([(ou, .inl (k 1, 1, .inr (.inl of)))] ++ (s_q k a f_q r_q c_q ++ (s_t k a f_t g_t ++ (s_r k a r_r ++ (s_c k a f_c g_c ++ (P)))))) s.heap.size = A at hD hE ⊢
  have hA : ∀ q : Nat, s.heap.size ≤ q → A q := fun q h => by rw [← hAe]; exact Or.inr h
  have hl := lv_entry ([.ref (a 24), .int x1, .ref ou]) (n := 4) (Nat.le_of_ble_eq_true rfl)
  rw [lg_entry_eq]
  generalize (lg_sl ([.ref (a 24), .int x1, .ref ou]) ++ List.replicate (4 - (lg_sl ([.ref (a 24), .int x1, .ref ou])).length) Slot.unset).toArray = ls at hl ⊢
  have hTab := vx_table (x := y_La_first) B (htz _ m_La_first)
  exact h ((l, dC, dI, k, a), p, e, s, m, ([.ref (a 24), .int x1, .ref ou] : List Value).toArray, below, meth, c, A) rfl ⟨⟨B.exec, B.bytes, B.returns, htz, findClass_of_methodNamed B.named, B.notSynchronized, hml, hE, hK, hA⟩, hTab, hlt⟩ s.heap [] ls hl hP hD va_S.rf
def zc_La_answer (C : CT) (Post : Int32 → va_W → Prop) (c0 s0 pc : Nat) (loc : List (Nat × Value)) (st : List Value) (ws : va_W) : Prop := zW C (z_rm 5 1 6) 4 (oI C 1 6 Post) c0 s0 pc loc st ws
set_option maxHeartbeats 1000000 in
set_option maxRecDepth 100000 in
theorem k_La_answer_0 {C : CT} (X : cT C "QuestionTextLaw" b_La_answer 4 (some .int) [⟨0, 9, 12, 13⟩, ⟨0, 9, 15, 15⟩]) (Post : Int32 → va_W → Prop) {P_4 : Int32 → va_W → Prop} {X_4 : String → va_W → Prop} (x1 : Int32) (f_q : FT) (r_q : Nat → Nat → Option Nat) (c_q : Nat) (f_t : FT) (g_t : GT) (r_r : Nat → Nat → Option Nat) (f_c : FT) (g_c : GT) (P : va_W) (ou : Nat) (of : Nat → Int64) (c0 s0 : Nat)
    (b_4 : c0 + 1 ≤ 1 ∧ s0 + 6 ≤ 6)
    (m_4 : xI C.1 y_Q_answer (Cond.code y_Q_answer b_Q_answer 5 (some .int)) 4 1 6 [.ref (ad C.1 24), .int x1] (s_q C.1.2.2.2.1 C.1.2.2.2.2 f_q r_q c_q ++ (s_t C.1.2.2.2.1 C.1.2.2.2.2 f_t g_t ++ (s_r C.1.2.2.2.1 C.1.2.2.2.2 r_r ++ (s_c C.1.2.2.2.1 C.1.2.2.2.2 f_c g_c ++ (P))))) P_4 X_4)
    (k_4 : ∀ (r : Int32) (u : va_W), P_4 r u → zc_La_answer C Post (c0 + 1) (s0 + 6) 7 [(0, .ref (ad C.1 24)), (1, .int x1), (2, .ref ou)] [.int r, .int 0, .ref ou] ([(ou, .inl (C.1.2.2.2.1 1, 1, .inr (.inl of)))] ++ (u)))
    (x_4 : ∀ (E : String) (u : va_W), X_4 E u → (E = "java/lang/IllegalArgumentException" ∧ ∀ q9 : Nat, zc_La_answer C Post (c0 + 1) (s0 + 6) 12 [(0, .ref (ad C.1 24)), (1, .int x1), (2, .ref ou)] [.ref q9] ([(ou, .inl (C.1.2.2.2.1 1, 1, .inr (.inl of)))] ++ (u))) ∨ (E = "java/lang/IllegalStateException" ∧ ∀ q9 : Nat, zc_La_answer C Post (c0 + 1) (s0 + 6) 15 [(0, .ref (ad C.1 24)), (1, .int x1), (2, .ref ou)] [.ref q9] ([(ou, .inl (C.1.2.2.2.1 1, 1, .inr (.inl of)))] ++ (u)))) : zc_La_answer C Post c0 s0 0 [(0, .ref (ad C.1 24)), (1, .int x1), (2, .ref ou)] [] ([(ou, .inl (C.1.2.2.2.1 1, 1, .inr (.inl of)))] ++ (s_q C.1.2.2.2.1 C.1.2.2.2.2 f_q r_q c_q ++ (s_t C.1.2.2.2.1 C.1.2.2.2.2 f_t g_t ++ (s_r C.1.2.2.2.1 C.1.2.2.2.2 r_r ++ (s_c C.1.2.2.2.1 C.1.2.2.2.2 f_c g_c ++ (P)))))) := by
  obtain ⟨⟨l, dC, dI, k, a⟩, p, e, s, m, args, below, meth, c, A⟩ := C
  obtain ⟨⟨hx, hb, hr, htz, hown, hlocks, hml, hE, hK, hA⟩, hTab, hlt⟩ := X
  intro H locs ls hl hP hD hS
  have hl : lv_has ls 4 [(0, .ref (a 24)), (1, .int x1), (2, .ref ou)] := hl
  have hP : va_P (dC, dI) classes ([(ou, .inl (k 1, 1, .inr (.inl of)))] ++ (s_q k a f_q r_q c_q ++ (s_t k a f_t g_t ++ (s_r k a r_r ++ (s_c k a f_c g_c ++ (P)))))) H := hP
  have hD : va_D A ([(ou, .inl (k 1, 1, .inr (.inl of)))] ++ (s_q k a f_q r_q c_q ++ (s_t k a f_t g_t ++ (s_r k a r_r ++ (s_c k a f_c g_c ++ (P)))))) := hD
  show W p l e (z_rm 5 1 6) s m args below meth c H locs c0 s0 _ (F0 m 0 ls [])
  refine lv_aload_n hx hb d_La_answer_0 rfl (lv_at hl 2 rfl) ?_
  refine lv_iconst (v := 0) hx hb d_La_answer_1 (by decide) ?_
  refine lv_aload_n hx hb d_La_answer_2 rfl (lv_at hl 0 rfl) ?_
  refine lv_iload_n hx hb d_La_answer_3 rfl (lv_at hl 1 rfl) ?_
  have hPf : va_P (dC, dI) classes (([(ou, .inl (k 1, 1, .inr (.inl of)))]) ++ ((s_q k a f_q r_q c_q ++ (s_t k a f_t g_t ++ (s_r k a r_r ++ (s_c k a f_c g_c ++ (P))))) ++ ([]))) H := by rw [List.append_nil]; exact hP
  have hDf : va_D A (([(ou, .inl (k 1, 1, .inr (.inl of)))]) ++ ((s_q k a f_q r_q c_q ++ (s_t k a f_t g_t ++ (s_r k a r_r ++ (s_c k a f_c g_c ++ (P))))) ++ ([]))) := by rw [List.append_nil]; exact hD
  have hFc := zfree hDf hS hA
  refine vx_calli (vx_runV (As := [.int x1]) (rest := [.int 0, .ref ou]) ⟨hx, hb, hml, hown, htz⟩ (m_4 H.size) (cwV 1 htz (z_gV (fun _ h => h) km_La_28 in_Q_answer se_Q_answer ini_Q m_Q_answer) rfl rfl rfl (by decide +kernel) ⟨(Nat.le_of_ble_eq_true rfl), (Nat.le_of_ble_eq_true rfl)⟩) ⟨z_blind, va_recv hK hP (ci := 0) (q0 := 1) rfl rfl, fun U hU hW => ⟨rfl, by rw [hU], hE.call hS hFc hU hW, by rw [hU]; exact (zPc hPf), va_K.moved hW.alike hK, (zDc hDf)⟩⟩ rfl rfl hl.1 rfl (lv_room (Nat.le_of_ble_eq_true rfl)) d_La_answer_4 b_4) hS (fun q _ h => hFc q h) hFc (fun q _ h => hFc q h) (fun E ce q9 u t H1 locs ht hvm hw hB hz1 hk1 hS hce hcv hcl => ?_) (fun r u t H1 locs ht hvm hw hB hz1 hk1 hS => ?_)
  · obtain ⟨hxe, hP1, hK1, hD1⟩ := hB
    rw [ht] at hP1
    obtain ⟨hP, hD⟩ := zf hPf hDf hk1 hFc hP1 hD1
    rw [List.append_nil] at hP hD
    rcases x_4 E u hxe with ⟨rfl, hz9⟩ | ⟨rfl, hz9⟩
    · refine vx_catch hown [] ⟨0, 9, 12, 13⟩ [⟨0, 9, 15, 15⟩] hTab (fun z hz => nomatch hz) (by decide) (by decide) (htz _ kc_La_13) (va_Nw.use rfl (hE.2.1 _ ca_IAE)) hce hcv hcl ?_
      exact hz9 q9 H1 locs ls (lv_sub hl [0, 1, 2] rfl) hP hD hS
    · refine vx_catch hown [⟨0, 9, 12, 13⟩] ⟨0, 9, 15, 15⟩ [] hTab (fun z hz => by rw [List.mem_singleton.mp hz]; exact Or.inr ⟨by decide, _, htz _ kc_La_13, hE.2.2.2.2.2.2⟩) (by decide) (by decide) (htz _ kc_La_15) (va_Nw.use rfl (hE.2.1 _ ca_ISE)) hce hcv hcl ?_
      exact hz9 q9 H1 locs ls (lv_sub hl [0, 1, 2] rfl) hP hD hS
  · obtain ⟨hP1, hK1, hD1⟩ := hB
    rw [ht] at hP1
    obtain ⟨hP, hD⟩ := zf hPf hDf hk1 hFc hP1 hD1
    rw [List.append_nil] at hP hD
    exact k_4 r _ hw H1 locs ls (lv_sub hl [0, 1, 2] rfl) hP hD hS
set_option maxHeartbeats 1000000 in
set_option maxRecDepth 100000 in
theorem k_La_answer_7 {C : CT} (X : cT C "QuestionTextLaw" b_La_answer 4 (some .int) [⟨0, 9, 12, 13⟩, ⟨0, 9, 15, 15⟩]) (Post : Int32 → va_W → Prop) (x1 : Int32) (y0 : Int32) (y1 : Int32) (f_q : FT) (r_q : Nat → Nat → Option Nat) (c_q : Nat) (f_t : FT) (g_t : GT) (r_r : Nat → Nat → Option Nat) (f_c : FT) (g_c : GT) (P : va_W) (ou : Nat) (of : Nat → Int64) (c0 s0 : Nat)
    (h_8 : vp_in (y1) 1)
    (b_19 : c0 ≤ 1 ∧ s0 ≤ 6)
    (q_19 : Post (0) ([(ou, .inl (C.1.2.2.2.1 1, 1, .inr (.inl (vp_updL of (y1 : Int32).toNatClampNeg y0.toInt64))))] ++ (s_q C.1.2.2.2.1 C.1.2.2.2.2 f_q r_q c_q ++ (s_t C.1.2.2.2.1 C.1.2.2.2.2 f_t g_t ++ (s_r C.1.2.2.2.1 C.1.2.2.2.2 r_r ++ (s_c C.1.2.2.2.1 C.1.2.2.2.2 f_c g_c ++ (P))))))) : zc_La_answer C Post c0 s0 7 [(0, .ref (ad C.1 24)), (1, .int x1), (2, .ref ou)] [.int y0, .int y1, .ref ou] ([(ou, .inl (C.1.2.2.2.1 1, 1, .inr (.inl of)))] ++ (s_q C.1.2.2.2.1 C.1.2.2.2.2 f_q r_q c_q ++ (s_t C.1.2.2.2.1 C.1.2.2.2.2 f_t g_t ++ (s_r C.1.2.2.2.1 C.1.2.2.2.2 r_r ++ (s_c C.1.2.2.2.1 C.1.2.2.2.2 f_c g_c ++ (P)))))) := by
  obtain ⟨⟨l, dC, dI, k, a⟩, p, e, s, m, args, below, meth, c, A⟩ := C
  obtain ⟨⟨hx, hb, hr, htz, hown, hlocks, hml, hE, hK, hA⟩, hTab, hlt⟩ := X
  intro H locs ls hl hP hD hS
  have hl : lv_has ls 4 [(0, .ref (a 24)), (1, .int x1), (2, .ref ou)] := hl
  have hP : va_P (dC, dI) classes ([(ou, .inl (k 1, 1, .inr (.inl of)))] ++ (s_q k a f_q r_q c_q ++ (s_t k a f_t g_t ++ (s_r k a r_r ++ (s_c k a f_c g_c ++ (P)))))) H := hP
  have hD : va_D A ([(ou, .inl (k 1, 1, .inr (.inl of)))] ++ (s_q k a f_q r_q c_q ++ (s_t k a f_t g_t ++ (s_r k a r_r ++ (s_c k a f_c g_c ++ (P)))))) := hD
  show W p l e (z_rm 5 1 6) s m args below meth c H locs c0 s0 _ (F0 m 7 ls [.int y0, .int y1, .ref ou])
  refine lv_i2l (v := y0.toInt64) hx hb d_La_answer_7 rfl ?_
  refine va_last hx hb hK hP hD hS 0 1 rfl rfl h_8 d_La_answer_8 (fun H locs hP hD hS => ?_)
  have hP : va_P (dC, dI) classes ([(ou, .inl (k 1, 1, .inr (.inl (vp_updL of (y1 : Int32).toNatClampNeg y0.toInt64))))] ++ (s_q k a f_q r_q c_q ++ (s_t k a f_t g_t ++ (s_r k a r_r ++ (s_c k a f_c g_c ++ (P)))))) H := hP
  have hD : va_D A ([(ou, .inl (k 1, 1, .inr (.inl (vp_updL of (y1 : Int32).toNatClampNeg y0.toInt64))))] ++ (s_q k a f_q r_q c_q ++ (s_t k a f_t g_t ++ (s_r k a r_r ++ (s_c k a f_c g_c ++ (P)))))) := hD
  refine lv_goto (tgt := 18) hx hb d_La_answer_9 (by decide) ?_
  refine lv_iconst (v := 0) hx hb d_La_answer_18 (by decide) ?_
  refine W.widen (k := 1) (n := 6) b_19.1 b_19.2 ?_
  exact W.iret (v := 0) hx hb hr (fun t ht hW => ⟨⟨_, ([(ou, .inl (k 1, 1, .inr (.inl (vp_updL of (y1 : Int32).toNatClampNeg y0.toInt64))))] ++ (s_q k a f_q r_q c_q ++ (s_t k a f_t g_t ++ (s_r k a r_r ++ (s_c k a f_c g_c ++ (P)))))), rfl, q_19, by rw [ht]; exact hP, va_K.moved hW.alike hK, hD⟩, hS.F ht⟩) hS.2.2 d_La_answer_19
set_option maxHeartbeats 1000000 in
set_option maxRecDepth 100000 in
theorem k_La_answer_12 {C : CT} (X : cT C "QuestionTextLaw" b_La_answer 4 (some .int) [⟨0, 9, 12, 13⟩, ⟨0, 9, 15, 15⟩]) (Post : Int32 → va_W → Prop) (x1 : Int32) (y0 : Nat) (f_q : FT) (r_q : Nat → Nat → Option Nat) (c_q : Nat) (f_t : FT) (g_t : GT) (r_r : Nat → Nat → Option Nat) (f_c : FT) (g_c : GT) (P : va_W) (ou : Nat) (of : Nat → Int64) (c0 s0 : Nat)
    (b_14 : c0 ≤ 1 ∧ s0 ≤ 6)
    (q_14 : Post (1) ([(ou, .inl (C.1.2.2.2.1 1, 1, .inr (.inl of)))] ++ (s_q C.1.2.2.2.1 C.1.2.2.2.2 f_q r_q c_q ++ (s_t C.1.2.2.2.1 C.1.2.2.2.2 f_t g_t ++ (s_r C.1.2.2.2.1 C.1.2.2.2.2 r_r ++ (s_c C.1.2.2.2.1 C.1.2.2.2.2 f_c g_c ++ (P))))))) : zc_La_answer C Post c0 s0 12 [(0, .ref (ad C.1 24)), (1, .int x1), (2, .ref ou)] [.ref y0] ([(ou, .inl (C.1.2.2.2.1 1, 1, .inr (.inl of)))] ++ (s_q C.1.2.2.2.1 C.1.2.2.2.2 f_q r_q c_q ++ (s_t C.1.2.2.2.1 C.1.2.2.2.2 f_t g_t ++ (s_r C.1.2.2.2.1 C.1.2.2.2.2 r_r ++ (s_c C.1.2.2.2.1 C.1.2.2.2.2 f_c g_c ++ (P)))))) := by
  obtain ⟨⟨l, dC, dI, k, a⟩, p, e, s, m, args, below, meth, c, A⟩ := C
  obtain ⟨⟨hx, hb, hr, htz, hown, hlocks, hml, hE, hK, hA⟩, hTab, hlt⟩ := X
  intro H locs ls hl hP hD hS
  have hl : lv_has ls 4 [(0, .ref (a 24)), (1, .int x1), (2, .ref ou)] := hl
  have hP : va_P (dC, dI) classes ([(ou, .inl (k 1, 1, .inr (.inl of)))] ++ (s_q k a f_q r_q c_q ++ (s_t k a f_t g_t ++ (s_r k a r_r ++ (s_c k a f_c g_c ++ (P)))))) H := hP
  have hD : va_D A ([(ou, .inl (k 1, 1, .inr (.inl of)))] ++ (s_q k a f_q r_q c_q ++ (s_t k a f_t g_t ++ (s_r k a r_r ++ (s_c k a f_c g_c ++ (P)))))) := hD
  show W p l e (z_rm 5 1 6) s m args below meth c H locs c0 s0 _ (F0 m 12 ls [.ref y0])
  refine lv_astore_n (lv' := [(3, .ref y0), (0, .ref (a 24)), (1, .int x1), (2, .ref ou)]) hx hb d_La_answer_12 rfl hl (by decide) rfl (fun ls hl => ?_)
  refine lv_iconst (v := 1) hx hb d_La_answer_13 (by decide) ?_
  refine W.widen (k := 1) (n := 6) b_14.1 b_14.2 ?_
  exact W.iret (v := 1) hx hb hr (fun t ht hW => ⟨⟨_, ([(ou, .inl (k 1, 1, .inr (.inl of)))] ++ (s_q k a f_q r_q c_q ++ (s_t k a f_t g_t ++ (s_r k a r_r ++ (s_c k a f_c g_c ++ (P)))))), rfl, q_14, by rw [ht]; exact hP, va_K.moved hW.alike hK, hD⟩, hS.F ht⟩) hS.2.2 d_La_answer_14
set_option maxHeartbeats 1000000 in
set_option maxRecDepth 100000 in
theorem k_La_answer_15 {C : CT} (X : cT C "QuestionTextLaw" b_La_answer 4 (some .int) [⟨0, 9, 12, 13⟩, ⟨0, 9, 15, 15⟩]) (Post : Int32 → va_W → Prop) (x1 : Int32) (y0 : Nat) (f_q : FT) (r_q : Nat → Nat → Option Nat) (c_q : Nat) (f_t : FT) (g_t : GT) (r_r : Nat → Nat → Option Nat) (f_c : FT) (g_c : GT) (P : va_W) (ou : Nat) (of : Nat → Int64) (c0 s0 : Nat)
    (b_17 : c0 ≤ 1 ∧ s0 ≤ 6)
    (q_17 : Post (2) ([(ou, .inl (C.1.2.2.2.1 1, 1, .inr (.inl of)))] ++ (s_q C.1.2.2.2.1 C.1.2.2.2.2 f_q r_q c_q ++ (s_t C.1.2.2.2.1 C.1.2.2.2.2 f_t g_t ++ (s_r C.1.2.2.2.1 C.1.2.2.2.2 r_r ++ (s_c C.1.2.2.2.1 C.1.2.2.2.2 f_c g_c ++ (P))))))) : zc_La_answer C Post c0 s0 15 [(0, .ref (ad C.1 24)), (1, .int x1), (2, .ref ou)] [.ref y0] ([(ou, .inl (C.1.2.2.2.1 1, 1, .inr (.inl of)))] ++ (s_q C.1.2.2.2.1 C.1.2.2.2.2 f_q r_q c_q ++ (s_t C.1.2.2.2.1 C.1.2.2.2.2 f_t g_t ++ (s_r C.1.2.2.2.1 C.1.2.2.2.2 r_r ++ (s_c C.1.2.2.2.1 C.1.2.2.2.2 f_c g_c ++ (P)))))) := by
  obtain ⟨⟨l, dC, dI, k, a⟩, p, e, s, m, args, below, meth, c, A⟩ := C
  obtain ⟨⟨hx, hb, hr, htz, hown, hlocks, hml, hE, hK, hA⟩, hTab, hlt⟩ := X
  intro H locs ls hl hP hD hS
  have hl : lv_has ls 4 [(0, .ref (a 24)), (1, .int x1), (2, .ref ou)] := hl
  have hP : va_P (dC, dI) classes ([(ou, .inl (k 1, 1, .inr (.inl of)))] ++ (s_q k a f_q r_q c_q ++ (s_t k a f_t g_t ++ (s_r k a r_r ++ (s_c k a f_c g_c ++ (P)))))) H := hP
  have hD : va_D A ([(ou, .inl (k 1, 1, .inr (.inl of)))] ++ (s_q k a f_q r_q c_q ++ (s_t k a f_t g_t ++ (s_r k a r_r ++ (s_c k a f_c g_c ++ (P)))))) := hD
  show W p l e (z_rm 5 1 6) s m args below meth c H locs c0 s0 _ (F0 m 15 ls [.ref y0])
  refine lv_astore_n (lv' := [(3, .ref y0), (0, .ref (a 24)), (1, .int x1), (2, .ref ou)]) hx hb d_La_answer_15 rfl hl (by decide) rfl (fun ls hl => ?_)
  refine lv_iconst (v := 2) hx hb d_La_answer_16 (by decide) ?_
  refine W.widen (k := 1) (n := 6) b_17.1 b_17.2 ?_
  exact W.iret (v := 2) hx hb hr (fun t ht hW => ⟨⟨_, ([(ou, .inl (k 1, 1, .inr (.inl of)))] ++ (s_q k a f_q r_q c_q ++ (s_t k a f_t g_t ++ (s_r k a r_r ++ (s_c k a f_c g_c ++ (P)))))), rfl, q_17, by rw [ht]; exact hP, va_K.moved hW.alike hK, hD⟩, hS.F ht⟩) hS.2.2 d_La_answer_17
set_option maxHeartbeats 1000000 in
set_option maxRecDepth 100000 in
theorem e_La_answer (T : ST) (hlt : T.1.stackTraces = false) (Post : Int32 → va_W → Prop) (x1 : Int32) (f_q : FT) (r_q : Nat → Nat → Option Nat) (c_q : Nat) (f_t : FT) (g_t : GT) (r_r : Nat → Nat → Option Nat) (f_c : FT) (g_c : GT) (P : va_W) (ou : Nat) (of : Nat → Int64) (h : ∀ C : CT, C.1 = T → cT C "QuestionTextLaw" b_La_answer 4 (some .int) [⟨0, 9, 12, 13⟩, ⟨0, 9, 15, 15⟩] → zc_La_answer C Post 0 0 0 [(0, .ref (ad C.1 24)), (1, .int x1), (2, .ref ou)] [] ([(ou, .inl (C.1.2.2.2.1 1, 1, .inr (.inl of)))] ++ (s_q C.1.2.2.2.1 C.1.2.2.2.2 f_q r_q c_q ++ (s_t C.1.2.2.2.1 C.1.2.2.2.2 f_t g_t ++ (s_r C.1.2.2.2.1 C.1.2.2.2.2 r_r ++ (s_c C.1.2.2.2.1 C.1.2.2.2.2 f_c g_c ++ (P))))))) : uI T y_La_answer (Cond.codeWith y_La_answer b_La_answer 4 (some .int) [(0, 9, 12, 13), (0, 9, 15, 15)]) 5 1 6 [.ref (ad T 24), .int x1, .ref ou] ([(ou, .inl (T.2.2.2.1 1, 1, .inr (.inl of)))] ++ (s_q T.2.2.2.1 T.2.2.2.2 f_q r_q c_q ++ (s_t T.2.2.2.1 T.2.2.2.2 f_t g_t ++ (s_r T.2.2.2.1 T.2.2.2.2 r_r ++ (s_c T.2.2.2.1 T.2.2.2.2 f_c g_c ++ (P)))))) Post := by
  obtain ⟨l, dC, dI, k, a⟩ := T
  intro sz
  refine va_MetW (cc := b_La_answer) (maxL := 4) (ret := (some .int)) (by decide) rfl ?_
  intro p e s m args below meth c s₁ B hml hv
  obtain ⟨rfl, hsz, hE, hP, hK, hD0⟩ := hv
  have hts := atoms_spec (ws := (Cond.codeWith y_La_answer b_La_answer 4 (some .int) [(0, 9, 12, 13), (0, 9, 15, 15)]) :: z_T) B.pre
  have htz : ∀ w ∈ z_T, w.before _ s = true := fun w h => hts w (z_cons w h)
  subst hsz
  have hD := hD0.self (sz := s.heap.size)
  generalize hAe : va_A ([(ou, .inl (k 1, 1, .inr (.inl of)))] ++ (s_q k a f_q r_q c_q ++ (s_t k a f_t g_t ++ (s_r k a r_r ++ (s_c k a f_c g_c ++ (P)))))) s.heap.size = A at hD hE ⊢
  have hA : ∀ q : Nat, s.heap.size ≤ q → A q := fun q h => by rw [← hAe]; exact Or.inr h
  have hl := lv_entry ([.ref (a 24), .int x1, .ref ou]) (n := 4) (Nat.le_of_ble_eq_true rfl)
  rw [lg_entry_eq]
  generalize (lg_sl ([.ref (a 24), .int x1, .ref ou]) ++ List.replicate (4 - (lg_sl ([.ref (a 24), .int x1, .ref ou])).length) Slot.unset).toArray = ls at hl ⊢
  have hTab := vx_table (x := y_La_answer) B (htz _ m_La_answer)
  exact h ((l, dC, dI, k, a), p, e, s, m, ([.ref (a 24), .int x1, .ref ou] : List Value).toArray, below, meth, c, A) rfl ⟨⟨B.exec, B.bytes, B.returns, htz, findClass_of_methodNamed B.named, B.notSynchronized, hml, hE, hK, hA⟩, hTab, hlt⟩ s.heap [] ls hl hP hD va_S.rf
def zc_La_priority (C : CT) (Post : Int32 → va_W → Prop) (c0 s0 pc : Nat) (loc : List (Nat × Value)) (st : List Value) (ws : va_W) : Prop := zW C (z_rm 6 1 6) 3 (oI C 1 6 Post) c0 s0 pc loc st ws
set_option maxHeartbeats 1000000 in
set_option maxRecDepth 100000 in
theorem k_La_priority_0 {C : CT} (X : cT C "QuestionTextLaw" b_La_priority 3 (some .int) [⟨0, 8, 11, 15⟩]) (Post : Int32 → va_W → Prop) {P_3 : Int32 → va_W → Prop} {X_3 : String → va_W → Prop} (f_q : FT) (r_q : Nat → Nat → Option Nat) (c_q : Nat) (f_t : FT) (g_t : GT) (r_r : Nat → Nat → Option Nat) (f_c : FT) (g_c : GT) (P : va_W) (ou : Nat) (of : Nat → Int64) (c0 s0 : Nat)
    (b_3 : c0 + 1 ≤ 1 ∧ s0 + 6 ≤ 6)
    (m_3 : xI C.1 y_Q_priority (Cond.code y_Q_priority b_Q_priority 2 (some .int)) 5 1 6 [.ref (ad C.1 24)] (s_q C.1.2.2.2.1 C.1.2.2.2.2 f_q r_q c_q ++ (s_t C.1.2.2.2.1 C.1.2.2.2.2 f_t g_t ++ (s_r C.1.2.2.2.1 C.1.2.2.2.2 r_r ++ (s_c C.1.2.2.2.1 C.1.2.2.2.2 f_c g_c ++ (P))))) P_3 X_3)
    (k_3 : ∀ (r : Int32) (u : va_W), P_3 r u → zc_La_priority C Post (c0 + 1) (s0 + 6) 6 [(0, .ref (ad C.1 24)), (1, .ref ou)] [.int r, .int 0, .ref ou] ([(ou, .inl (C.1.2.2.2.1 1, 1, .inr (.inl of)))] ++ (u)))
    (x_3 : ∀ (E : String) (u : va_W), X_3 E u → E = "java/lang/IllegalStateException" ∧ ∀ q9 : Nat, zc_La_priority C Post (c0 + 1) (s0 + 6) 11 [(0, .ref (ad C.1 24)), (1, .ref ou)] [.ref q9] ([(ou, .inl (C.1.2.2.2.1 1, 1, .inr (.inl of)))] ++ (u))) : zc_La_priority C Post c0 s0 0 [(0, .ref (ad C.1 24)), (1, .ref ou)] [] ([(ou, .inl (C.1.2.2.2.1 1, 1, .inr (.inl of)))] ++ (s_q C.1.2.2.2.1 C.1.2.2.2.2 f_q r_q c_q ++ (s_t C.1.2.2.2.1 C.1.2.2.2.2 f_t g_t ++ (s_r C.1.2.2.2.1 C.1.2.2.2.2 r_r ++ (s_c C.1.2.2.2.1 C.1.2.2.2.2 f_c g_c ++ (P)))))) := by
  obtain ⟨⟨l, dC, dI, k, a⟩, p, e, s, m, args, below, meth, c, A⟩ := C
  obtain ⟨⟨hx, hb, hr, htz, hown, hlocks, hml, hE, hK, hA⟩, hTab, hlt⟩ := X
  intro H locs ls hl hP hD hS
  have hl : lv_has ls 3 [(0, .ref (a 24)), (1, .ref ou)] := hl
  have hP : va_P (dC, dI) classes ([(ou, .inl (k 1, 1, .inr (.inl of)))] ++ (s_q k a f_q r_q c_q ++ (s_t k a f_t g_t ++ (s_r k a r_r ++ (s_c k a f_c g_c ++ (P)))))) H := hP
  have hD : va_D A ([(ou, .inl (k 1, 1, .inr (.inl of)))] ++ (s_q k a f_q r_q c_q ++ (s_t k a f_t g_t ++ (s_r k a r_r ++ (s_c k a f_c g_c ++ (P)))))) := hD
  show W p l e (z_rm 6 1 6) s m args below meth c H locs c0 s0 _ (F0 m 0 ls [])
  refine lv_aload_n hx hb d_La_priority_0 rfl (lv_at hl 1 rfl) ?_
  refine lv_iconst (v := 0) hx hb d_La_priority_1 (by decide) ?_
  refine lv_aload_n hx hb d_La_priority_2 rfl (lv_at hl 0 rfl) ?_
  have hPf : va_P (dC, dI) classes (([(ou, .inl (k 1, 1, .inr (.inl of)))]) ++ ((s_q k a f_q r_q c_q ++ (s_t k a f_t g_t ++ (s_r k a r_r ++ (s_c k a f_c g_c ++ (P))))) ++ ([]))) H := by rw [List.append_nil]; exact hP
  have hDf : va_D A (([(ou, .inl (k 1, 1, .inr (.inl of)))]) ++ ((s_q k a f_q r_q c_q ++ (s_t k a f_t g_t ++ (s_r k a r_r ++ (s_c k a f_c g_c ++ (P))))) ++ ([]))) := by rw [List.append_nil]; exact hD
  have hFc := zfree hDf hS hA
  refine vx_calli (vx_runV (As := []) (rest := [.int 0, .ref ou]) ⟨hx, hb, hml, hown, htz⟩ (m_3 H.size) (cwV 0 htz (z_gV (fun _ h => h) km_La_31 in_Q_priority se_Q_priority ini_Q m_Q_priority) rfl rfl rfl (by decide +kernel) ⟨(Nat.le_of_ble_eq_true rfl), (Nat.le_of_ble_eq_true rfl)⟩) ⟨z_blind, va_recv hK hP (ci := 0) (q0 := 1) rfl rfl, fun U hU hW => ⟨rfl, by rw [hU], hE.call hS hFc hU hW, by rw [hU]; exact (zPc hPf), va_K.moved hW.alike hK, (zDc hDf)⟩⟩ rfl rfl hl.1 rfl (lv_room (Nat.le_of_ble_eq_true rfl)) d_La_priority_3 b_3) hS (fun q _ h => hFc q h) hFc (fun q _ h => hFc q h) (fun E ce q9 u t H1 locs ht hvm hw hB hz1 hk1 hS hce hcv hcl => ?_) (fun r u t H1 locs ht hvm hw hB hz1 hk1 hS => ?_)
  · obtain ⟨hxe, hP1, hK1, hD1⟩ := hB
    rw [ht] at hP1
    obtain ⟨hP, hD⟩ := zf hPf hDf hk1 hFc hP1 hD1
    rw [List.append_nil] at hP hD
    obtain ⟨rfl, hz9⟩ := x_3 E u hxe
    refine vx_catch hown [] ⟨0, 8, 11, 15⟩ [] hTab (fun z hz => nomatch hz) (by decide) (by decide) (htz _ kc_La_15) (va_Nw.use rfl (hE.2.1 _ ca_ISE)) hce hcv hcl ?_
    exact hz9 q9 H1 locs ls (lv_sub hl [0, 1] rfl) hP hD hS
  · obtain ⟨hP1, hK1, hD1⟩ := hB
    rw [ht] at hP1
    obtain ⟨hP, hD⟩ := zf hPf hDf hk1 hFc hP1 hD1
    rw [List.append_nil] at hP hD
    exact k_3 r _ hw H1 locs ls (lv_sub hl [0, 1] rfl) hP hD hS
set_option maxHeartbeats 1000000 in
set_option maxRecDepth 100000 in
theorem k_La_priority_6 {C : CT} (X : cT C "QuestionTextLaw" b_La_priority 3 (some .int) [⟨0, 8, 11, 15⟩]) (Post : Int32 → va_W → Prop) (y0 : Int32) (y1 : Int32) (f_q : FT) (r_q : Nat → Nat → Option Nat) (c_q : Nat) (f_t : FT) (g_t : GT) (r_r : Nat → Nat → Option Nat) (f_c : FT) (g_c : GT) (P : va_W) (ou : Nat) (of : Nat → Int64) (c0 s0 : Nat)
    (h_7 : vp_in (y1) 1)
    (b_15 : c0 ≤ 1 ∧ s0 ≤ 6)
    (q_15 : Post (0) ([(ou, .inl (C.1.2.2.2.1 1, 1, .inr (.inl (vp_updL of (y1 : Int32).toNatClampNeg y0.toInt64))))] ++ (s_q C.1.2.2.2.1 C.1.2.2.2.2 f_q r_q c_q ++ (s_t C.1.2.2.2.1 C.1.2.2.2.2 f_t g_t ++ (s_r C.1.2.2.2.1 C.1.2.2.2.2 r_r ++ (s_c C.1.2.2.2.1 C.1.2.2.2.2 f_c g_c ++ (P))))))) : zc_La_priority C Post c0 s0 6 [(0, .ref (ad C.1 24)), (1, .ref ou)] [.int y0, .int y1, .ref ou] ([(ou, .inl (C.1.2.2.2.1 1, 1, .inr (.inl of)))] ++ (s_q C.1.2.2.2.1 C.1.2.2.2.2 f_q r_q c_q ++ (s_t C.1.2.2.2.1 C.1.2.2.2.2 f_t g_t ++ (s_r C.1.2.2.2.1 C.1.2.2.2.2 r_r ++ (s_c C.1.2.2.2.1 C.1.2.2.2.2 f_c g_c ++ (P)))))) := by
  obtain ⟨⟨l, dC, dI, k, a⟩, p, e, s, m, args, below, meth, c, A⟩ := C
  obtain ⟨⟨hx, hb, hr, htz, hown, hlocks, hml, hE, hK, hA⟩, hTab, hlt⟩ := X
  intro H locs ls hl hP hD hS
  have hl : lv_has ls 3 [(0, .ref (a 24)), (1, .ref ou)] := hl
  have hP : va_P (dC, dI) classes ([(ou, .inl (k 1, 1, .inr (.inl of)))] ++ (s_q k a f_q r_q c_q ++ (s_t k a f_t g_t ++ (s_r k a r_r ++ (s_c k a f_c g_c ++ (P)))))) H := hP
  have hD : va_D A ([(ou, .inl (k 1, 1, .inr (.inl of)))] ++ (s_q k a f_q r_q c_q ++ (s_t k a f_t g_t ++ (s_r k a r_r ++ (s_c k a f_c g_c ++ (P)))))) := hD
  show W p l e (z_rm 6 1 6) s m args below meth c H locs c0 s0 _ (F0 m 6 ls [.int y0, .int y1, .ref ou])
  refine lv_i2l (v := y0.toInt64) hx hb d_La_priority_6 rfl ?_
  refine va_last hx hb hK hP hD hS 0 1 rfl rfl h_7 d_La_priority_7 (fun H locs hP hD hS => ?_)
  have hP : va_P (dC, dI) classes ([(ou, .inl (k 1, 1, .inr (.inl (vp_updL of (y1 : Int32).toNatClampNeg y0.toInt64))))] ++ (s_q k a f_q r_q c_q ++ (s_t k a f_t g_t ++ (s_r k a r_r ++ (s_c k a f_c g_c ++ (P)))))) H := hP
  have hD : va_D A ([(ou, .inl (k 1, 1, .inr (.inl (vp_updL of (y1 : Int32).toNatClampNeg y0.toInt64))))] ++ (s_q k a f_q r_q c_q ++ (s_t k a f_t g_t ++ (s_r k a r_r ++ (s_c k a f_c g_c ++ (P)))))) := hD
  refine lv_goto (tgt := 14) hx hb d_La_priority_8 (by decide) ?_
  refine lv_iconst (v := 0) hx hb d_La_priority_14 (by decide) ?_
  refine W.widen (k := 1) (n := 6) b_15.1 b_15.2 ?_
  exact W.iret (v := 0) hx hb hr (fun t ht hW => ⟨⟨_, ([(ou, .inl (k 1, 1, .inr (.inl (vp_updL of (y1 : Int32).toNatClampNeg y0.toInt64))))] ++ (s_q k a f_q r_q c_q ++ (s_t k a f_t g_t ++ (s_r k a r_r ++ (s_c k a f_c g_c ++ (P)))))), rfl, q_15, by rw [ht]; exact hP, va_K.moved hW.alike hK, hD⟩, hS.F ht⟩) hS.2.2 d_La_priority_15
set_option maxHeartbeats 1000000 in
set_option maxRecDepth 100000 in
theorem k_La_priority_11 {C : CT} (X : cT C "QuestionTextLaw" b_La_priority 3 (some .int) [⟨0, 8, 11, 15⟩]) (Post : Int32 → va_W → Prop) (y0 : Nat) (f_q : FT) (r_q : Nat → Nat → Option Nat) (c_q : Nat) (f_t : FT) (g_t : GT) (r_r : Nat → Nat → Option Nat) (f_c : FT) (g_c : GT) (P : va_W) (ou : Nat) (of : Nat → Int64) (c0 s0 : Nat)
    (b_13 : c0 ≤ 1 ∧ s0 ≤ 6)
    (q_13 : Post (1) ([(ou, .inl (C.1.2.2.2.1 1, 1, .inr (.inl of)))] ++ (s_q C.1.2.2.2.1 C.1.2.2.2.2 f_q r_q c_q ++ (s_t C.1.2.2.2.1 C.1.2.2.2.2 f_t g_t ++ (s_r C.1.2.2.2.1 C.1.2.2.2.2 r_r ++ (s_c C.1.2.2.2.1 C.1.2.2.2.2 f_c g_c ++ (P))))))) : zc_La_priority C Post c0 s0 11 [(0, .ref (ad C.1 24)), (1, .ref ou)] [.ref y0] ([(ou, .inl (C.1.2.2.2.1 1, 1, .inr (.inl of)))] ++ (s_q C.1.2.2.2.1 C.1.2.2.2.2 f_q r_q c_q ++ (s_t C.1.2.2.2.1 C.1.2.2.2.2 f_t g_t ++ (s_r C.1.2.2.2.1 C.1.2.2.2.2 r_r ++ (s_c C.1.2.2.2.1 C.1.2.2.2.2 f_c g_c ++ (P)))))) := by
  obtain ⟨⟨l, dC, dI, k, a⟩, p, e, s, m, args, below, meth, c, A⟩ := C
  obtain ⟨⟨hx, hb, hr, htz, hown, hlocks, hml, hE, hK, hA⟩, hTab, hlt⟩ := X
  intro H locs ls hl hP hD hS
  have hl : lv_has ls 3 [(0, .ref (a 24)), (1, .ref ou)] := hl
  have hP : va_P (dC, dI) classes ([(ou, .inl (k 1, 1, .inr (.inl of)))] ++ (s_q k a f_q r_q c_q ++ (s_t k a f_t g_t ++ (s_r k a r_r ++ (s_c k a f_c g_c ++ (P)))))) H := hP
  have hD : va_D A ([(ou, .inl (k 1, 1, .inr (.inl of)))] ++ (s_q k a f_q r_q c_q ++ (s_t k a f_t g_t ++ (s_r k a r_r ++ (s_c k a f_c g_c ++ (P)))))) := hD
  show W p l e (z_rm 6 1 6) s m args below meth c H locs c0 s0 _ (F0 m 11 ls [.ref y0])
  refine lv_astore_n (lv' := [(2, .ref y0), (0, .ref (a 24)), (1, .ref ou)]) hx hb d_La_priority_11 rfl hl (by decide) rfl (fun ls hl => ?_)
  refine lv_iconst (v := 1) hx hb d_La_priority_12 (by decide) ?_
  refine W.widen (k := 1) (n := 6) b_13.1 b_13.2 ?_
  exact W.iret (v := 1) hx hb hr (fun t ht hW => ⟨⟨_, ([(ou, .inl (k 1, 1, .inr (.inl of)))] ++ (s_q k a f_q r_q c_q ++ (s_t k a f_t g_t ++ (s_r k a r_r ++ (s_c k a f_c g_c ++ (P)))))), rfl, q_13, by rw [ht]; exact hP, va_K.moved hW.alike hK, hD⟩, hS.F ht⟩) hS.2.2 d_La_priority_13
set_option maxHeartbeats 1000000 in
set_option maxRecDepth 100000 in
theorem e_La_priority (T : ST) (hlt : T.1.stackTraces = false) (Post : Int32 → va_W → Prop) (f_q : FT) (r_q : Nat → Nat → Option Nat) (c_q : Nat) (f_t : FT) (g_t : GT) (r_r : Nat → Nat → Option Nat) (f_c : FT) (g_c : GT) (P : va_W) (ou : Nat) (of : Nat → Int64) (h : ∀ C : CT, C.1 = T → cT C "QuestionTextLaw" b_La_priority 3 (some .int) [⟨0, 8, 11, 15⟩] → zc_La_priority C Post 0 0 0 [(0, .ref (ad C.1 24)), (1, .ref ou)] [] ([(ou, .inl (C.1.2.2.2.1 1, 1, .inr (.inl of)))] ++ (s_q C.1.2.2.2.1 C.1.2.2.2.2 f_q r_q c_q ++ (s_t C.1.2.2.2.1 C.1.2.2.2.2 f_t g_t ++ (s_r C.1.2.2.2.1 C.1.2.2.2.2 r_r ++ (s_c C.1.2.2.2.1 C.1.2.2.2.2 f_c g_c ++ (P))))))) : uI T y_La_priority (Cond.codeWith y_La_priority b_La_priority 3 (some .int) [(0, 8, 11, 15)]) 6 1 6 [.ref (ad T 24), .ref ou] ([(ou, .inl (T.2.2.2.1 1, 1, .inr (.inl of)))] ++ (s_q T.2.2.2.1 T.2.2.2.2 f_q r_q c_q ++ (s_t T.2.2.2.1 T.2.2.2.2 f_t g_t ++ (s_r T.2.2.2.1 T.2.2.2.2 r_r ++ (s_c T.2.2.2.1 T.2.2.2.2 f_c g_c ++ (P)))))) Post := by
  obtain ⟨l, dC, dI, k, a⟩ := T
  intro sz
  refine va_MetW (cc := b_La_priority) (maxL := 3) (ret := (some .int)) (by decide) rfl ?_
  intro p e s m args below meth c s₁ B hml hv
  obtain ⟨rfl, hsz, hE, hP, hK, hD0⟩ := hv
  have hts := atoms_spec (ws := (Cond.codeWith y_La_priority b_La_priority 3 (some .int) [(0, 8, 11, 15)]) :: z_T) B.pre
  have htz : ∀ w ∈ z_T, w.before _ s = true := fun w h => hts w (z_cons w h)
  subst hsz
  have hD := hD0.self (sz := s.heap.size)
  generalize hAe : va_A ([(ou, .inl (k 1, 1, .inr (.inl of)))] ++ (s_q k a f_q r_q c_q ++ (s_t k a f_t g_t ++ (s_r k a r_r ++ (s_c k a f_c g_c ++ (P)))))) s.heap.size = A at hD hE ⊢
  have hA : ∀ q : Nat, s.heap.size ≤ q → A q := fun q h => by rw [← hAe]; exact Or.inr h
  have hl := lv_entry ([.ref (a 24), .ref ou]) (n := 3) (Nat.le_of_ble_eq_true rfl)
  rw [lg_entry_eq]
  generalize (lg_sl ([.ref (a 24), .ref ou]) ++ List.replicate (3 - (lg_sl ([.ref (a 24), .ref ou])).length) Slot.unset).toArray = ls at hl ⊢
  have hTab := vx_table (x := y_La_priority) B (htz _ m_La_priority)
  exact h ((l, dC, dI, k, a), p, e, s, m, ([.ref (a 24), .ref ou] : List Value).toArray, below, meth, c, A) rfl ⟨⟨B.exec, B.bytes, B.returns, htz, findClass_of_methodNamed B.named, B.notSynchronized, hml, hE, hK, hA⟩, hTab, hlt⟩ s.heap [] ls hl hP hD va_S.rf
def zc_La_points (C : CT) (Post : Int32 → va_W → Prop) (c0 s0 pc : Nat) (loc : List (Nat × Value)) (st : List Value) (ws : va_W) : Prop := zW C (z_rm 1 1 6) 3 (oI C 1 6 Post) c0 s0 pc loc st ws
set_option maxHeartbeats 1000000 in
set_option maxRecDepth 100000 in
theorem k_La_points_0 {C : CT} (X : cT C "QuestionTextLaw" b_La_points 3 (some .int) [⟨0, 8, 11, 15⟩]) (Post : Int32 → va_W → Prop) {P_3 : Int32 → va_W → Prop} {X_3 : String → va_W → Prop} (f_q : FT) (r_q : Nat → Nat → Option Nat) (c_q : Nat) (f_t : FT) (g_t : GT) (r_r : Nat → Nat → Option Nat) (f_c : FT) (g_c : GT) (P : va_W) (ou : Nat) (of : Nat → Int64) (c0 s0 : Nat)
    (b_3 : c0 + 1 ≤ 1 ∧ s0 + 6 ≤ 6)
    (m_3 : xI C.1 y_Q_points (Cond.code y_Q_points b_Q_points 1 (some .int)) 0 1 6 [.ref (ad C.1 24)] (s_q C.1.2.2.2.1 C.1.2.2.2.2 f_q r_q c_q ++ (s_t C.1.2.2.2.1 C.1.2.2.2.2 f_t g_t ++ (s_r C.1.2.2.2.1 C.1.2.2.2.2 r_r ++ (s_c C.1.2.2.2.1 C.1.2.2.2.2 f_c g_c ++ (P))))) P_3 X_3)
    (k_3 : ∀ (r : Int32) (u : va_W), P_3 r u → zc_La_points C Post (c0 + 1) (s0 + 6) 6 [(0, .ref (ad C.1 24)), (1, .ref ou)] [.int r, .int 0, .ref ou] ([(ou, .inl (C.1.2.2.2.1 1, 1, .inr (.inl of)))] ++ (u)))
    (x_3 : ∀ (E : String) (u : va_W), X_3 E u → E = "java/lang/IllegalStateException" ∧ ∀ q9 : Nat, zc_La_points C Post (c0 + 1) (s0 + 6) 11 [(0, .ref (ad C.1 24)), (1, .ref ou)] [.ref q9] ([(ou, .inl (C.1.2.2.2.1 1, 1, .inr (.inl of)))] ++ (u))) : zc_La_points C Post c0 s0 0 [(0, .ref (ad C.1 24)), (1, .ref ou)] [] ([(ou, .inl (C.1.2.2.2.1 1, 1, .inr (.inl of)))] ++ (s_q C.1.2.2.2.1 C.1.2.2.2.2 f_q r_q c_q ++ (s_t C.1.2.2.2.1 C.1.2.2.2.2 f_t g_t ++ (s_r C.1.2.2.2.1 C.1.2.2.2.2 r_r ++ (s_c C.1.2.2.2.1 C.1.2.2.2.2 f_c g_c ++ (P)))))) := by
  obtain ⟨⟨l, dC, dI, k, a⟩, p, e, s, m, args, below, meth, c, A⟩ := C
  obtain ⟨⟨hx, hb, hr, htz, hown, hlocks, hml, hE, hK, hA⟩, hTab, hlt⟩ := X
  intro H locs ls hl hP hD hS
  have hl : lv_has ls 3 [(0, .ref (a 24)), (1, .ref ou)] := hl
  have hP : va_P (dC, dI) classes ([(ou, .inl (k 1, 1, .inr (.inl of)))] ++ (s_q k a f_q r_q c_q ++ (s_t k a f_t g_t ++ (s_r k a r_r ++ (s_c k a f_c g_c ++ (P)))))) H := hP
  have hD : va_D A ([(ou, .inl (k 1, 1, .inr (.inl of)))] ++ (s_q k a f_q r_q c_q ++ (s_t k a f_t g_t ++ (s_r k a r_r ++ (s_c k a f_c g_c ++ (P)))))) := hD
  show W p l e (z_rm 1 1 6) s m args below meth c H locs c0 s0 _ (F0 m 0 ls [])
  refine lv_aload_n hx hb d_La_points_0 rfl (lv_at hl 1 rfl) ?_
  refine lv_iconst (v := 0) hx hb d_La_points_1 (by decide) ?_
  refine lv_aload_n hx hb d_La_points_2 rfl (lv_at hl 0 rfl) ?_
  have hPf : va_P (dC, dI) classes (([(ou, .inl (k 1, 1, .inr (.inl of)))]) ++ ((s_q k a f_q r_q c_q ++ (s_t k a f_t g_t ++ (s_r k a r_r ++ (s_c k a f_c g_c ++ (P))))) ++ ([]))) H := by rw [List.append_nil]; exact hP
  have hDf : va_D A (([(ou, .inl (k 1, 1, .inr (.inl of)))]) ++ ((s_q k a f_q r_q c_q ++ (s_t k a f_t g_t ++ (s_r k a r_r ++ (s_c k a f_c g_c ++ (P))))) ++ ([]))) := by rw [List.append_nil]; exact hD
  have hFc := zfree hDf hS hA
  refine vx_calli (vx_runV (As := []) (rest := [.int 0, .ref ou]) ⟨hx, hb, hml, hown, htz⟩ (m_3 H.size) (cwV 0 htz (z_gV (fun _ h => h) km_La_34 in_Q_points se_Q_points ini_Q m_Q_points) rfl rfl rfl (by decide +kernel) ⟨(Nat.le_of_ble_eq_true rfl), (Nat.le_of_ble_eq_true rfl)⟩) ⟨z_blind, va_recv hK hP (ci := 0) (q0 := 1) rfl rfl, fun U hU hW => ⟨rfl, by rw [hU], hE.call hS hFc hU hW, by rw [hU]; exact (zPc hPf), va_K.moved hW.alike hK, (zDc hDf)⟩⟩ rfl rfl hl.1 rfl (lv_room (Nat.le_of_ble_eq_true rfl)) d_La_points_3 b_3) hS (fun q _ h => hFc q h) hFc (fun q _ h => hFc q h) (fun E ce q9 u t H1 locs ht hvm hw hB hz1 hk1 hS hce hcv hcl => ?_) (fun r u t H1 locs ht hvm hw hB hz1 hk1 hS => ?_)
  · obtain ⟨hxe, hP1, hK1, hD1⟩ := hB
    rw [ht] at hP1
    obtain ⟨hP, hD⟩ := zf hPf hDf hk1 hFc hP1 hD1
    rw [List.append_nil] at hP hD
    obtain ⟨rfl, hz9⟩ := x_3 E u hxe
    refine vx_catch hown [] ⟨0, 8, 11, 15⟩ [] hTab (fun z hz => nomatch hz) (by decide) (by decide) (htz _ kc_La_15) (va_Nw.use rfl (hE.2.1 _ ca_ISE)) hce hcv hcl ?_
    exact hz9 q9 H1 locs ls (lv_sub hl [0, 1] rfl) hP hD hS
  · obtain ⟨hP1, hK1, hD1⟩ := hB
    rw [ht] at hP1
    obtain ⟨hP, hD⟩ := zf hPf hDf hk1 hFc hP1 hD1
    rw [List.append_nil] at hP hD
    exact k_3 r _ hw H1 locs ls (lv_sub hl [0, 1] rfl) hP hD hS
set_option maxHeartbeats 1000000 in
set_option maxRecDepth 100000 in
theorem k_La_points_6 {C : CT} (X : cT C "QuestionTextLaw" b_La_points 3 (some .int) [⟨0, 8, 11, 15⟩]) (Post : Int32 → va_W → Prop) (y0 : Int32) (y1 : Int32) (f_q : FT) (r_q : Nat → Nat → Option Nat) (c_q : Nat) (f_t : FT) (g_t : GT) (r_r : Nat → Nat → Option Nat) (f_c : FT) (g_c : GT) (P : va_W) (ou : Nat) (of : Nat → Int64) (c0 s0 : Nat)
    (h_7 : vp_in (y1) 1)
    (b_15 : c0 ≤ 1 ∧ s0 ≤ 6)
    (q_15 : Post (0) ([(ou, .inl (C.1.2.2.2.1 1, 1, .inr (.inl (vp_updL of (y1 : Int32).toNatClampNeg y0.toInt64))))] ++ (s_q C.1.2.2.2.1 C.1.2.2.2.2 f_q r_q c_q ++ (s_t C.1.2.2.2.1 C.1.2.2.2.2 f_t g_t ++ (s_r C.1.2.2.2.1 C.1.2.2.2.2 r_r ++ (s_c C.1.2.2.2.1 C.1.2.2.2.2 f_c g_c ++ (P))))))) : zc_La_points C Post c0 s0 6 [(0, .ref (ad C.1 24)), (1, .ref ou)] [.int y0, .int y1, .ref ou] ([(ou, .inl (C.1.2.2.2.1 1, 1, .inr (.inl of)))] ++ (s_q C.1.2.2.2.1 C.1.2.2.2.2 f_q r_q c_q ++ (s_t C.1.2.2.2.1 C.1.2.2.2.2 f_t g_t ++ (s_r C.1.2.2.2.1 C.1.2.2.2.2 r_r ++ (s_c C.1.2.2.2.1 C.1.2.2.2.2 f_c g_c ++ (P)))))) := by
  obtain ⟨⟨l, dC, dI, k, a⟩, p, e, s, m, args, below, meth, c, A⟩ := C
  obtain ⟨⟨hx, hb, hr, htz, hown, hlocks, hml, hE, hK, hA⟩, hTab, hlt⟩ := X
  intro H locs ls hl hP hD hS
  have hl : lv_has ls 3 [(0, .ref (a 24)), (1, .ref ou)] := hl
  have hP : va_P (dC, dI) classes ([(ou, .inl (k 1, 1, .inr (.inl of)))] ++ (s_q k a f_q r_q c_q ++ (s_t k a f_t g_t ++ (s_r k a r_r ++ (s_c k a f_c g_c ++ (P)))))) H := hP
  have hD : va_D A ([(ou, .inl (k 1, 1, .inr (.inl of)))] ++ (s_q k a f_q r_q c_q ++ (s_t k a f_t g_t ++ (s_r k a r_r ++ (s_c k a f_c g_c ++ (P)))))) := hD
  show W p l e (z_rm 1 1 6) s m args below meth c H locs c0 s0 _ (F0 m 6 ls [.int y0, .int y1, .ref ou])
  refine lv_i2l (v := y0.toInt64) hx hb d_La_points_6 rfl ?_
  refine va_last hx hb hK hP hD hS 0 1 rfl rfl h_7 d_La_points_7 (fun H locs hP hD hS => ?_)
  have hP : va_P (dC, dI) classes ([(ou, .inl (k 1, 1, .inr (.inl (vp_updL of (y1 : Int32).toNatClampNeg y0.toInt64))))] ++ (s_q k a f_q r_q c_q ++ (s_t k a f_t g_t ++ (s_r k a r_r ++ (s_c k a f_c g_c ++ (P)))))) H := hP
  have hD : va_D A ([(ou, .inl (k 1, 1, .inr (.inl (vp_updL of (y1 : Int32).toNatClampNeg y0.toInt64))))] ++ (s_q k a f_q r_q c_q ++ (s_t k a f_t g_t ++ (s_r k a r_r ++ (s_c k a f_c g_c ++ (P)))))) := hD
  refine lv_goto (tgt := 14) hx hb d_La_points_8 (by decide) ?_
  refine lv_iconst (v := 0) hx hb d_La_points_14 (by decide) ?_
  refine W.widen (k := 1) (n := 6) b_15.1 b_15.2 ?_
  exact W.iret (v := 0) hx hb hr (fun t ht hW => ⟨⟨_, ([(ou, .inl (k 1, 1, .inr (.inl (vp_updL of (y1 : Int32).toNatClampNeg y0.toInt64))))] ++ (s_q k a f_q r_q c_q ++ (s_t k a f_t g_t ++ (s_r k a r_r ++ (s_c k a f_c g_c ++ (P)))))), rfl, q_15, by rw [ht]; exact hP, va_K.moved hW.alike hK, hD⟩, hS.F ht⟩) hS.2.2 d_La_points_15
set_option maxHeartbeats 1000000 in
set_option maxRecDepth 100000 in
theorem k_La_points_11 {C : CT} (X : cT C "QuestionTextLaw" b_La_points 3 (some .int) [⟨0, 8, 11, 15⟩]) (Post : Int32 → va_W → Prop) (y0 : Nat) (f_q : FT) (r_q : Nat → Nat → Option Nat) (c_q : Nat) (f_t : FT) (g_t : GT) (r_r : Nat → Nat → Option Nat) (f_c : FT) (g_c : GT) (P : va_W) (ou : Nat) (of : Nat → Int64) (c0 s0 : Nat)
    (b_13 : c0 ≤ 1 ∧ s0 ≤ 6)
    (q_13 : Post (1) ([(ou, .inl (C.1.2.2.2.1 1, 1, .inr (.inl of)))] ++ (s_q C.1.2.2.2.1 C.1.2.2.2.2 f_q r_q c_q ++ (s_t C.1.2.2.2.1 C.1.2.2.2.2 f_t g_t ++ (s_r C.1.2.2.2.1 C.1.2.2.2.2 r_r ++ (s_c C.1.2.2.2.1 C.1.2.2.2.2 f_c g_c ++ (P))))))) : zc_La_points C Post c0 s0 11 [(0, .ref (ad C.1 24)), (1, .ref ou)] [.ref y0] ([(ou, .inl (C.1.2.2.2.1 1, 1, .inr (.inl of)))] ++ (s_q C.1.2.2.2.1 C.1.2.2.2.2 f_q r_q c_q ++ (s_t C.1.2.2.2.1 C.1.2.2.2.2 f_t g_t ++ (s_r C.1.2.2.2.1 C.1.2.2.2.2 r_r ++ (s_c C.1.2.2.2.1 C.1.2.2.2.2 f_c g_c ++ (P)))))) := by
  obtain ⟨⟨l, dC, dI, k, a⟩, p, e, s, m, args, below, meth, c, A⟩ := C
  obtain ⟨⟨hx, hb, hr, htz, hown, hlocks, hml, hE, hK, hA⟩, hTab, hlt⟩ := X
  intro H locs ls hl hP hD hS
  have hl : lv_has ls 3 [(0, .ref (a 24)), (1, .ref ou)] := hl
  have hP : va_P (dC, dI) classes ([(ou, .inl (k 1, 1, .inr (.inl of)))] ++ (s_q k a f_q r_q c_q ++ (s_t k a f_t g_t ++ (s_r k a r_r ++ (s_c k a f_c g_c ++ (P)))))) H := hP
  have hD : va_D A ([(ou, .inl (k 1, 1, .inr (.inl of)))] ++ (s_q k a f_q r_q c_q ++ (s_t k a f_t g_t ++ (s_r k a r_r ++ (s_c k a f_c g_c ++ (P)))))) := hD
  show W p l e (z_rm 1 1 6) s m args below meth c H locs c0 s0 _ (F0 m 11 ls [.ref y0])
  refine lv_astore_n (lv' := [(2, .ref y0), (0, .ref (a 24)), (1, .ref ou)]) hx hb d_La_points_11 rfl hl (by decide) rfl (fun ls hl => ?_)
  refine lv_iconst (v := 1) hx hb d_La_points_12 (by decide) ?_
  refine W.widen (k := 1) (n := 6) b_13.1 b_13.2 ?_
  exact W.iret (v := 1) hx hb hr (fun t ht hW => ⟨⟨_, ([(ou, .inl (k 1, 1, .inr (.inl of)))] ++ (s_q k a f_q r_q c_q ++ (s_t k a f_t g_t ++ (s_r k a r_r ++ (s_c k a f_c g_c ++ (P)))))), rfl, q_13, by rw [ht]; exact hP, va_K.moved hW.alike hK, hD⟩, hS.F ht⟩) hS.2.2 d_La_points_13
set_option maxHeartbeats 1000000 in
set_option maxRecDepth 100000 in
theorem e_La_points (T : ST) (hlt : T.1.stackTraces = false) (Post : Int32 → va_W → Prop) (f_q : FT) (r_q : Nat → Nat → Option Nat) (c_q : Nat) (f_t : FT) (g_t : GT) (r_r : Nat → Nat → Option Nat) (f_c : FT) (g_c : GT) (P : va_W) (ou : Nat) (of : Nat → Int64) (h : ∀ C : CT, C.1 = T → cT C "QuestionTextLaw" b_La_points 3 (some .int) [⟨0, 8, 11, 15⟩] → zc_La_points C Post 0 0 0 [(0, .ref (ad C.1 24)), (1, .ref ou)] [] ([(ou, .inl (C.1.2.2.2.1 1, 1, .inr (.inl of)))] ++ (s_q C.1.2.2.2.1 C.1.2.2.2.2 f_q r_q c_q ++ (s_t C.1.2.2.2.1 C.1.2.2.2.2 f_t g_t ++ (s_r C.1.2.2.2.1 C.1.2.2.2.2 r_r ++ (s_c C.1.2.2.2.1 C.1.2.2.2.2 f_c g_c ++ (P))))))) : uI T y_La_points (Cond.codeWith y_La_points b_La_points 3 (some .int) [(0, 8, 11, 15)]) 1 1 6 [.ref (ad T 24), .ref ou] ([(ou, .inl (T.2.2.2.1 1, 1, .inr (.inl of)))] ++ (s_q T.2.2.2.1 T.2.2.2.2 f_q r_q c_q ++ (s_t T.2.2.2.1 T.2.2.2.2 f_t g_t ++ (s_r T.2.2.2.1 T.2.2.2.2 r_r ++ (s_c T.2.2.2.1 T.2.2.2.2 f_c g_c ++ (P)))))) Post := by
  obtain ⟨l, dC, dI, k, a⟩ := T
  intro sz
  refine va_MetW (cc := b_La_points) (maxL := 3) (ret := (some .int)) (by decide) rfl ?_
  intro p e s m args below meth c s₁ B hml hv
  obtain ⟨rfl, hsz, hE, hP, hK, hD0⟩ := hv
  have hts := atoms_spec (ws := (Cond.codeWith y_La_points b_La_points 3 (some .int) [(0, 8, 11, 15)]) :: z_T) B.pre
  have htz : ∀ w ∈ z_T, w.before _ s = true := fun w h => hts w (z_cons w h)
  subst hsz
  have hD := hD0.self (sz := s.heap.size)
  generalize hAe : va_A ([(ou, .inl (k 1, 1, .inr (.inl of)))] ++ (s_q k a f_q r_q c_q ++ (s_t k a f_t g_t ++ (s_r k a r_r ++ (s_c k a f_c g_c ++ (P)))))) s.heap.size = A at hD hE ⊢
  have hA : ∀ q : Nat, s.heap.size ≤ q → A q := fun q h => by rw [← hAe]; exact Or.inr h
  have hl := lv_entry ([.ref (a 24), .ref ou]) (n := 3) (Nat.le_of_ble_eq_true rfl)
  rw [lg_entry_eq]
  generalize (lg_sl ([.ref (a 24), .ref ou]) ++ List.replicate (3 - (lg_sl ([.ref (a 24), .ref ou])).length) Slot.unset).toArray = ls at hl ⊢
  have hTab := vx_table (x := y_La_points) B (htz _ m_La_points)
  exact h ((l, dC, dI, k, a), p, e, s, m, ([.ref (a 24), .ref ou] : List Value).toArray, below, meth, c, A) rfl ⟨⟨B.exec, B.bytes, B.returns, htz, findClass_of_methodNamed B.named, B.notSynchronized, hml, hE, hK, hA⟩, hTab, hlt⟩ s.heap [] ls hl hP hD va_S.rf
def zc_La_asked (C : CT) (Post : Int32 → va_W → Prop) (c0 s0 pc : Nat) (loc : List (Nat × Value)) (st : List Value) (ws : va_W) : Prop := zW C (z_rm 1 1 6) 4 (oI C 1 6 Post) c0 s0 pc loc st ws
set_option maxHeartbeats 1000000 in
set_option maxRecDepth 100000 in
theorem k_La_asked_0 {C : CT} (X : cT C "QuestionTextLaw" b_La_asked 4 (some .int) [⟨0, 9, 12, 13⟩]) (Post : Int32 → va_W → Prop) {P_4 : Int32 → va_W → Prop} {X_4 : String → va_W → Prop} (x1 : Int32) (f_q : FT) (r_q : Nat → Nat → Option Nat) (c_q : Nat) (f_t : FT) (g_t : GT) (r_r : Nat → Nat → Option Nat) (f_c : FT) (g_c : GT) (P : va_W) (ou : Nat) (of : Nat → Int64) (c0 s0 : Nat)
    (b_4 : c0 + 1 ≤ 1 ∧ s0 + 6 ≤ 6)
    (m_4 : xI C.1 y_Q_asked (Cond.code y_Q_asked b_Q_asked 2 (some .int)) 0 1 6 [.ref (ad C.1 24), .int x1] (s_q C.1.2.2.2.1 C.1.2.2.2.2 f_q r_q c_q ++ (s_t C.1.2.2.2.1 C.1.2.2.2.2 f_t g_t ++ (s_r C.1.2.2.2.1 C.1.2.2.2.2 r_r ++ (s_c C.1.2.2.2.1 C.1.2.2.2.2 f_c g_c ++ (P))))) P_4 X_4)
    (k_4 : ∀ (r : Int32) (u : va_W), P_4 r u → zc_La_asked C Post (c0 + 1) (s0 + 6) 7 [(0, .ref (ad C.1 24)), (1, .int x1), (2, .ref ou)] [.int r, .int 0, .ref ou] ([(ou, .inl (C.1.2.2.2.1 1, 1, .inr (.inl of)))] ++ (u)))
    (x_4 : ∀ (E : String) (u : va_W), X_4 E u → E = "java/lang/IllegalArgumentException" ∧ ∀ q9 : Nat, zc_La_asked C Post (c0 + 1) (s0 + 6) 12 [(0, .ref (ad C.1 24)), (1, .int x1), (2, .ref ou)] [.ref q9] ([(ou, .inl (C.1.2.2.2.1 1, 1, .inr (.inl of)))] ++ (u))) : zc_La_asked C Post c0 s0 0 [(0, .ref (ad C.1 24)), (1, .int x1), (2, .ref ou)] [] ([(ou, .inl (C.1.2.2.2.1 1, 1, .inr (.inl of)))] ++ (s_q C.1.2.2.2.1 C.1.2.2.2.2 f_q r_q c_q ++ (s_t C.1.2.2.2.1 C.1.2.2.2.2 f_t g_t ++ (s_r C.1.2.2.2.1 C.1.2.2.2.2 r_r ++ (s_c C.1.2.2.2.1 C.1.2.2.2.2 f_c g_c ++ (P)))))) := by
  obtain ⟨⟨l, dC, dI, k, a⟩, p, e, s, m, args, below, meth, c, A⟩ := C
  obtain ⟨⟨hx, hb, hr, htz, hown, hlocks, hml, hE, hK, hA⟩, hTab, hlt⟩ := X
  intro H locs ls hl hP hD hS
  have hl : lv_has ls 4 [(0, .ref (a 24)), (1, .int x1), (2, .ref ou)] := hl
  have hP : va_P (dC, dI) classes ([(ou, .inl (k 1, 1, .inr (.inl of)))] ++ (s_q k a f_q r_q c_q ++ (s_t k a f_t g_t ++ (s_r k a r_r ++ (s_c k a f_c g_c ++ (P)))))) H := hP
  have hD : va_D A ([(ou, .inl (k 1, 1, .inr (.inl of)))] ++ (s_q k a f_q r_q c_q ++ (s_t k a f_t g_t ++ (s_r k a r_r ++ (s_c k a f_c g_c ++ (P)))))) := hD
  show W p l e (z_rm 1 1 6) s m args below meth c H locs c0 s0 _ (F0 m 0 ls [])
  refine lv_aload_n hx hb d_La_asked_0 rfl (lv_at hl 2 rfl) ?_
  refine lv_iconst (v := 0) hx hb d_La_asked_1 (by decide) ?_
  refine lv_aload_n hx hb d_La_asked_2 rfl (lv_at hl 0 rfl) ?_
  refine lv_iload_n hx hb d_La_asked_3 rfl (lv_at hl 1 rfl) ?_
  have hPf : va_P (dC, dI) classes (([(ou, .inl (k 1, 1, .inr (.inl of)))]) ++ ((s_q k a f_q r_q c_q ++ (s_t k a f_t g_t ++ (s_r k a r_r ++ (s_c k a f_c g_c ++ (P))))) ++ ([]))) H := by rw [List.append_nil]; exact hP
  have hDf : va_D A (([(ou, .inl (k 1, 1, .inr (.inl of)))]) ++ ((s_q k a f_q r_q c_q ++ (s_t k a f_t g_t ++ (s_r k a r_r ++ (s_c k a f_c g_c ++ (P))))) ++ ([]))) := by rw [List.append_nil]; exact hD
  have hFc := zfree hDf hS hA
  refine vx_calli (vx_runV (As := [.int x1]) (rest := [.int 0, .ref ou]) ⟨hx, hb, hml, hown, htz⟩ (m_4 H.size) (cwV 1 htz (z_gV (fun _ h => h) km_La_37 in_Q_asked se_Q_asked ini_Q m_Q_asked) rfl rfl rfl (by decide +kernel) ⟨(Nat.le_of_ble_eq_true rfl), (Nat.le_of_ble_eq_true rfl)⟩) ⟨z_blind, va_recv hK hP (ci := 0) (q0 := 1) rfl rfl, fun U hU hW => ⟨rfl, by rw [hU], hE.call hS hFc hU hW, by rw [hU]; exact (zPc hPf), va_K.moved hW.alike hK, (zDc hDf)⟩⟩ rfl rfl hl.1 rfl (lv_room (Nat.le_of_ble_eq_true rfl)) d_La_asked_4 b_4) hS (fun q _ h => hFc q h) hFc (fun q _ h => hFc q h) (fun E ce q9 u t H1 locs ht hvm hw hB hz1 hk1 hS hce hcv hcl => ?_) (fun r u t H1 locs ht hvm hw hB hz1 hk1 hS => ?_)
  · obtain ⟨hxe, hP1, hK1, hD1⟩ := hB
    rw [ht] at hP1
    obtain ⟨hP, hD⟩ := zf hPf hDf hk1 hFc hP1 hD1
    rw [List.append_nil] at hP hD
    obtain ⟨rfl, hz9⟩ := x_4 E u hxe
    refine vx_catch hown [] ⟨0, 9, 12, 13⟩ [] hTab (fun z hz => nomatch hz) (by decide) (by decide) (htz _ kc_La_13) (va_Nw.use rfl (hE.2.1 _ ca_IAE)) hce hcv hcl ?_
    exact hz9 q9 H1 locs ls (lv_sub hl [0, 1, 2] rfl) hP hD hS
  · obtain ⟨hP1, hK1, hD1⟩ := hB
    rw [ht] at hP1
    obtain ⟨hP, hD⟩ := zf hPf hDf hk1 hFc hP1 hD1
    rw [List.append_nil] at hP hD
    exact k_4 r _ hw H1 locs ls (lv_sub hl [0, 1, 2] rfl) hP hD hS
set_option maxHeartbeats 1000000 in
set_option maxRecDepth 100000 in
theorem k_La_asked_7 {C : CT} (X : cT C "QuestionTextLaw" b_La_asked 4 (some .int) [⟨0, 9, 12, 13⟩]) (Post : Int32 → va_W → Prop) (x1 : Int32) (y0 : Int32) (y1 : Int32) (f_q : FT) (r_q : Nat → Nat → Option Nat) (c_q : Nat) (f_t : FT) (g_t : GT) (r_r : Nat → Nat → Option Nat) (f_c : FT) (g_c : GT) (P : va_W) (ou : Nat) (of : Nat → Int64) (c0 s0 : Nat)
    (h_8 : vp_in (y1) 1)
    (b_16 : c0 ≤ 1 ∧ s0 ≤ 6)
    (q_16 : Post (0) ([(ou, .inl (C.1.2.2.2.1 1, 1, .inr (.inl (vp_updL of (y1 : Int32).toNatClampNeg y0.toInt64))))] ++ (s_q C.1.2.2.2.1 C.1.2.2.2.2 f_q r_q c_q ++ (s_t C.1.2.2.2.1 C.1.2.2.2.2 f_t g_t ++ (s_r C.1.2.2.2.1 C.1.2.2.2.2 r_r ++ (s_c C.1.2.2.2.1 C.1.2.2.2.2 f_c g_c ++ (P))))))) : zc_La_asked C Post c0 s0 7 [(0, .ref (ad C.1 24)), (1, .int x1), (2, .ref ou)] [.int y0, .int y1, .ref ou] ([(ou, .inl (C.1.2.2.2.1 1, 1, .inr (.inl of)))] ++ (s_q C.1.2.2.2.1 C.1.2.2.2.2 f_q r_q c_q ++ (s_t C.1.2.2.2.1 C.1.2.2.2.2 f_t g_t ++ (s_r C.1.2.2.2.1 C.1.2.2.2.2 r_r ++ (s_c C.1.2.2.2.1 C.1.2.2.2.2 f_c g_c ++ (P)))))) := by
  obtain ⟨⟨l, dC, dI, k, a⟩, p, e, s, m, args, below, meth, c, A⟩ := C
  obtain ⟨⟨hx, hb, hr, htz, hown, hlocks, hml, hE, hK, hA⟩, hTab, hlt⟩ := X
  intro H locs ls hl hP hD hS
  have hl : lv_has ls 4 [(0, .ref (a 24)), (1, .int x1), (2, .ref ou)] := hl
  have hP : va_P (dC, dI) classes ([(ou, .inl (k 1, 1, .inr (.inl of)))] ++ (s_q k a f_q r_q c_q ++ (s_t k a f_t g_t ++ (s_r k a r_r ++ (s_c k a f_c g_c ++ (P)))))) H := hP
  have hD : va_D A ([(ou, .inl (k 1, 1, .inr (.inl of)))] ++ (s_q k a f_q r_q c_q ++ (s_t k a f_t g_t ++ (s_r k a r_r ++ (s_c k a f_c g_c ++ (P)))))) := hD
  show W p l e (z_rm 1 1 6) s m args below meth c H locs c0 s0 _ (F0 m 7 ls [.int y0, .int y1, .ref ou])
  refine lv_i2l (v := y0.toInt64) hx hb d_La_asked_7 rfl ?_
  refine va_last hx hb hK hP hD hS 0 1 rfl rfl h_8 d_La_asked_8 (fun H locs hP hD hS => ?_)
  have hP : va_P (dC, dI) classes ([(ou, .inl (k 1, 1, .inr (.inl (vp_updL of (y1 : Int32).toNatClampNeg y0.toInt64))))] ++ (s_q k a f_q r_q c_q ++ (s_t k a f_t g_t ++ (s_r k a r_r ++ (s_c k a f_c g_c ++ (P)))))) H := hP
  have hD : va_D A ([(ou, .inl (k 1, 1, .inr (.inl (vp_updL of (y1 : Int32).toNatClampNeg y0.toInt64))))] ++ (s_q k a f_q r_q c_q ++ (s_t k a f_t g_t ++ (s_r k a r_r ++ (s_c k a f_c g_c ++ (P)))))) := hD
  refine lv_goto (tgt := 15) hx hb d_La_asked_9 (by decide) ?_
  refine lv_iconst (v := 0) hx hb d_La_asked_15 (by decide) ?_
  refine W.widen (k := 1) (n := 6) b_16.1 b_16.2 ?_
  exact W.iret (v := 0) hx hb hr (fun t ht hW => ⟨⟨_, ([(ou, .inl (k 1, 1, .inr (.inl (vp_updL of (y1 : Int32).toNatClampNeg y0.toInt64))))] ++ (s_q k a f_q r_q c_q ++ (s_t k a f_t g_t ++ (s_r k a r_r ++ (s_c k a f_c g_c ++ (P)))))), rfl, q_16, by rw [ht]; exact hP, va_K.moved hW.alike hK, hD⟩, hS.F ht⟩) hS.2.2 d_La_asked_16
set_option maxHeartbeats 1000000 in
set_option maxRecDepth 100000 in
theorem k_La_asked_12 {C : CT} (X : cT C "QuestionTextLaw" b_La_asked 4 (some .int) [⟨0, 9, 12, 13⟩]) (Post : Int32 → va_W → Prop) (x1 : Int32) (y0 : Nat) (f_q : FT) (r_q : Nat → Nat → Option Nat) (c_q : Nat) (f_t : FT) (g_t : GT) (r_r : Nat → Nat → Option Nat) (f_c : FT) (g_c : GT) (P : va_W) (ou : Nat) (of : Nat → Int64) (c0 s0 : Nat)
    (b_14 : c0 ≤ 1 ∧ s0 ≤ 6)
    (q_14 : Post (1) ([(ou, .inl (C.1.2.2.2.1 1, 1, .inr (.inl of)))] ++ (s_q C.1.2.2.2.1 C.1.2.2.2.2 f_q r_q c_q ++ (s_t C.1.2.2.2.1 C.1.2.2.2.2 f_t g_t ++ (s_r C.1.2.2.2.1 C.1.2.2.2.2 r_r ++ (s_c C.1.2.2.2.1 C.1.2.2.2.2 f_c g_c ++ (P))))))) : zc_La_asked C Post c0 s0 12 [(0, .ref (ad C.1 24)), (1, .int x1), (2, .ref ou)] [.ref y0] ([(ou, .inl (C.1.2.2.2.1 1, 1, .inr (.inl of)))] ++ (s_q C.1.2.2.2.1 C.1.2.2.2.2 f_q r_q c_q ++ (s_t C.1.2.2.2.1 C.1.2.2.2.2 f_t g_t ++ (s_r C.1.2.2.2.1 C.1.2.2.2.2 r_r ++ (s_c C.1.2.2.2.1 C.1.2.2.2.2 f_c g_c ++ (P)))))) := by
  obtain ⟨⟨l, dC, dI, k, a⟩, p, e, s, m, args, below, meth, c, A⟩ := C
  obtain ⟨⟨hx, hb, hr, htz, hown, hlocks, hml, hE, hK, hA⟩, hTab, hlt⟩ := X
  intro H locs ls hl hP hD hS
  have hl : lv_has ls 4 [(0, .ref (a 24)), (1, .int x1), (2, .ref ou)] := hl
  have hP : va_P (dC, dI) classes ([(ou, .inl (k 1, 1, .inr (.inl of)))] ++ (s_q k a f_q r_q c_q ++ (s_t k a f_t g_t ++ (s_r k a r_r ++ (s_c k a f_c g_c ++ (P)))))) H := hP
  have hD : va_D A ([(ou, .inl (k 1, 1, .inr (.inl of)))] ++ (s_q k a f_q r_q c_q ++ (s_t k a f_t g_t ++ (s_r k a r_r ++ (s_c k a f_c g_c ++ (P)))))) := hD
  show W p l e (z_rm 1 1 6) s m args below meth c H locs c0 s0 _ (F0 m 12 ls [.ref y0])
  refine lv_astore_n (lv' := [(3, .ref y0), (0, .ref (a 24)), (1, .int x1), (2, .ref ou)]) hx hb d_La_asked_12 rfl hl (by decide) rfl (fun ls hl => ?_)
  refine lv_iconst (v := 1) hx hb d_La_asked_13 (by decide) ?_
  refine W.widen (k := 1) (n := 6) b_14.1 b_14.2 ?_
  exact W.iret (v := 1) hx hb hr (fun t ht hW => ⟨⟨_, ([(ou, .inl (k 1, 1, .inr (.inl of)))] ++ (s_q k a f_q r_q c_q ++ (s_t k a f_t g_t ++ (s_r k a r_r ++ (s_c k a f_c g_c ++ (P)))))), rfl, q_14, by rw [ht]; exact hP, va_K.moved hW.alike hK, hD⟩, hS.F ht⟩) hS.2.2 d_La_asked_14
set_option maxHeartbeats 1000000 in
set_option maxRecDepth 100000 in
theorem e_La_asked (T : ST) (hlt : T.1.stackTraces = false) (Post : Int32 → va_W → Prop) (x1 : Int32) (f_q : FT) (r_q : Nat → Nat → Option Nat) (c_q : Nat) (f_t : FT) (g_t : GT) (r_r : Nat → Nat → Option Nat) (f_c : FT) (g_c : GT) (P : va_W) (ou : Nat) (of : Nat → Int64) (h : ∀ C : CT, C.1 = T → cT C "QuestionTextLaw" b_La_asked 4 (some .int) [⟨0, 9, 12, 13⟩] → zc_La_asked C Post 0 0 0 [(0, .ref (ad C.1 24)), (1, .int x1), (2, .ref ou)] [] ([(ou, .inl (C.1.2.2.2.1 1, 1, .inr (.inl of)))] ++ (s_q C.1.2.2.2.1 C.1.2.2.2.2 f_q r_q c_q ++ (s_t C.1.2.2.2.1 C.1.2.2.2.2 f_t g_t ++ (s_r C.1.2.2.2.1 C.1.2.2.2.2 r_r ++ (s_c C.1.2.2.2.1 C.1.2.2.2.2 f_c g_c ++ (P))))))) : uI T y_La_asked (Cond.codeWith y_La_asked b_La_asked 4 (some .int) [(0, 9, 12, 13)]) 1 1 6 [.ref (ad T 24), .int x1, .ref ou] ([(ou, .inl (T.2.2.2.1 1, 1, .inr (.inl of)))] ++ (s_q T.2.2.2.1 T.2.2.2.2 f_q r_q c_q ++ (s_t T.2.2.2.1 T.2.2.2.2 f_t g_t ++ (s_r T.2.2.2.1 T.2.2.2.2 r_r ++ (s_c T.2.2.2.1 T.2.2.2.2 f_c g_c ++ (P)))))) Post := by
  obtain ⟨l, dC, dI, k, a⟩ := T
  intro sz
  refine va_MetW (cc := b_La_asked) (maxL := 4) (ret := (some .int)) (by decide) rfl ?_
  intro p e s m args below meth c s₁ B hml hv
  obtain ⟨rfl, hsz, hE, hP, hK, hD0⟩ := hv
  have hts := atoms_spec (ws := (Cond.codeWith y_La_asked b_La_asked 4 (some .int) [(0, 9, 12, 13)]) :: z_T) B.pre
  have htz : ∀ w ∈ z_T, w.before _ s = true := fun w h => hts w (z_cons w h)
  subst hsz
  have hD := hD0.self (sz := s.heap.size)
  generalize hAe : va_A ([(ou, .inl (k 1, 1, .inr (.inl of)))] ++ (s_q k a f_q r_q c_q ++ (s_t k a f_t g_t ++ (s_r k a r_r ++ (s_c k a f_c g_c ++ (P)))))) s.heap.size = A at hD hE ⊢
  have hA : ∀ q : Nat, s.heap.size ≤ q → A q := fun q h => by rw [← hAe]; exact Or.inr h
  have hl := lv_entry ([.ref (a 24), .int x1, .ref ou]) (n := 4) (Nat.le_of_ble_eq_true rfl)
  rw [lg_entry_eq]
  generalize (lg_sl ([.ref (a 24), .int x1, .ref ou]) ++ List.replicate (4 - (lg_sl ([.ref (a 24), .int x1, .ref ou])).length) Slot.unset).toArray = ls at hl ⊢
  have hTab := vx_table (x := y_La_asked) B (htz _ m_La_asked)
  exact h ((l, dC, dI, k, a), p, e, s, m, ([.ref (a 24), .int x1, .ref ou] : List Value).toArray, below, meth, c, A) rfl ⟨⟨B.exec, B.bytes, B.returns, htz, findClass_of_methodNamed B.named, B.notSynchronized, hml, hE, hK, hA⟩, hTab, hlt⟩ s.heap [] ls hl hP hD va_S.rf
def zc_La_loop (C : CT) (Post : Int32 → va_W → Prop) (c0 s0 pc : Nat) (loc : List (Nat × Value)) (st : List Value) (ws : va_W) : Prop := zW C (z_rm 3 1 6) 4 (oI C 1 6 Post) c0 s0 pc loc st ws
set_option maxHeartbeats 1000000 in
set_option maxRecDepth 100000 in
theorem k_La_loop_0 {C : CT} (X : cT C "QuestionTextLaw" b_La_loop 4 (some .int) [⟨0, 9, 12, 13⟩]) (Post : Int32 → va_W → Prop) {P_4 : Int32 → va_W → Prop} {X_4 : String → va_W → Prop} (x1 : Int32) (f_q : FT) (r_q : Nat → Nat → Option Nat) (c_q : Nat) (f_t : FT) (g_t : GT) (r_r : Nat → Nat → Option Nat) (f_c : FT) (g_c : GT) (P : va_W) (ou : Nat) (of : Nat → Int64) (c0 s0 : Nat)
    (b_4 : c0 + 1 ≤ 1 ∧ s0 + 6 ≤ 6)
    (m_4 : xI C.1 y_Q_loop (Cond.code y_Q_loop b_Q_loop 2 (some .int)) 2 1 6 [.ref (ad C.1 24), .int x1] (s_q C.1.2.2.2.1 C.1.2.2.2.2 f_q r_q c_q ++ (s_t C.1.2.2.2.1 C.1.2.2.2.2 f_t g_t ++ (s_r C.1.2.2.2.1 C.1.2.2.2.2 r_r ++ (s_c C.1.2.2.2.1 C.1.2.2.2.2 f_c g_c ++ (P))))) P_4 X_4)
    (k_4 : ∀ (r : Int32) (u : va_W), P_4 r u → zc_La_loop C Post (c0 + 1) (s0 + 6) 7 [(0, .ref (ad C.1 24)), (1, .int x1), (2, .ref ou)] [.int r, .int 0, .ref ou] ([(ou, .inl (C.1.2.2.2.1 1, 1, .inr (.inl of)))] ++ (u)))
    (x_4 : ∀ (E : String) (u : va_W), X_4 E u → E = "java/lang/IllegalArgumentException" ∧ ∀ q9 : Nat, zc_La_loop C Post (c0 + 1) (s0 + 6) 12 [(0, .ref (ad C.1 24)), (1, .int x1), (2, .ref ou)] [.ref q9] ([(ou, .inl (C.1.2.2.2.1 1, 1, .inr (.inl of)))] ++ (u))) : zc_La_loop C Post c0 s0 0 [(0, .ref (ad C.1 24)), (1, .int x1), (2, .ref ou)] [] ([(ou, .inl (C.1.2.2.2.1 1, 1, .inr (.inl of)))] ++ (s_q C.1.2.2.2.1 C.1.2.2.2.2 f_q r_q c_q ++ (s_t C.1.2.2.2.1 C.1.2.2.2.2 f_t g_t ++ (s_r C.1.2.2.2.1 C.1.2.2.2.2 r_r ++ (s_c C.1.2.2.2.1 C.1.2.2.2.2 f_c g_c ++ (P)))))) := by
  obtain ⟨⟨l, dC, dI, k, a⟩, p, e, s, m, args, below, meth, c, A⟩ := C
  obtain ⟨⟨hx, hb, hr, htz, hown, hlocks, hml, hE, hK, hA⟩, hTab, hlt⟩ := X
  intro H locs ls hl hP hD hS
  have hl : lv_has ls 4 [(0, .ref (a 24)), (1, .int x1), (2, .ref ou)] := hl
  have hP : va_P (dC, dI) classes ([(ou, .inl (k 1, 1, .inr (.inl of)))] ++ (s_q k a f_q r_q c_q ++ (s_t k a f_t g_t ++ (s_r k a r_r ++ (s_c k a f_c g_c ++ (P)))))) H := hP
  have hD : va_D A ([(ou, .inl (k 1, 1, .inr (.inl of)))] ++ (s_q k a f_q r_q c_q ++ (s_t k a f_t g_t ++ (s_r k a r_r ++ (s_c k a f_c g_c ++ (P)))))) := hD
  show W p l e (z_rm 3 1 6) s m args below meth c H locs c0 s0 _ (F0 m 0 ls [])
  refine lv_aload_n hx hb d_La_loop_0 rfl (lv_at hl 2 rfl) ?_
  refine lv_iconst (v := 0) hx hb d_La_loop_1 (by decide) ?_
  refine lv_aload_n hx hb d_La_loop_2 rfl (lv_at hl 0 rfl) ?_
  refine lv_iload_n hx hb d_La_loop_3 rfl (lv_at hl 1 rfl) ?_
  have hPf : va_P (dC, dI) classes (([(ou, .inl (k 1, 1, .inr (.inl of)))]) ++ ((s_q k a f_q r_q c_q ++ (s_t k a f_t g_t ++ (s_r k a r_r ++ (s_c k a f_c g_c ++ (P))))) ++ ([]))) H := by rw [List.append_nil]; exact hP
  have hDf : va_D A (([(ou, .inl (k 1, 1, .inr (.inl of)))]) ++ ((s_q k a f_q r_q c_q ++ (s_t k a f_t g_t ++ (s_r k a r_r ++ (s_c k a f_c g_c ++ (P))))) ++ ([]))) := by rw [List.append_nil]; exact hD
  have hFc := zfree hDf hS hA
  refine vx_calli (vx_runV (As := [.int x1]) (rest := [.int 0, .ref ou]) ⟨hx, hb, hml, hown, htz⟩ (m_4 H.size) (cwV 1 htz (z_gV (fun _ h => h) km_La_40 in_Q_loop se_Q_loop ini_Q m_Q_loop) rfl rfl rfl (by decide +kernel) ⟨(Nat.le_of_ble_eq_true rfl), (Nat.le_of_ble_eq_true rfl)⟩) ⟨z_blind, va_recv hK hP (ci := 0) (q0 := 1) rfl rfl, fun U hU hW => ⟨rfl, by rw [hU], hE.call hS hFc hU hW, by rw [hU]; exact (zPc hPf), va_K.moved hW.alike hK, (zDc hDf)⟩⟩ rfl rfl hl.1 rfl (lv_room (Nat.le_of_ble_eq_true rfl)) d_La_loop_4 b_4) hS (fun q _ h => hFc q h) hFc (fun q _ h => hFc q h) (fun E ce q9 u t H1 locs ht hvm hw hB hz1 hk1 hS hce hcv hcl => ?_) (fun r u t H1 locs ht hvm hw hB hz1 hk1 hS => ?_)
  · obtain ⟨hxe, hP1, hK1, hD1⟩ := hB
    rw [ht] at hP1
    obtain ⟨hP, hD⟩ := zf hPf hDf hk1 hFc hP1 hD1
    rw [List.append_nil] at hP hD
    obtain ⟨rfl, hz9⟩ := x_4 E u hxe
    refine vx_catch hown [] ⟨0, 9, 12, 13⟩ [] hTab (fun z hz => nomatch hz) (by decide) (by decide) (htz _ kc_La_13) (va_Nw.use rfl (hE.2.1 _ ca_IAE)) hce hcv hcl ?_
    exact hz9 q9 H1 locs ls (lv_sub hl [0, 1, 2] rfl) hP hD hS
  · obtain ⟨hP1, hK1, hD1⟩ := hB
    rw [ht] at hP1
    obtain ⟨hP, hD⟩ := zf hPf hDf hk1 hFc hP1 hD1
    rw [List.append_nil] at hP hD
    exact k_4 r _ hw H1 locs ls (lv_sub hl [0, 1, 2] rfl) hP hD hS
set_option maxHeartbeats 1000000 in
set_option maxRecDepth 100000 in
theorem k_La_loop_7 {C : CT} (X : cT C "QuestionTextLaw" b_La_loop 4 (some .int) [⟨0, 9, 12, 13⟩]) (Post : Int32 → va_W → Prop) (x1 : Int32) (y0 : Int32) (y1 : Int32) (f_q : FT) (r_q : Nat → Nat → Option Nat) (c_q : Nat) (f_t : FT) (g_t : GT) (r_r : Nat → Nat → Option Nat) (f_c : FT) (g_c : GT) (P : va_W) (ou : Nat) (of : Nat → Int64) (c0 s0 : Nat)
    (h_8 : vp_in (y1) 1)
    (b_16 : c0 ≤ 1 ∧ s0 ≤ 6)
    (q_16 : Post (0) ([(ou, .inl (C.1.2.2.2.1 1, 1, .inr (.inl (vp_updL of (y1 : Int32).toNatClampNeg y0.toInt64))))] ++ (s_q C.1.2.2.2.1 C.1.2.2.2.2 f_q r_q c_q ++ (s_t C.1.2.2.2.1 C.1.2.2.2.2 f_t g_t ++ (s_r C.1.2.2.2.1 C.1.2.2.2.2 r_r ++ (s_c C.1.2.2.2.1 C.1.2.2.2.2 f_c g_c ++ (P))))))) : zc_La_loop C Post c0 s0 7 [(0, .ref (ad C.1 24)), (1, .int x1), (2, .ref ou)] [.int y0, .int y1, .ref ou] ([(ou, .inl (C.1.2.2.2.1 1, 1, .inr (.inl of)))] ++ (s_q C.1.2.2.2.1 C.1.2.2.2.2 f_q r_q c_q ++ (s_t C.1.2.2.2.1 C.1.2.2.2.2 f_t g_t ++ (s_r C.1.2.2.2.1 C.1.2.2.2.2 r_r ++ (s_c C.1.2.2.2.1 C.1.2.2.2.2 f_c g_c ++ (P)))))) := by
  obtain ⟨⟨l, dC, dI, k, a⟩, p, e, s, m, args, below, meth, c, A⟩ := C
  obtain ⟨⟨hx, hb, hr, htz, hown, hlocks, hml, hE, hK, hA⟩, hTab, hlt⟩ := X
  intro H locs ls hl hP hD hS
  have hl : lv_has ls 4 [(0, .ref (a 24)), (1, .int x1), (2, .ref ou)] := hl
  have hP : va_P (dC, dI) classes ([(ou, .inl (k 1, 1, .inr (.inl of)))] ++ (s_q k a f_q r_q c_q ++ (s_t k a f_t g_t ++ (s_r k a r_r ++ (s_c k a f_c g_c ++ (P)))))) H := hP
  have hD : va_D A ([(ou, .inl (k 1, 1, .inr (.inl of)))] ++ (s_q k a f_q r_q c_q ++ (s_t k a f_t g_t ++ (s_r k a r_r ++ (s_c k a f_c g_c ++ (P)))))) := hD
  show W p l e (z_rm 3 1 6) s m args below meth c H locs c0 s0 _ (F0 m 7 ls [.int y0, .int y1, .ref ou])
  refine lv_i2l (v := y0.toInt64) hx hb d_La_loop_7 rfl ?_
  refine va_last hx hb hK hP hD hS 0 1 rfl rfl h_8 d_La_loop_8 (fun H locs hP hD hS => ?_)
  have hP : va_P (dC, dI) classes ([(ou, .inl (k 1, 1, .inr (.inl (vp_updL of (y1 : Int32).toNatClampNeg y0.toInt64))))] ++ (s_q k a f_q r_q c_q ++ (s_t k a f_t g_t ++ (s_r k a r_r ++ (s_c k a f_c g_c ++ (P)))))) H := hP
  have hD : va_D A ([(ou, .inl (k 1, 1, .inr (.inl (vp_updL of (y1 : Int32).toNatClampNeg y0.toInt64))))] ++ (s_q k a f_q r_q c_q ++ (s_t k a f_t g_t ++ (s_r k a r_r ++ (s_c k a f_c g_c ++ (P)))))) := hD
  refine lv_goto (tgt := 15) hx hb d_La_loop_9 (by decide) ?_
  refine lv_iconst (v := 0) hx hb d_La_loop_15 (by decide) ?_
  refine W.widen (k := 1) (n := 6) b_16.1 b_16.2 ?_
  exact W.iret (v := 0) hx hb hr (fun t ht hW => ⟨⟨_, ([(ou, .inl (k 1, 1, .inr (.inl (vp_updL of (y1 : Int32).toNatClampNeg y0.toInt64))))] ++ (s_q k a f_q r_q c_q ++ (s_t k a f_t g_t ++ (s_r k a r_r ++ (s_c k a f_c g_c ++ (P)))))), rfl, q_16, by rw [ht]; exact hP, va_K.moved hW.alike hK, hD⟩, hS.F ht⟩) hS.2.2 d_La_loop_16
set_option maxHeartbeats 1000000 in
set_option maxRecDepth 100000 in
theorem k_La_loop_12 {C : CT} (X : cT C "QuestionTextLaw" b_La_loop 4 (some .int) [⟨0, 9, 12, 13⟩]) (Post : Int32 → va_W → Prop) (x1 : Int32) (y0 : Nat) (f_q : FT) (r_q : Nat → Nat → Option Nat) (c_q : Nat) (f_t : FT) (g_t : GT) (r_r : Nat → Nat → Option Nat) (f_c : FT) (g_c : GT) (P : va_W) (ou : Nat) (of : Nat → Int64) (c0 s0 : Nat)
    (b_14 : c0 ≤ 1 ∧ s0 ≤ 6)
    (q_14 : Post (1) ([(ou, .inl (C.1.2.2.2.1 1, 1, .inr (.inl of)))] ++ (s_q C.1.2.2.2.1 C.1.2.2.2.2 f_q r_q c_q ++ (s_t C.1.2.2.2.1 C.1.2.2.2.2 f_t g_t ++ (s_r C.1.2.2.2.1 C.1.2.2.2.2 r_r ++ (s_c C.1.2.2.2.1 C.1.2.2.2.2 f_c g_c ++ (P))))))) : zc_La_loop C Post c0 s0 12 [(0, .ref (ad C.1 24)), (1, .int x1), (2, .ref ou)] [.ref y0] ([(ou, .inl (C.1.2.2.2.1 1, 1, .inr (.inl of)))] ++ (s_q C.1.2.2.2.1 C.1.2.2.2.2 f_q r_q c_q ++ (s_t C.1.2.2.2.1 C.1.2.2.2.2 f_t g_t ++ (s_r C.1.2.2.2.1 C.1.2.2.2.2 r_r ++ (s_c C.1.2.2.2.1 C.1.2.2.2.2 f_c g_c ++ (P)))))) := by
  obtain ⟨⟨l, dC, dI, k, a⟩, p, e, s, m, args, below, meth, c, A⟩ := C
  obtain ⟨⟨hx, hb, hr, htz, hown, hlocks, hml, hE, hK, hA⟩, hTab, hlt⟩ := X
  intro H locs ls hl hP hD hS
  have hl : lv_has ls 4 [(0, .ref (a 24)), (1, .int x1), (2, .ref ou)] := hl
  have hP : va_P (dC, dI) classes ([(ou, .inl (k 1, 1, .inr (.inl of)))] ++ (s_q k a f_q r_q c_q ++ (s_t k a f_t g_t ++ (s_r k a r_r ++ (s_c k a f_c g_c ++ (P)))))) H := hP
  have hD : va_D A ([(ou, .inl (k 1, 1, .inr (.inl of)))] ++ (s_q k a f_q r_q c_q ++ (s_t k a f_t g_t ++ (s_r k a r_r ++ (s_c k a f_c g_c ++ (P)))))) := hD
  show W p l e (z_rm 3 1 6) s m args below meth c H locs c0 s0 _ (F0 m 12 ls [.ref y0])
  refine lv_astore_n (lv' := [(3, .ref y0), (0, .ref (a 24)), (1, .int x1), (2, .ref ou)]) hx hb d_La_loop_12 rfl hl (by decide) rfl (fun ls hl => ?_)
  refine lv_iconst (v := 1) hx hb d_La_loop_13 (by decide) ?_
  refine W.widen (k := 1) (n := 6) b_14.1 b_14.2 ?_
  exact W.iret (v := 1) hx hb hr (fun t ht hW => ⟨⟨_, ([(ou, .inl (k 1, 1, .inr (.inl of)))] ++ (s_q k a f_q r_q c_q ++ (s_t k a f_t g_t ++ (s_r k a r_r ++ (s_c k a f_c g_c ++ (P)))))), rfl, q_14, by rw [ht]; exact hP, va_K.moved hW.alike hK, hD⟩, hS.F ht⟩) hS.2.2 d_La_loop_14
set_option maxHeartbeats 1000000 in
set_option maxRecDepth 100000 in
theorem e_La_loop (T : ST) (hlt : T.1.stackTraces = false) (Post : Int32 → va_W → Prop) (x1 : Int32) (f_q : FT) (r_q : Nat → Nat → Option Nat) (c_q : Nat) (f_t : FT) (g_t : GT) (r_r : Nat → Nat → Option Nat) (f_c : FT) (g_c : GT) (P : va_W) (ou : Nat) (of : Nat → Int64) (h : ∀ C : CT, C.1 = T → cT C "QuestionTextLaw" b_La_loop 4 (some .int) [⟨0, 9, 12, 13⟩] → zc_La_loop C Post 0 0 0 [(0, .ref (ad C.1 24)), (1, .int x1), (2, .ref ou)] [] ([(ou, .inl (C.1.2.2.2.1 1, 1, .inr (.inl of)))] ++ (s_q C.1.2.2.2.1 C.1.2.2.2.2 f_q r_q c_q ++ (s_t C.1.2.2.2.1 C.1.2.2.2.2 f_t g_t ++ (s_r C.1.2.2.2.1 C.1.2.2.2.2 r_r ++ (s_c C.1.2.2.2.1 C.1.2.2.2.2 f_c g_c ++ (P))))))) : uI T y_La_loop (Cond.codeWith y_La_loop b_La_loop 4 (some .int) [(0, 9, 12, 13)]) 3 1 6 [.ref (ad T 24), .int x1, .ref ou] ([(ou, .inl (T.2.2.2.1 1, 1, .inr (.inl of)))] ++ (s_q T.2.2.2.1 T.2.2.2.2 f_q r_q c_q ++ (s_t T.2.2.2.1 T.2.2.2.2 f_t g_t ++ (s_r T.2.2.2.1 T.2.2.2.2 r_r ++ (s_c T.2.2.2.1 T.2.2.2.2 f_c g_c ++ (P)))))) Post := by
  obtain ⟨l, dC, dI, k, a⟩ := T
  intro sz
  refine va_MetW (cc := b_La_loop) (maxL := 4) (ret := (some .int)) (by decide) rfl ?_
  intro p e s m args below meth c s₁ B hml hv
  obtain ⟨rfl, hsz, hE, hP, hK, hD0⟩ := hv
  have hts := atoms_spec (ws := (Cond.codeWith y_La_loop b_La_loop 4 (some .int) [(0, 9, 12, 13)]) :: z_T) B.pre
  have htz : ∀ w ∈ z_T, w.before _ s = true := fun w h => hts w (z_cons w h)
  subst hsz
  have hD := hD0.self (sz := s.heap.size)
  generalize hAe : va_A ([(ou, .inl (k 1, 1, .inr (.inl of)))] ++ (s_q k a f_q r_q c_q ++ (s_t k a f_t g_t ++ (s_r k a r_r ++ (s_c k a f_c g_c ++ (P)))))) s.heap.size = A at hD hE ⊢
  have hA : ∀ q : Nat, s.heap.size ≤ q → A q := fun q h => by rw [← hAe]; exact Or.inr h
  have hl := lv_entry ([.ref (a 24), .int x1, .ref ou]) (n := 4) (Nat.le_of_ble_eq_true rfl)
  rw [lg_entry_eq]
  generalize (lg_sl ([.ref (a 24), .int x1, .ref ou]) ++ List.replicate (4 - (lg_sl ([.ref (a 24), .int x1, .ref ou])).length) Slot.unset).toArray = ls at hl ⊢
  have hTab := vx_table (x := y_La_loop) B (htz _ m_La_loop)
  exact h ((l, dC, dI, k, a), p, e, s, m, ([.ref (a 24), .int x1, .ref ou] : List Value).toArray, below, meth, c, A) rfl ⟨⟨B.exec, B.bytes, B.returns, htz, findClass_of_methodNamed B.named, B.notSynchronized, hml, hE, hK, hA⟩, hTab, hlt⟩ s.heap [] ls hl hP hD va_S.rf
def zc_La_never (C : CT) (Post : Int32 → va_W → Prop) (c0 s0 pc : Nat) (loc : List (Nat × Value)) (st : List Value) (ws : va_W) : Prop := zW C (z_rm 3 1 6) 4 (oI C 1 6 Post) c0 s0 pc loc st ws
set_option maxHeartbeats 1000000 in
set_option maxRecDepth 100000 in
theorem k_La_never_0 {C : CT} (X : cT C "QuestionTextLaw" b_La_never 4 (some .int) [⟨0, 9, 12, 13⟩]) (Post : Int32 → va_W → Prop) {P_4 : Int32 → va_W → Prop} {X_4 : String → va_W → Prop} (x1 : Int32) (f_q : FT) (r_q : Nat → Nat → Option Nat) (c_q : Nat) (f_t : FT) (g_t : GT) (r_r : Nat → Nat → Option Nat) (f_c : FT) (g_c : GT) (P : va_W) (ou : Nat) (of : Nat → Int64) (c0 s0 : Nat)
    (b_4 : c0 + 1 ≤ 1 ∧ s0 + 6 ≤ 6)
    (m_4 : xI C.1 y_Q_never (Cond.code y_Q_never b_Q_never 2 (some .int)) 2 1 6 [.ref (ad C.1 24), .int x1] (s_q C.1.2.2.2.1 C.1.2.2.2.2 f_q r_q c_q ++ (s_t C.1.2.2.2.1 C.1.2.2.2.2 f_t g_t ++ (s_r C.1.2.2.2.1 C.1.2.2.2.2 r_r ++ (s_c C.1.2.2.2.1 C.1.2.2.2.2 f_c g_c ++ (P))))) P_4 X_4)
    (k_4 : ∀ (r : Int32) (u : va_W), P_4 r u → zc_La_never C Post (c0 + 1) (s0 + 6) 7 [(0, .ref (ad C.1 24)), (1, .int x1), (2, .ref ou)] [.int r, .int 0, .ref ou] ([(ou, .inl (C.1.2.2.2.1 1, 1, .inr (.inl of)))] ++ (u)))
    (x_4 : ∀ (E : String) (u : va_W), X_4 E u → E = "java/lang/IllegalArgumentException" ∧ ∀ q9 : Nat, zc_La_never C Post (c0 + 1) (s0 + 6) 12 [(0, .ref (ad C.1 24)), (1, .int x1), (2, .ref ou)] [.ref q9] ([(ou, .inl (C.1.2.2.2.1 1, 1, .inr (.inl of)))] ++ (u))) : zc_La_never C Post c0 s0 0 [(0, .ref (ad C.1 24)), (1, .int x1), (2, .ref ou)] [] ([(ou, .inl (C.1.2.2.2.1 1, 1, .inr (.inl of)))] ++ (s_q C.1.2.2.2.1 C.1.2.2.2.2 f_q r_q c_q ++ (s_t C.1.2.2.2.1 C.1.2.2.2.2 f_t g_t ++ (s_r C.1.2.2.2.1 C.1.2.2.2.2 r_r ++ (s_c C.1.2.2.2.1 C.1.2.2.2.2 f_c g_c ++ (P)))))) := by
  obtain ⟨⟨l, dC, dI, k, a⟩, p, e, s, m, args, below, meth, c, A⟩ := C
  obtain ⟨⟨hx, hb, hr, htz, hown, hlocks, hml, hE, hK, hA⟩, hTab, hlt⟩ := X
  intro H locs ls hl hP hD hS
  have hl : lv_has ls 4 [(0, .ref (a 24)), (1, .int x1), (2, .ref ou)] := hl
  have hP : va_P (dC, dI) classes ([(ou, .inl (k 1, 1, .inr (.inl of)))] ++ (s_q k a f_q r_q c_q ++ (s_t k a f_t g_t ++ (s_r k a r_r ++ (s_c k a f_c g_c ++ (P)))))) H := hP
  have hD : va_D A ([(ou, .inl (k 1, 1, .inr (.inl of)))] ++ (s_q k a f_q r_q c_q ++ (s_t k a f_t g_t ++ (s_r k a r_r ++ (s_c k a f_c g_c ++ (P)))))) := hD
  show W p l e (z_rm 3 1 6) s m args below meth c H locs c0 s0 _ (F0 m 0 ls [])
  refine lv_aload_n hx hb d_La_never_0 rfl (lv_at hl 2 rfl) ?_
  refine lv_iconst (v := 0) hx hb d_La_never_1 (by decide) ?_
  refine lv_aload_n hx hb d_La_never_2 rfl (lv_at hl 0 rfl) ?_
  refine lv_iload_n hx hb d_La_never_3 rfl (lv_at hl 1 rfl) ?_
  have hPf : va_P (dC, dI) classes (([(ou, .inl (k 1, 1, .inr (.inl of)))]) ++ ((s_q k a f_q r_q c_q ++ (s_t k a f_t g_t ++ (s_r k a r_r ++ (s_c k a f_c g_c ++ (P))))) ++ ([]))) H := by rw [List.append_nil]; exact hP
  have hDf : va_D A (([(ou, .inl (k 1, 1, .inr (.inl of)))]) ++ ((s_q k a f_q r_q c_q ++ (s_t k a f_t g_t ++ (s_r k a r_r ++ (s_c k a f_c g_c ++ (P))))) ++ ([]))) := by rw [List.append_nil]; exact hD
  have hFc := zfree hDf hS hA
  refine vx_calli (vx_runV (As := [.int x1]) (rest := [.int 0, .ref ou]) ⟨hx, hb, hml, hown, htz⟩ (m_4 H.size) (cwV 1 htz (z_gV (fun _ h => h) km_La_43 in_Q_never se_Q_never ini_Q m_Q_never) rfl rfl rfl (by decide +kernel) ⟨(Nat.le_of_ble_eq_true rfl), (Nat.le_of_ble_eq_true rfl)⟩) ⟨z_blind, va_recv hK hP (ci := 0) (q0 := 1) rfl rfl, fun U hU hW => ⟨rfl, by rw [hU], hE.call hS hFc hU hW, by rw [hU]; exact (zPc hPf), va_K.moved hW.alike hK, (zDc hDf)⟩⟩ rfl rfl hl.1 rfl (lv_room (Nat.le_of_ble_eq_true rfl)) d_La_never_4 b_4) hS (fun q _ h => hFc q h) hFc (fun q _ h => hFc q h) (fun E ce q9 u t H1 locs ht hvm hw hB hz1 hk1 hS hce hcv hcl => ?_) (fun r u t H1 locs ht hvm hw hB hz1 hk1 hS => ?_)
  · obtain ⟨hxe, hP1, hK1, hD1⟩ := hB
    rw [ht] at hP1
    obtain ⟨hP, hD⟩ := zf hPf hDf hk1 hFc hP1 hD1
    rw [List.append_nil] at hP hD
    obtain ⟨rfl, hz9⟩ := x_4 E u hxe
    refine vx_catch hown [] ⟨0, 9, 12, 13⟩ [] hTab (fun z hz => nomatch hz) (by decide) (by decide) (htz _ kc_La_13) (va_Nw.use rfl (hE.2.1 _ ca_IAE)) hce hcv hcl ?_
    exact hz9 q9 H1 locs ls (lv_sub hl [0, 1, 2] rfl) hP hD hS
  · obtain ⟨hP1, hK1, hD1⟩ := hB
    rw [ht] at hP1
    obtain ⟨hP, hD⟩ := zf hPf hDf hk1 hFc hP1 hD1
    rw [List.append_nil] at hP hD
    exact k_4 r _ hw H1 locs ls (lv_sub hl [0, 1, 2] rfl) hP hD hS
set_option maxHeartbeats 1000000 in
set_option maxRecDepth 100000 in
theorem k_La_never_7 {C : CT} (X : cT C "QuestionTextLaw" b_La_never 4 (some .int) [⟨0, 9, 12, 13⟩]) (Post : Int32 → va_W → Prop) (x1 : Int32) (y0 : Int32) (y1 : Int32) (f_q : FT) (r_q : Nat → Nat → Option Nat) (c_q : Nat) (f_t : FT) (g_t : GT) (r_r : Nat → Nat → Option Nat) (f_c : FT) (g_c : GT) (P : va_W) (ou : Nat) (of : Nat → Int64) (c0 s0 : Nat)
    (h_8 : vp_in (y1) 1)
    (b_16 : c0 ≤ 1 ∧ s0 ≤ 6)
    (q_16 : Post (0) ([(ou, .inl (C.1.2.2.2.1 1, 1, .inr (.inl (vp_updL of (y1 : Int32).toNatClampNeg y0.toInt64))))] ++ (s_q C.1.2.2.2.1 C.1.2.2.2.2 f_q r_q c_q ++ (s_t C.1.2.2.2.1 C.1.2.2.2.2 f_t g_t ++ (s_r C.1.2.2.2.1 C.1.2.2.2.2 r_r ++ (s_c C.1.2.2.2.1 C.1.2.2.2.2 f_c g_c ++ (P))))))) : zc_La_never C Post c0 s0 7 [(0, .ref (ad C.1 24)), (1, .int x1), (2, .ref ou)] [.int y0, .int y1, .ref ou] ([(ou, .inl (C.1.2.2.2.1 1, 1, .inr (.inl of)))] ++ (s_q C.1.2.2.2.1 C.1.2.2.2.2 f_q r_q c_q ++ (s_t C.1.2.2.2.1 C.1.2.2.2.2 f_t g_t ++ (s_r C.1.2.2.2.1 C.1.2.2.2.2 r_r ++ (s_c C.1.2.2.2.1 C.1.2.2.2.2 f_c g_c ++ (P)))))) := by
  obtain ⟨⟨l, dC, dI, k, a⟩, p, e, s, m, args, below, meth, c, A⟩ := C
  obtain ⟨⟨hx, hb, hr, htz, hown, hlocks, hml, hE, hK, hA⟩, hTab, hlt⟩ := X
  intro H locs ls hl hP hD hS
  have hl : lv_has ls 4 [(0, .ref (a 24)), (1, .int x1), (2, .ref ou)] := hl
  have hP : va_P (dC, dI) classes ([(ou, .inl (k 1, 1, .inr (.inl of)))] ++ (s_q k a f_q r_q c_q ++ (s_t k a f_t g_t ++ (s_r k a r_r ++ (s_c k a f_c g_c ++ (P)))))) H := hP
  have hD : va_D A ([(ou, .inl (k 1, 1, .inr (.inl of)))] ++ (s_q k a f_q r_q c_q ++ (s_t k a f_t g_t ++ (s_r k a r_r ++ (s_c k a f_c g_c ++ (P)))))) := hD
  show W p l e (z_rm 3 1 6) s m args below meth c H locs c0 s0 _ (F0 m 7 ls [.int y0, .int y1, .ref ou])
  refine lv_i2l (v := y0.toInt64) hx hb d_La_never_7 rfl ?_
  refine va_last hx hb hK hP hD hS 0 1 rfl rfl h_8 d_La_never_8 (fun H locs hP hD hS => ?_)
  have hP : va_P (dC, dI) classes ([(ou, .inl (k 1, 1, .inr (.inl (vp_updL of (y1 : Int32).toNatClampNeg y0.toInt64))))] ++ (s_q k a f_q r_q c_q ++ (s_t k a f_t g_t ++ (s_r k a r_r ++ (s_c k a f_c g_c ++ (P)))))) H := hP
  have hD : va_D A ([(ou, .inl (k 1, 1, .inr (.inl (vp_updL of (y1 : Int32).toNatClampNeg y0.toInt64))))] ++ (s_q k a f_q r_q c_q ++ (s_t k a f_t g_t ++ (s_r k a r_r ++ (s_c k a f_c g_c ++ (P)))))) := hD
  refine lv_goto (tgt := 15) hx hb d_La_never_9 (by decide) ?_
  refine lv_iconst (v := 0) hx hb d_La_never_15 (by decide) ?_
  refine W.widen (k := 1) (n := 6) b_16.1 b_16.2 ?_
  exact W.iret (v := 0) hx hb hr (fun t ht hW => ⟨⟨_, ([(ou, .inl (k 1, 1, .inr (.inl (vp_updL of (y1 : Int32).toNatClampNeg y0.toInt64))))] ++ (s_q k a f_q r_q c_q ++ (s_t k a f_t g_t ++ (s_r k a r_r ++ (s_c k a f_c g_c ++ (P)))))), rfl, q_16, by rw [ht]; exact hP, va_K.moved hW.alike hK, hD⟩, hS.F ht⟩) hS.2.2 d_La_never_16
set_option maxHeartbeats 1000000 in
set_option maxRecDepth 100000 in
theorem k_La_never_12 {C : CT} (X : cT C "QuestionTextLaw" b_La_never 4 (some .int) [⟨0, 9, 12, 13⟩]) (Post : Int32 → va_W → Prop) (x1 : Int32) (y0 : Nat) (f_q : FT) (r_q : Nat → Nat → Option Nat) (c_q : Nat) (f_t : FT) (g_t : GT) (r_r : Nat → Nat → Option Nat) (f_c : FT) (g_c : GT) (P : va_W) (ou : Nat) (of : Nat → Int64) (c0 s0 : Nat)
    (b_14 : c0 ≤ 1 ∧ s0 ≤ 6)
    (q_14 : Post (1) ([(ou, .inl (C.1.2.2.2.1 1, 1, .inr (.inl of)))] ++ (s_q C.1.2.2.2.1 C.1.2.2.2.2 f_q r_q c_q ++ (s_t C.1.2.2.2.1 C.1.2.2.2.2 f_t g_t ++ (s_r C.1.2.2.2.1 C.1.2.2.2.2 r_r ++ (s_c C.1.2.2.2.1 C.1.2.2.2.2 f_c g_c ++ (P))))))) : zc_La_never C Post c0 s0 12 [(0, .ref (ad C.1 24)), (1, .int x1), (2, .ref ou)] [.ref y0] ([(ou, .inl (C.1.2.2.2.1 1, 1, .inr (.inl of)))] ++ (s_q C.1.2.2.2.1 C.1.2.2.2.2 f_q r_q c_q ++ (s_t C.1.2.2.2.1 C.1.2.2.2.2 f_t g_t ++ (s_r C.1.2.2.2.1 C.1.2.2.2.2 r_r ++ (s_c C.1.2.2.2.1 C.1.2.2.2.2 f_c g_c ++ (P)))))) := by
  obtain ⟨⟨l, dC, dI, k, a⟩, p, e, s, m, args, below, meth, c, A⟩ := C
  obtain ⟨⟨hx, hb, hr, htz, hown, hlocks, hml, hE, hK, hA⟩, hTab, hlt⟩ := X
  intro H locs ls hl hP hD hS
  have hl : lv_has ls 4 [(0, .ref (a 24)), (1, .int x1), (2, .ref ou)] := hl
  have hP : va_P (dC, dI) classes ([(ou, .inl (k 1, 1, .inr (.inl of)))] ++ (s_q k a f_q r_q c_q ++ (s_t k a f_t g_t ++ (s_r k a r_r ++ (s_c k a f_c g_c ++ (P)))))) H := hP
  have hD : va_D A ([(ou, .inl (k 1, 1, .inr (.inl of)))] ++ (s_q k a f_q r_q c_q ++ (s_t k a f_t g_t ++ (s_r k a r_r ++ (s_c k a f_c g_c ++ (P)))))) := hD
  show W p l e (z_rm 3 1 6) s m args below meth c H locs c0 s0 _ (F0 m 12 ls [.ref y0])
  refine lv_astore_n (lv' := [(3, .ref y0), (0, .ref (a 24)), (1, .int x1), (2, .ref ou)]) hx hb d_La_never_12 rfl hl (by decide) rfl (fun ls hl => ?_)
  refine lv_iconst (v := 1) hx hb d_La_never_13 (by decide) ?_
  refine W.widen (k := 1) (n := 6) b_14.1 b_14.2 ?_
  exact W.iret (v := 1) hx hb hr (fun t ht hW => ⟨⟨_, ([(ou, .inl (k 1, 1, .inr (.inl of)))] ++ (s_q k a f_q r_q c_q ++ (s_t k a f_t g_t ++ (s_r k a r_r ++ (s_c k a f_c g_c ++ (P)))))), rfl, q_14, by rw [ht]; exact hP, va_K.moved hW.alike hK, hD⟩, hS.F ht⟩) hS.2.2 d_La_never_14
set_option maxHeartbeats 1000000 in
set_option maxRecDepth 100000 in
theorem e_La_never (T : ST) (hlt : T.1.stackTraces = false) (Post : Int32 → va_W → Prop) (x1 : Int32) (f_q : FT) (r_q : Nat → Nat → Option Nat) (c_q : Nat) (f_t : FT) (g_t : GT) (r_r : Nat → Nat → Option Nat) (f_c : FT) (g_c : GT) (P : va_W) (ou : Nat) (of : Nat → Int64) (h : ∀ C : CT, C.1 = T → cT C "QuestionTextLaw" b_La_never 4 (some .int) [⟨0, 9, 12, 13⟩] → zc_La_never C Post 0 0 0 [(0, .ref (ad C.1 24)), (1, .int x1), (2, .ref ou)] [] ([(ou, .inl (C.1.2.2.2.1 1, 1, .inr (.inl of)))] ++ (s_q C.1.2.2.2.1 C.1.2.2.2.2 f_q r_q c_q ++ (s_t C.1.2.2.2.1 C.1.2.2.2.2 f_t g_t ++ (s_r C.1.2.2.2.1 C.1.2.2.2.2 r_r ++ (s_c C.1.2.2.2.1 C.1.2.2.2.2 f_c g_c ++ (P))))))) : uI T y_La_never (Cond.codeWith y_La_never b_La_never 4 (some .int) [(0, 9, 12, 13)]) 3 1 6 [.ref (ad T 24), .int x1, .ref ou] ([(ou, .inl (T.2.2.2.1 1, 1, .inr (.inl of)))] ++ (s_q T.2.2.2.1 T.2.2.2.2 f_q r_q c_q ++ (s_t T.2.2.2.1 T.2.2.2.2 f_t g_t ++ (s_r T.2.2.2.1 T.2.2.2.2 r_r ++ (s_c T.2.2.2.1 T.2.2.2.2 f_c g_c ++ (P)))))) Post := by
  obtain ⟨l, dC, dI, k, a⟩ := T
  intro sz
  refine va_MetW (cc := b_La_never) (maxL := 4) (ret := (some .int)) (by decide) rfl ?_
  intro p e s m args below meth c s₁ B hml hv
  obtain ⟨rfl, hsz, hE, hP, hK, hD0⟩ := hv
  have hts := atoms_spec (ws := (Cond.codeWith y_La_never b_La_never 4 (some .int) [(0, 9, 12, 13)]) :: z_T) B.pre
  have htz : ∀ w ∈ z_T, w.before _ s = true := fun w h => hts w (z_cons w h)
  subst hsz
  have hD := hD0.self (sz := s.heap.size)
  generalize hAe : va_A ([(ou, .inl (k 1, 1, .inr (.inl of)))] ++ (s_q k a f_q r_q c_q ++ (s_t k a f_t g_t ++ (s_r k a r_r ++ (s_c k a f_c g_c ++ (P)))))) s.heap.size = A at hD hE ⊢
  have hA : ∀ q : Nat, s.heap.size ≤ q → A q := fun q h => by rw [← hAe]; exact Or.inr h
  have hl := lv_entry ([.ref (a 24), .int x1, .ref ou]) (n := 4) (Nat.le_of_ble_eq_true rfl)
  rw [lg_entry_eq]
  generalize (lg_sl ([.ref (a 24), .int x1, .ref ou]) ++ List.replicate (4 - (lg_sl ([.ref (a 24), .int x1, .ref ou])).length) Slot.unset).toArray = ls at hl ⊢
  have hTab := vx_table (x := y_La_never) B (htz _ m_La_never)
  exact h ((l, dC, dI, k, a), p, e, s, m, ([.ref (a 24), .int x1, .ref ou] : List Value).toArray, below, meth, c, A) rfl ⟨⟨B.exec, B.bytes, B.returns, htz, findClass_of_methodNamed B.named, B.notSynchronized, hml, hE, hK, hA⟩, hTab, hlt⟩ s.heap [] ls hl hP hD va_S.rf
def zc_La_endless (C : CT) (Post : Int32 → va_W → Prop) (c0 s0 pc : Nat) (loc : List (Nat × Value)) (st : List Value) (ws : va_W) : Prop := zW C (z_rm 3 1 6) 4 (oI C 1 6 Post) c0 s0 pc loc st ws
set_option maxHeartbeats 1000000 in
set_option maxRecDepth 100000 in
theorem k_La_endless_0 {C : CT} (X : cT C "QuestionTextLaw" b_La_endless 4 (some .int) [⟨0, 9, 12, 13⟩]) (Post : Int32 → va_W → Prop) {P_4 : Int32 → va_W → Prop} {X_4 : String → va_W → Prop} (x1 : Int32) (f_q : FT) (r_q : Nat → Nat → Option Nat) (c_q : Nat) (f_t : FT) (g_t : GT) (r_r : Nat → Nat → Option Nat) (f_c : FT) (g_c : GT) (P : va_W) (ou : Nat) (of : Nat → Int64) (c0 s0 : Nat)
    (b_4 : c0 + 1 ≤ 1 ∧ s0 + 6 ≤ 6)
    (m_4 : xI C.1 y_Q_endless (Cond.code y_Q_endless b_Q_endless 2 (some .int)) 2 1 6 [.ref (ad C.1 24), .int x1] (s_q C.1.2.2.2.1 C.1.2.2.2.2 f_q r_q c_q ++ (s_t C.1.2.2.2.1 C.1.2.2.2.2 f_t g_t ++ (s_r C.1.2.2.2.1 C.1.2.2.2.2 r_r ++ (s_c C.1.2.2.2.1 C.1.2.2.2.2 f_c g_c ++ (P))))) P_4 X_4)
    (k_4 : ∀ (r : Int32) (u : va_W), P_4 r u → zc_La_endless C Post (c0 + 1) (s0 + 6) 7 [(0, .ref (ad C.1 24)), (1, .int x1), (2, .ref ou)] [.int r, .int 0, .ref ou] ([(ou, .inl (C.1.2.2.2.1 1, 1, .inr (.inl of)))] ++ (u)))
    (x_4 : ∀ (E : String) (u : va_W), X_4 E u → E = "java/lang/IllegalArgumentException" ∧ ∀ q9 : Nat, zc_La_endless C Post (c0 + 1) (s0 + 6) 12 [(0, .ref (ad C.1 24)), (1, .int x1), (2, .ref ou)] [.ref q9] ([(ou, .inl (C.1.2.2.2.1 1, 1, .inr (.inl of)))] ++ (u))) : zc_La_endless C Post c0 s0 0 [(0, .ref (ad C.1 24)), (1, .int x1), (2, .ref ou)] [] ([(ou, .inl (C.1.2.2.2.1 1, 1, .inr (.inl of)))] ++ (s_q C.1.2.2.2.1 C.1.2.2.2.2 f_q r_q c_q ++ (s_t C.1.2.2.2.1 C.1.2.2.2.2 f_t g_t ++ (s_r C.1.2.2.2.1 C.1.2.2.2.2 r_r ++ (s_c C.1.2.2.2.1 C.1.2.2.2.2 f_c g_c ++ (P)))))) := by
  obtain ⟨⟨l, dC, dI, k, a⟩, p, e, s, m, args, below, meth, c, A⟩ := C
  obtain ⟨⟨hx, hb, hr, htz, hown, hlocks, hml, hE, hK, hA⟩, hTab, hlt⟩ := X
  intro H locs ls hl hP hD hS
  have hl : lv_has ls 4 [(0, .ref (a 24)), (1, .int x1), (2, .ref ou)] := hl
  have hP : va_P (dC, dI) classes ([(ou, .inl (k 1, 1, .inr (.inl of)))] ++ (s_q k a f_q r_q c_q ++ (s_t k a f_t g_t ++ (s_r k a r_r ++ (s_c k a f_c g_c ++ (P)))))) H := hP
  have hD : va_D A ([(ou, .inl (k 1, 1, .inr (.inl of)))] ++ (s_q k a f_q r_q c_q ++ (s_t k a f_t g_t ++ (s_r k a r_r ++ (s_c k a f_c g_c ++ (P)))))) := hD
  show W p l e (z_rm 3 1 6) s m args below meth c H locs c0 s0 _ (F0 m 0 ls [])
  refine lv_aload_n hx hb d_La_endless_0 rfl (lv_at hl 2 rfl) ?_
  refine lv_iconst (v := 0) hx hb d_La_endless_1 (by decide) ?_
  refine lv_aload_n hx hb d_La_endless_2 rfl (lv_at hl 0 rfl) ?_
  refine lv_iload_n hx hb d_La_endless_3 rfl (lv_at hl 1 rfl) ?_
  have hPf : va_P (dC, dI) classes (([(ou, .inl (k 1, 1, .inr (.inl of)))]) ++ ((s_q k a f_q r_q c_q ++ (s_t k a f_t g_t ++ (s_r k a r_r ++ (s_c k a f_c g_c ++ (P))))) ++ ([]))) H := by rw [List.append_nil]; exact hP
  have hDf : va_D A (([(ou, .inl (k 1, 1, .inr (.inl of)))]) ++ ((s_q k a f_q r_q c_q ++ (s_t k a f_t g_t ++ (s_r k a r_r ++ (s_c k a f_c g_c ++ (P))))) ++ ([]))) := by rw [List.append_nil]; exact hD
  have hFc := zfree hDf hS hA
  refine vx_calli (vx_runV (As := [.int x1]) (rest := [.int 0, .ref ou]) ⟨hx, hb, hml, hown, htz⟩ (m_4 H.size) (cwV 1 htz (z_gV (fun _ h => h) km_La_46 in_Q_endless se_Q_endless ini_Q m_Q_endless) rfl rfl rfl (by decide +kernel) ⟨(Nat.le_of_ble_eq_true rfl), (Nat.le_of_ble_eq_true rfl)⟩) ⟨z_blind, va_recv hK hP (ci := 0) (q0 := 1) rfl rfl, fun U hU hW => ⟨rfl, by rw [hU], hE.call hS hFc hU hW, by rw [hU]; exact (zPc hPf), va_K.moved hW.alike hK, (zDc hDf)⟩⟩ rfl rfl hl.1 rfl (lv_room (Nat.le_of_ble_eq_true rfl)) d_La_endless_4 b_4) hS (fun q _ h => hFc q h) hFc (fun q _ h => hFc q h) (fun E ce q9 u t H1 locs ht hvm hw hB hz1 hk1 hS hce hcv hcl => ?_) (fun r u t H1 locs ht hvm hw hB hz1 hk1 hS => ?_)
  · obtain ⟨hxe, hP1, hK1, hD1⟩ := hB
    rw [ht] at hP1
    obtain ⟨hP, hD⟩ := zf hPf hDf hk1 hFc hP1 hD1
    rw [List.append_nil] at hP hD
    obtain ⟨rfl, hz9⟩ := x_4 E u hxe
    refine vx_catch hown [] ⟨0, 9, 12, 13⟩ [] hTab (fun z hz => nomatch hz) (by decide) (by decide) (htz _ kc_La_13) (va_Nw.use rfl (hE.2.1 _ ca_IAE)) hce hcv hcl ?_
    exact hz9 q9 H1 locs ls (lv_sub hl [0, 1, 2] rfl) hP hD hS
  · obtain ⟨hP1, hK1, hD1⟩ := hB
    rw [ht] at hP1
    obtain ⟨hP, hD⟩ := zf hPf hDf hk1 hFc hP1 hD1
    rw [List.append_nil] at hP hD
    exact k_4 r _ hw H1 locs ls (lv_sub hl [0, 1, 2] rfl) hP hD hS
set_option maxHeartbeats 1000000 in
set_option maxRecDepth 100000 in
theorem k_La_endless_7 {C : CT} (X : cT C "QuestionTextLaw" b_La_endless 4 (some .int) [⟨0, 9, 12, 13⟩]) (Post : Int32 → va_W → Prop) (x1 : Int32) (y0 : Int32) (y1 : Int32) (f_q : FT) (r_q : Nat → Nat → Option Nat) (c_q : Nat) (f_t : FT) (g_t : GT) (r_r : Nat → Nat → Option Nat) (f_c : FT) (g_c : GT) (P : va_W) (ou : Nat) (of : Nat → Int64) (c0 s0 : Nat)
    (h_8 : vp_in (y1) 1)
    (b_16 : c0 ≤ 1 ∧ s0 ≤ 6)
    (q_16 : Post (0) ([(ou, .inl (C.1.2.2.2.1 1, 1, .inr (.inl (vp_updL of (y1 : Int32).toNatClampNeg y0.toInt64))))] ++ (s_q C.1.2.2.2.1 C.1.2.2.2.2 f_q r_q c_q ++ (s_t C.1.2.2.2.1 C.1.2.2.2.2 f_t g_t ++ (s_r C.1.2.2.2.1 C.1.2.2.2.2 r_r ++ (s_c C.1.2.2.2.1 C.1.2.2.2.2 f_c g_c ++ (P))))))) : zc_La_endless C Post c0 s0 7 [(0, .ref (ad C.1 24)), (1, .int x1), (2, .ref ou)] [.int y0, .int y1, .ref ou] ([(ou, .inl (C.1.2.2.2.1 1, 1, .inr (.inl of)))] ++ (s_q C.1.2.2.2.1 C.1.2.2.2.2 f_q r_q c_q ++ (s_t C.1.2.2.2.1 C.1.2.2.2.2 f_t g_t ++ (s_r C.1.2.2.2.1 C.1.2.2.2.2 r_r ++ (s_c C.1.2.2.2.1 C.1.2.2.2.2 f_c g_c ++ (P)))))) := by
  obtain ⟨⟨l, dC, dI, k, a⟩, p, e, s, m, args, below, meth, c, A⟩ := C
  obtain ⟨⟨hx, hb, hr, htz, hown, hlocks, hml, hE, hK, hA⟩, hTab, hlt⟩ := X
  intro H locs ls hl hP hD hS
  have hl : lv_has ls 4 [(0, .ref (a 24)), (1, .int x1), (2, .ref ou)] := hl
  have hP : va_P (dC, dI) classes ([(ou, .inl (k 1, 1, .inr (.inl of)))] ++ (s_q k a f_q r_q c_q ++ (s_t k a f_t g_t ++ (s_r k a r_r ++ (s_c k a f_c g_c ++ (P)))))) H := hP
  have hD : va_D A ([(ou, .inl (k 1, 1, .inr (.inl of)))] ++ (s_q k a f_q r_q c_q ++ (s_t k a f_t g_t ++ (s_r k a r_r ++ (s_c k a f_c g_c ++ (P)))))) := hD
  show W p l e (z_rm 3 1 6) s m args below meth c H locs c0 s0 _ (F0 m 7 ls [.int y0, .int y1, .ref ou])
  refine lv_i2l (v := y0.toInt64) hx hb d_La_endless_7 rfl ?_
  refine va_last hx hb hK hP hD hS 0 1 rfl rfl h_8 d_La_endless_8 (fun H locs hP hD hS => ?_)
  have hP : va_P (dC, dI) classes ([(ou, .inl (k 1, 1, .inr (.inl (vp_updL of (y1 : Int32).toNatClampNeg y0.toInt64))))] ++ (s_q k a f_q r_q c_q ++ (s_t k a f_t g_t ++ (s_r k a r_r ++ (s_c k a f_c g_c ++ (P)))))) H := hP
  have hD : va_D A ([(ou, .inl (k 1, 1, .inr (.inl (vp_updL of (y1 : Int32).toNatClampNeg y0.toInt64))))] ++ (s_q k a f_q r_q c_q ++ (s_t k a f_t g_t ++ (s_r k a r_r ++ (s_c k a f_c g_c ++ (P)))))) := hD
  refine lv_goto (tgt := 15) hx hb d_La_endless_9 (by decide) ?_
  refine lv_iconst (v := 0) hx hb d_La_endless_15 (by decide) ?_
  refine W.widen (k := 1) (n := 6) b_16.1 b_16.2 ?_
  exact W.iret (v := 0) hx hb hr (fun t ht hW => ⟨⟨_, ([(ou, .inl (k 1, 1, .inr (.inl (vp_updL of (y1 : Int32).toNatClampNeg y0.toInt64))))] ++ (s_q k a f_q r_q c_q ++ (s_t k a f_t g_t ++ (s_r k a r_r ++ (s_c k a f_c g_c ++ (P)))))), rfl, q_16, by rw [ht]; exact hP, va_K.moved hW.alike hK, hD⟩, hS.F ht⟩) hS.2.2 d_La_endless_16
set_option maxHeartbeats 1000000 in
set_option maxRecDepth 100000 in
theorem k_La_endless_12 {C : CT} (X : cT C "QuestionTextLaw" b_La_endless 4 (some .int) [⟨0, 9, 12, 13⟩]) (Post : Int32 → va_W → Prop) (x1 : Int32) (y0 : Nat) (f_q : FT) (r_q : Nat → Nat → Option Nat) (c_q : Nat) (f_t : FT) (g_t : GT) (r_r : Nat → Nat → Option Nat) (f_c : FT) (g_c : GT) (P : va_W) (ou : Nat) (of : Nat → Int64) (c0 s0 : Nat)
    (b_14 : c0 ≤ 1 ∧ s0 ≤ 6)
    (q_14 : Post (1) ([(ou, .inl (C.1.2.2.2.1 1, 1, .inr (.inl of)))] ++ (s_q C.1.2.2.2.1 C.1.2.2.2.2 f_q r_q c_q ++ (s_t C.1.2.2.2.1 C.1.2.2.2.2 f_t g_t ++ (s_r C.1.2.2.2.1 C.1.2.2.2.2 r_r ++ (s_c C.1.2.2.2.1 C.1.2.2.2.2 f_c g_c ++ (P))))))) : zc_La_endless C Post c0 s0 12 [(0, .ref (ad C.1 24)), (1, .int x1), (2, .ref ou)] [.ref y0] ([(ou, .inl (C.1.2.2.2.1 1, 1, .inr (.inl of)))] ++ (s_q C.1.2.2.2.1 C.1.2.2.2.2 f_q r_q c_q ++ (s_t C.1.2.2.2.1 C.1.2.2.2.2 f_t g_t ++ (s_r C.1.2.2.2.1 C.1.2.2.2.2 r_r ++ (s_c C.1.2.2.2.1 C.1.2.2.2.2 f_c g_c ++ (P)))))) := by
  obtain ⟨⟨l, dC, dI, k, a⟩, p, e, s, m, args, below, meth, c, A⟩ := C
  obtain ⟨⟨hx, hb, hr, htz, hown, hlocks, hml, hE, hK, hA⟩, hTab, hlt⟩ := X
  intro H locs ls hl hP hD hS
  have hl : lv_has ls 4 [(0, .ref (a 24)), (1, .int x1), (2, .ref ou)] := hl
  have hP : va_P (dC, dI) classes ([(ou, .inl (k 1, 1, .inr (.inl of)))] ++ (s_q k a f_q r_q c_q ++ (s_t k a f_t g_t ++ (s_r k a r_r ++ (s_c k a f_c g_c ++ (P)))))) H := hP
  have hD : va_D A ([(ou, .inl (k 1, 1, .inr (.inl of)))] ++ (s_q k a f_q r_q c_q ++ (s_t k a f_t g_t ++ (s_r k a r_r ++ (s_c k a f_c g_c ++ (P)))))) := hD
  show W p l e (z_rm 3 1 6) s m args below meth c H locs c0 s0 _ (F0 m 12 ls [.ref y0])
  refine lv_astore_n (lv' := [(3, .ref y0), (0, .ref (a 24)), (1, .int x1), (2, .ref ou)]) hx hb d_La_endless_12 rfl hl (by decide) rfl (fun ls hl => ?_)
  refine lv_iconst (v := 1) hx hb d_La_endless_13 (by decide) ?_
  refine W.widen (k := 1) (n := 6) b_14.1 b_14.2 ?_
  exact W.iret (v := 1) hx hb hr (fun t ht hW => ⟨⟨_, ([(ou, .inl (k 1, 1, .inr (.inl of)))] ++ (s_q k a f_q r_q c_q ++ (s_t k a f_t g_t ++ (s_r k a r_r ++ (s_c k a f_c g_c ++ (P)))))), rfl, q_14, by rw [ht]; exact hP, va_K.moved hW.alike hK, hD⟩, hS.F ht⟩) hS.2.2 d_La_endless_14
set_option maxHeartbeats 1000000 in
set_option maxRecDepth 100000 in
theorem e_La_endless (T : ST) (hlt : T.1.stackTraces = false) (Post : Int32 → va_W → Prop) (x1 : Int32) (f_q : FT) (r_q : Nat → Nat → Option Nat) (c_q : Nat) (f_t : FT) (g_t : GT) (r_r : Nat → Nat → Option Nat) (f_c : FT) (g_c : GT) (P : va_W) (ou : Nat) (of : Nat → Int64) (h : ∀ C : CT, C.1 = T → cT C "QuestionTextLaw" b_La_endless 4 (some .int) [⟨0, 9, 12, 13⟩] → zc_La_endless C Post 0 0 0 [(0, .ref (ad C.1 24)), (1, .int x1), (2, .ref ou)] [] ([(ou, .inl (C.1.2.2.2.1 1, 1, .inr (.inl of)))] ++ (s_q C.1.2.2.2.1 C.1.2.2.2.2 f_q r_q c_q ++ (s_t C.1.2.2.2.1 C.1.2.2.2.2 f_t g_t ++ (s_r C.1.2.2.2.1 C.1.2.2.2.2 r_r ++ (s_c C.1.2.2.2.1 C.1.2.2.2.2 f_c g_c ++ (P))))))) : uI T y_La_endless (Cond.codeWith y_La_endless b_La_endless 4 (some .int) [(0, 9, 12, 13)]) 3 1 6 [.ref (ad T 24), .int x1, .ref ou] ([(ou, .inl (T.2.2.2.1 1, 1, .inr (.inl of)))] ++ (s_q T.2.2.2.1 T.2.2.2.2 f_q r_q c_q ++ (s_t T.2.2.2.1 T.2.2.2.2 f_t g_t ++ (s_r T.2.2.2.1 T.2.2.2.2 r_r ++ (s_c T.2.2.2.1 T.2.2.2.2 f_c g_c ++ (P)))))) Post := by
  obtain ⟨l, dC, dI, k, a⟩ := T
  intro sz
  refine va_MetW (cc := b_La_endless) (maxL := 4) (ret := (some .int)) (by decide) rfl ?_
  intro p e s m args below meth c s₁ B hml hv
  obtain ⟨rfl, hsz, hE, hP, hK, hD0⟩ := hv
  have hts := atoms_spec (ws := (Cond.codeWith y_La_endless b_La_endless 4 (some .int) [(0, 9, 12, 13)]) :: z_T) B.pre
  have htz : ∀ w ∈ z_T, w.before _ s = true := fun w h => hts w (z_cons w h)
  subst hsz
  have hD := hD0.self (sz := s.heap.size)
  generalize hAe : va_A ([(ou, .inl (k 1, 1, .inr (.inl of)))] ++ (s_q k a f_q r_q c_q ++ (s_t k a f_t g_t ++ (s_r k a r_r ++ (s_c k a f_c g_c ++ (P)))))) s.heap.size = A at hD hE ⊢
  have hA : ∀ q : Nat, s.heap.size ≤ q → A q := fun q h => by rw [← hAe]; exact Or.inr h
  have hl := lv_entry ([.ref (a 24), .int x1, .ref ou]) (n := 4) (Nat.le_of_ble_eq_true rfl)
  rw [lg_entry_eq]
  generalize (lg_sl ([.ref (a 24), .int x1, .ref ou]) ++ List.replicate (4 - (lg_sl ([.ref (a 24), .int x1, .ref ou])).length) Slot.unset).toArray = ls at hl ⊢
  have hTab := vx_table (x := y_La_endless) B (htz _ m_La_endless)
  exact h ((l, dC, dI, k, a), p, e, s, m, ([.ref (a 24), .int x1, .ref ou] : List Value).toArray, below, meth, c, A) rfl ⟨⟨B.exec, B.bytes, B.returns, htz, findClass_of_methodNamed B.named, B.notSynchronized, hml, hE, hK, hA⟩, hTab, hlt⟩ s.heap [] ls hl hP hD va_S.rf
def zc_La_word (C : CT) (Post : Int32 → va_W → Prop) (c0 s0 pc : Nat) (loc : List (Nat × Value)) (st : List Value) (ws : va_W) : Prop := zW C (z_rm 2 1 6) 6 (oI C 1 6 Post) c0 s0 pc loc st ws
set_option maxHeartbeats 1000000 in
set_option maxRecDepth 100000 in
theorem k_La_word_0 {C : CT} (X : cT C "QuestionTextLaw" b_La_word 6 (some .int) [⟨0, 12, 15, 13⟩]) (Post : Int32 → va_W → Prop) {P_7 : Int32 → va_W → Prop} {X_7 : String → va_W → Prop} (x1 : Int32) (x2 : Int32) (x3 : Int32) (f_q : FT) (r_q : Nat → Nat → Option Nat) (c_q : Nat) (f_t : FT) (g_t : GT) (r_r : Nat → Nat → Option Nat) (f_c : FT) (g_c : GT) (P : va_W) (ou : Nat) (of : Nat → Int64) (c0 s0 : Nat)
    (b_7 : c0 + 1 ≤ 1 ∧ s0 + 6 ≤ 6)
    (m_7 : xI C.1 y_Q_word (Cond.code y_Q_word b_Q_word 6 (some .int)) 1 1 6 [.ref (ad C.1 24), .int x1, .int x2, .int x3] (s_q C.1.2.2.2.1 C.1.2.2.2.2 f_q r_q c_q ++ (s_t C.1.2.2.2.1 C.1.2.2.2.2 f_t g_t ++ (s_r C.1.2.2.2.1 C.1.2.2.2.2 r_r ++ (s_c C.1.2.2.2.1 C.1.2.2.2.2 f_c g_c ++ (P))))) P_7 X_7)
    (k_7 : ∀ (r : Int32) (u : va_W), P_7 r u → zc_La_word C Post (c0 + 1) (s0 + 6) 10 [(0, .ref (ad C.1 24)), (1, .int x1), (2, .int x2), (3, .int x3), (4, .ref ou)] [.int r, .int 0, .ref ou] ([(ou, .inl (C.1.2.2.2.1 1, 1, .inr (.inl of)))] ++ (u)))
    (x_7 : ∀ (E : String) (u : va_W), X_7 E u → E = "java/lang/IllegalArgumentException" ∧ ∀ q9 : Nat, zc_La_word C Post (c0 + 1) (s0 + 6) 15 [(0, .ref (ad C.1 24)), (1, .int x1), (2, .int x2), (3, .int x3), (4, .ref ou)] [.ref q9] ([(ou, .inl (C.1.2.2.2.1 1, 1, .inr (.inl of)))] ++ (u))) : zc_La_word C Post c0 s0 0 [(0, .ref (ad C.1 24)), (1, .int x1), (2, .int x2), (3, .int x3), (4, .ref ou)] [] ([(ou, .inl (C.1.2.2.2.1 1, 1, .inr (.inl of)))] ++ (s_q C.1.2.2.2.1 C.1.2.2.2.2 f_q r_q c_q ++ (s_t C.1.2.2.2.1 C.1.2.2.2.2 f_t g_t ++ (s_r C.1.2.2.2.1 C.1.2.2.2.2 r_r ++ (s_c C.1.2.2.2.1 C.1.2.2.2.2 f_c g_c ++ (P)))))) := by
  obtain ⟨⟨l, dC, dI, k, a⟩, p, e, s, m, args, below, meth, c, A⟩ := C
  obtain ⟨⟨hx, hb, hr, htz, hown, hlocks, hml, hE, hK, hA⟩, hTab, hlt⟩ := X
  intro H locs ls hl hP hD hS
  have hl : lv_has ls 6 [(0, .ref (a 24)), (1, .int x1), (2, .int x2), (3, .int x3), (4, .ref ou)] := hl
  have hP : va_P (dC, dI) classes ([(ou, .inl (k 1, 1, .inr (.inl of)))] ++ (s_q k a f_q r_q c_q ++ (s_t k a f_t g_t ++ (s_r k a r_r ++ (s_c k a f_c g_c ++ (P)))))) H := hP
  have hD : va_D A ([(ou, .inl (k 1, 1, .inr (.inl of)))] ++ (s_q k a f_q r_q c_q ++ (s_t k a f_t g_t ++ (s_r k a r_r ++ (s_c k a f_c g_c ++ (P)))))) := hD
  show W p l e (z_rm 2 1 6) s m args below meth c H locs c0 s0 _ (F0 m 0 ls [])
  refine lv_aload hx hb d_La_word_0 (lv_at hl 4 rfl) ?_
  refine lv_iconst (v := 0) hx hb d_La_word_2 (by decide) ?_
  refine lv_aload_n hx hb d_La_word_3 rfl (lv_at hl 0 rfl) ?_
  refine lv_iload_n hx hb d_La_word_4 rfl (lv_at hl 1 rfl) ?_
  refine lv_iload_n hx hb d_La_word_5 rfl (lv_at hl 2 rfl) ?_
  refine lv_iload_n hx hb d_La_word_6 rfl (lv_at hl 3 rfl) ?_
  have hPf : va_P (dC, dI) classes (([(ou, .inl (k 1, 1, .inr (.inl of)))]) ++ ((s_q k a f_q r_q c_q ++ (s_t k a f_t g_t ++ (s_r k a r_r ++ (s_c k a f_c g_c ++ (P))))) ++ ([]))) H := by rw [List.append_nil]; exact hP
  have hDf : va_D A (([(ou, .inl (k 1, 1, .inr (.inl of)))]) ++ ((s_q k a f_q r_q c_q ++ (s_t k a f_t g_t ++ (s_r k a r_r ++ (s_c k a f_c g_c ++ (P))))) ++ ([]))) := by rw [List.append_nil]; exact hD
  have hFc := zfree hDf hS hA
  refine vx_calli (vx_runV (As := [.int x1, .int x2, .int x3]) (rest := [.int 0, .ref ou]) ⟨hx, hb, hml, hown, htz⟩ (m_7 H.size) (cwV 3 htz (z_gV (fun _ h => h) km_La_49 in_Q_word se_Q_word ini_Q m_Q_word) rfl rfl rfl (by decide +kernel) ⟨(Nat.le_of_ble_eq_true rfl), (Nat.le_of_ble_eq_true rfl)⟩) ⟨z_blind, va_recv hK hP (ci := 0) (q0 := 1) rfl rfl, fun U hU hW => ⟨rfl, by rw [hU], hE.call hS hFc hU hW, by rw [hU]; exact (zPc hPf), va_K.moved hW.alike hK, (zDc hDf)⟩⟩ rfl rfl hl.1 rfl (lv_room (Nat.le_of_ble_eq_true rfl)) d_La_word_7 b_7) hS (fun q _ h => hFc q h) hFc (fun q _ h => hFc q h) (fun E ce q9 u t H1 locs ht hvm hw hB hz1 hk1 hS hce hcv hcl => ?_) (fun r u t H1 locs ht hvm hw hB hz1 hk1 hS => ?_)
  · obtain ⟨hxe, hP1, hK1, hD1⟩ := hB
    rw [ht] at hP1
    obtain ⟨hP, hD⟩ := zf hPf hDf hk1 hFc hP1 hD1
    rw [List.append_nil] at hP hD
    obtain ⟨rfl, hz9⟩ := x_7 E u hxe
    refine vx_catch hown [] ⟨0, 12, 15, 13⟩ [] hTab (fun z hz => nomatch hz) (by decide) (by decide) (htz _ kc_La_13) (va_Nw.use rfl (hE.2.1 _ ca_IAE)) hce hcv hcl ?_
    exact hz9 q9 H1 locs ls (lv_sub hl [0, 1, 2, 3, 4] rfl) hP hD hS
  · obtain ⟨hP1, hK1, hD1⟩ := hB
    rw [ht] at hP1
    obtain ⟨hP, hD⟩ := zf hPf hDf hk1 hFc hP1 hD1
    rw [List.append_nil] at hP hD
    exact k_7 r _ hw H1 locs ls (lv_sub hl [0, 1, 2, 3, 4] rfl) hP hD hS
set_option maxHeartbeats 1000000 in
set_option maxRecDepth 100000 in
theorem k_La_word_10 {C : CT} (X : cT C "QuestionTextLaw" b_La_word 6 (some .int) [⟨0, 12, 15, 13⟩]) (Post : Int32 → va_W → Prop) (x1 : Int32) (x2 : Int32) (x3 : Int32) (y0 : Int32) (y1 : Int32) (f_q : FT) (r_q : Nat → Nat → Option Nat) (c_q : Nat) (f_t : FT) (g_t : GT) (r_r : Nat → Nat → Option Nat) (f_c : FT) (g_c : GT) (P : va_W) (ou : Nat) (of : Nat → Int64) (c0 s0 : Nat)
    (h_11 : vp_in (y1) 1)
    (b_20 : c0 ≤ 1 ∧ s0 ≤ 6)
    (q_20 : Post (0) ([(ou, .inl (C.1.2.2.2.1 1, 1, .inr (.inl (vp_updL of (y1 : Int32).toNatClampNeg y0.toInt64))))] ++ (s_q C.1.2.2.2.1 C.1.2.2.2.2 f_q r_q c_q ++ (s_t C.1.2.2.2.1 C.1.2.2.2.2 f_t g_t ++ (s_r C.1.2.2.2.1 C.1.2.2.2.2 r_r ++ (s_c C.1.2.2.2.1 C.1.2.2.2.2 f_c g_c ++ (P))))))) : zc_La_word C Post c0 s0 10 [(0, .ref (ad C.1 24)), (1, .int x1), (2, .int x2), (3, .int x3), (4, .ref ou)] [.int y0, .int y1, .ref ou] ([(ou, .inl (C.1.2.2.2.1 1, 1, .inr (.inl of)))] ++ (s_q C.1.2.2.2.1 C.1.2.2.2.2 f_q r_q c_q ++ (s_t C.1.2.2.2.1 C.1.2.2.2.2 f_t g_t ++ (s_r C.1.2.2.2.1 C.1.2.2.2.2 r_r ++ (s_c C.1.2.2.2.1 C.1.2.2.2.2 f_c g_c ++ (P)))))) := by
  obtain ⟨⟨l, dC, dI, k, a⟩, p, e, s, m, args, below, meth, c, A⟩ := C
  obtain ⟨⟨hx, hb, hr, htz, hown, hlocks, hml, hE, hK, hA⟩, hTab, hlt⟩ := X
  intro H locs ls hl hP hD hS
  have hl : lv_has ls 6 [(0, .ref (a 24)), (1, .int x1), (2, .int x2), (3, .int x3), (4, .ref ou)] := hl
  have hP : va_P (dC, dI) classes ([(ou, .inl (k 1, 1, .inr (.inl of)))] ++ (s_q k a f_q r_q c_q ++ (s_t k a f_t g_t ++ (s_r k a r_r ++ (s_c k a f_c g_c ++ (P)))))) H := hP
  have hD : va_D A ([(ou, .inl (k 1, 1, .inr (.inl of)))] ++ (s_q k a f_q r_q c_q ++ (s_t k a f_t g_t ++ (s_r k a r_r ++ (s_c k a f_c g_c ++ (P)))))) := hD
  show W p l e (z_rm 2 1 6) s m args below meth c H locs c0 s0 _ (F0 m 10 ls [.int y0, .int y1, .ref ou])
  refine lv_i2l (v := y0.toInt64) hx hb d_La_word_10 rfl ?_
  refine va_last hx hb hK hP hD hS 0 1 rfl rfl h_11 d_La_word_11 (fun H locs hP hD hS => ?_)
  have hP : va_P (dC, dI) classes ([(ou, .inl (k 1, 1, .inr (.inl (vp_updL of (y1 : Int32).toNatClampNeg y0.toInt64))))] ++ (s_q k a f_q r_q c_q ++ (s_t k a f_t g_t ++ (s_r k a r_r ++ (s_c k a f_c g_c ++ (P)))))) H := hP
  have hD : va_D A ([(ou, .inl (k 1, 1, .inr (.inl (vp_updL of (y1 : Int32).toNatClampNeg y0.toInt64))))] ++ (s_q k a f_q r_q c_q ++ (s_t k a f_t g_t ++ (s_r k a r_r ++ (s_c k a f_c g_c ++ (P)))))) := hD
  refine lv_goto (tgt := 19) hx hb d_La_word_12 (by decide) ?_
  refine lv_iconst (v := 0) hx hb d_La_word_19 (by decide) ?_
  refine W.widen (k := 1) (n := 6) b_20.1 b_20.2 ?_
  exact W.iret (v := 0) hx hb hr (fun t ht hW => ⟨⟨_, ([(ou, .inl (k 1, 1, .inr (.inl (vp_updL of (y1 : Int32).toNatClampNeg y0.toInt64))))] ++ (s_q k a f_q r_q c_q ++ (s_t k a f_t g_t ++ (s_r k a r_r ++ (s_c k a f_c g_c ++ (P)))))), rfl, q_20, by rw [ht]; exact hP, va_K.moved hW.alike hK, hD⟩, hS.F ht⟩) hS.2.2 d_La_word_20
set_option maxHeartbeats 1000000 in
set_option maxRecDepth 100000 in
theorem k_La_word_15 {C : CT} (X : cT C "QuestionTextLaw" b_La_word 6 (some .int) [⟨0, 12, 15, 13⟩]) (Post : Int32 → va_W → Prop) (x1 : Int32) (x2 : Int32) (x3 : Int32) (y0 : Nat) (f_q : FT) (r_q : Nat → Nat → Option Nat) (c_q : Nat) (f_t : FT) (g_t : GT) (r_r : Nat → Nat → Option Nat) (f_c : FT) (g_c : GT) (P : va_W) (ou : Nat) (of : Nat → Int64) (c0 s0 : Nat)
    (b_18 : c0 ≤ 1 ∧ s0 ≤ 6)
    (q_18 : Post (1) ([(ou, .inl (C.1.2.2.2.1 1, 1, .inr (.inl of)))] ++ (s_q C.1.2.2.2.1 C.1.2.2.2.2 f_q r_q c_q ++ (s_t C.1.2.2.2.1 C.1.2.2.2.2 f_t g_t ++ (s_r C.1.2.2.2.1 C.1.2.2.2.2 r_r ++ (s_c C.1.2.2.2.1 C.1.2.2.2.2 f_c g_c ++ (P))))))) : zc_La_word C Post c0 s0 15 [(0, .ref (ad C.1 24)), (1, .int x1), (2, .int x2), (3, .int x3), (4, .ref ou)] [.ref y0] ([(ou, .inl (C.1.2.2.2.1 1, 1, .inr (.inl of)))] ++ (s_q C.1.2.2.2.1 C.1.2.2.2.2 f_q r_q c_q ++ (s_t C.1.2.2.2.1 C.1.2.2.2.2 f_t g_t ++ (s_r C.1.2.2.2.1 C.1.2.2.2.2 r_r ++ (s_c C.1.2.2.2.1 C.1.2.2.2.2 f_c g_c ++ (P)))))) := by
  obtain ⟨⟨l, dC, dI, k, a⟩, p, e, s, m, args, below, meth, c, A⟩ := C
  obtain ⟨⟨hx, hb, hr, htz, hown, hlocks, hml, hE, hK, hA⟩, hTab, hlt⟩ := X
  intro H locs ls hl hP hD hS
  have hl : lv_has ls 6 [(0, .ref (a 24)), (1, .int x1), (2, .int x2), (3, .int x3), (4, .ref ou)] := hl
  have hP : va_P (dC, dI) classes ([(ou, .inl (k 1, 1, .inr (.inl of)))] ++ (s_q k a f_q r_q c_q ++ (s_t k a f_t g_t ++ (s_r k a r_r ++ (s_c k a f_c g_c ++ (P)))))) H := hP
  have hD : va_D A ([(ou, .inl (k 1, 1, .inr (.inl of)))] ++ (s_q k a f_q r_q c_q ++ (s_t k a f_t g_t ++ (s_r k a r_r ++ (s_c k a f_c g_c ++ (P)))))) := hD
  show W p l e (z_rm 2 1 6) s m args below meth c H locs c0 s0 _ (F0 m 15 ls [.ref y0])
  refine lv_astore (lv' := [(5, .ref y0), (0, .ref (a 24)), (1, .int x1), (2, .int x2), (3, .int x3), (4, .ref ou)]) hx hb d_La_word_15 hl (by decide) rfl (fun ls hl => ?_)
  refine lv_iconst (v := 1) hx hb d_La_word_17 (by decide) ?_
  refine W.widen (k := 1) (n := 6) b_18.1 b_18.2 ?_
  exact W.iret (v := 1) hx hb hr (fun t ht hW => ⟨⟨_, ([(ou, .inl (k 1, 1, .inr (.inl of)))] ++ (s_q k a f_q r_q c_q ++ (s_t k a f_t g_t ++ (s_r k a r_r ++ (s_c k a f_c g_c ++ (P)))))), rfl, q_18, by rw [ht]; exact hP, va_K.moved hW.alike hK, hD⟩, hS.F ht⟩) hS.2.2 d_La_word_18
set_option maxHeartbeats 1000000 in
set_option maxRecDepth 100000 in
theorem e_La_word (T : ST) (hlt : T.1.stackTraces = false) (Post : Int32 → va_W → Prop) (x1 : Int32) (x2 : Int32) (x3 : Int32) (f_q : FT) (r_q : Nat → Nat → Option Nat) (c_q : Nat) (f_t : FT) (g_t : GT) (r_r : Nat → Nat → Option Nat) (f_c : FT) (g_c : GT) (P : va_W) (ou : Nat) (of : Nat → Int64) (h : ∀ C : CT, C.1 = T → cT C "QuestionTextLaw" b_La_word 6 (some .int) [⟨0, 12, 15, 13⟩] → zc_La_word C Post 0 0 0 [(0, .ref (ad C.1 24)), (1, .int x1), (2, .int x2), (3, .int x3), (4, .ref ou)] [] ([(ou, .inl (C.1.2.2.2.1 1, 1, .inr (.inl of)))] ++ (s_q C.1.2.2.2.1 C.1.2.2.2.2 f_q r_q c_q ++ (s_t C.1.2.2.2.1 C.1.2.2.2.2 f_t g_t ++ (s_r C.1.2.2.2.1 C.1.2.2.2.2 r_r ++ (s_c C.1.2.2.2.1 C.1.2.2.2.2 f_c g_c ++ (P))))))) : uI T y_La_word (Cond.codeWith y_La_word b_La_word 6 (some .int) [(0, 12, 15, 13)]) 2 1 6 [.ref (ad T 24), .int x1, .int x2, .int x3, .ref ou] ([(ou, .inl (T.2.2.2.1 1, 1, .inr (.inl of)))] ++ (s_q T.2.2.2.1 T.2.2.2.2 f_q r_q c_q ++ (s_t T.2.2.2.1 T.2.2.2.2 f_t g_t ++ (s_r T.2.2.2.1 T.2.2.2.2 r_r ++ (s_c T.2.2.2.1 T.2.2.2.2 f_c g_c ++ (P)))))) Post := by
  obtain ⟨l, dC, dI, k, a⟩ := T
  intro sz
  refine va_MetW (cc := b_La_word) (maxL := 6) (ret := (some .int)) (by decide) rfl ?_
  intro p e s m args below meth c s₁ B hml hv
  obtain ⟨rfl, hsz, hE, hP, hK, hD0⟩ := hv
  have hts := atoms_spec (ws := (Cond.codeWith y_La_word b_La_word 6 (some .int) [(0, 12, 15, 13)]) :: z_T) B.pre
  have htz : ∀ w ∈ z_T, w.before _ s = true := fun w h => hts w (z_cons w h)
  subst hsz
  have hD := hD0.self (sz := s.heap.size)
  generalize hAe : va_A ([(ou, .inl (k 1, 1, .inr (.inl of)))] ++ (s_q k a f_q r_q c_q ++ (s_t k a f_t g_t ++ (s_r k a r_r ++ (s_c k a f_c g_c ++ (P)))))) s.heap.size = A at hD hE ⊢
  have hA : ∀ q : Nat, s.heap.size ≤ q → A q := fun q h => by rw [← hAe]; exact Or.inr h
  have hl := lv_entry ([.ref (a 24), .int x1, .int x2, .int x3, .ref ou]) (n := 6) (Nat.le_of_ble_eq_true rfl)
  rw [lg_entry_eq]
  generalize (lg_sl ([.ref (a 24), .int x1, .int x2, .int x3, .ref ou]) ++ List.replicate (6 - (lg_sl ([.ref (a 24), .int x1, .int x2, .int x3, .ref ou])).length) Slot.unset).toArray = ls at hl ⊢
  have hTab := vx_table (x := y_La_word) B (htz _ m_La_word)
  exact h ((l, dC, dI, k, a), p, e, s, m, ([.ref (a 24), .int x1, .int x2, .int x3, .ref ou] : List Value).toArray, below, meth, c, A) rfl ⟨⟨B.exec, B.bytes, B.returns, htz, findClass_of_methodNamed B.named, B.notSynchronized, hml, hE, hK, hA⟩, hTab, hlt⟩ s.heap [] ls hl hP hD va_S.rf
