def zc_TR_readQuestion (C : CT) (Post : va_W → Prop) (PX : String → va_W → Prop) (c0 s0 pc : Nat) (loc : List (Nat × Value)) (st : List Value) (ws : va_W) : Prop := zW C (z_rm 6 130 760) 8 (yV C 130 760 Post PX) c0 s0 pc loc st ws
set_option maxHeartbeats 1000000 in
set_option maxRecDepth 100000 in
theorem k_TR_readQuestion_0 {C : CT} (X : cX C "QuestionText$TextReader" b_TR_readQuestion 8 none) (Post : va_W → Prop) (PX : String → va_W → Prop) {P_4 : Int32 → va_W → Prop} {X_4 : String → va_W → Prop} (f_t : FT) (g_t : GT) (r_r : Nat → Nat → Option Nat) (P : va_W) (c0 s0 : Nat)
    (b_4 : c0 + 3 ≤ 130 ∧ s0 + 18 ≤ 760)
    (m_4 : xI C.1 y_TR_readNumber (Cond.code y_TR_readNumber b_TR_readNumber 6 (some .int)) 1 3 18 [.ref (ad C.1 20), .int 1, .int 60] (s_t C.1.2.2.2.1 C.1.2.2.2.2 f_t g_t) P_4 X_4)
    (k_4 : ∀ (r : Int32) (u : va_W), P_4 r u → zc_TR_readQuestion C Post PX (c0 + 3) (s0 + 18) 7 [(0, .ref (ad C.1 20))] [.int r] (u ++ (s_r C.1.2.2.2.1 C.1.2.2.2.2 r_r ++ (P))))
    (x_4 : ∀ (E : String) (u : va_W), X_4 E u → PX E (u ++ (s_r C.1.2.2.2.1 C.1.2.2.2.2 r_r ++ (P)))) : zc_TR_readQuestion C Post PX c0 s0 0 [(0, .ref (ad C.1 20))] [] (s_t C.1.2.2.2.1 C.1.2.2.2.2 f_t g_t ++ (s_r C.1.2.2.2.1 C.1.2.2.2.2 r_r ++ (P))) := by
  obtain ⟨⟨l, dC, dI, k, a⟩, p, e, s, m, args, below, meth, c, A⟩ := C
  obtain ⟨⟨hx, hb, hr, htz, hown, hlocks, hml, hE, hK, hA⟩, hno, hlt⟩ := X
  intro H locs ls hl hP hD hS
  have hl : lv_has ls 8 [(0, .ref (a 20))] := hl
  have hP : va_P (dC, dI) classes (s_t k a f_t g_t ++ (s_r k a r_r ++ (P))) H := hP
  have hD : va_D A (s_t k a f_t g_t ++ (s_r k a r_r ++ (P))) := hD
  show W p l e (z_rm 6 130 760) s m args below meth c H locs c0 s0 _ (F0 m 0 ls [])
  refine lv_aload_n hx hb d_TR_readQuestion_0 rfl (lv_at hl 0 rfl) ?_
  refine lv_iconst (v := 1) hx hb d_TR_readQuestion_1 (by decide) ?_
  refine lv_bipush (v := 60) hx hb d_TR_readQuestion_2 (by decide) ?_
  have hPf : va_P (dC, dI) classes (([]) ++ ((s_t k a f_t g_t) ++ (s_r k a r_r ++ (P)))) H := hP
  have hDf : va_D A (([]) ++ ((s_t k a f_t g_t) ++ (s_r k a r_r ++ (P)))) := hD
  have hFc := zfree hDf hS hA
  refine vx_calli (vx_runV (As := [.int 1, .int 60]) (rest := []) ⟨hx, hb, hml, hown, htz⟩ (m_4 H.size) (cwV 2 htz (z_gV (fun _ h => h) km_TR_57 in_TR_readNumber se_TR_readNumber ini_TR m_TR_readNumber) rfl rfl rfl (by decide +kernel) ⟨(Nat.le_of_ble_eq_true rfl), (Nat.le_of_ble_eq_true rfl)⟩) ⟨z_blind, va_recv hK hP (ci := 1) (q0 := 0) rfl rfl, fun U hU hW => ⟨rfl, by rw [hU], hE.call hS hFc hU hW, by rw [hU]; exact (zPc hPf), va_K.moved hW.alike hK, (zDc hDf)⟩⟩ rfl rfl hl.1 rfl (lv_room (Nat.le_of_ble_eq_true rfl)) d_TR_readQuestion_4 b_4) hS (fun q _ h => hFc q h) hFc (fun q _ h => hFc q h) (fun E ce q9 u t H1 locs ht hvm hw hB hz1 hk1 hS hce hcv hcl => ?_) (fun r u t H1 locs ht hvm hw hB hz1 hk1 hS => ?_)
  · obtain ⟨hxe, hP1, hK1, hD1⟩ := hB
    rw [ht] at hP1
    obtain ⟨hP, hD⟩ := zf hPf hDf hk1 hFc hP1 hD1
    exact vx_out (fun x hx9 => (hno x hx9).elim) hlocks hce hcv hcl (fun t9 h9 h8 => ⟨_, trivial, ⟨x_4 E u hxe, by rw [h9]; exact hP, va_K.moved h8 hK, hD⟩, hS.F h9⟩) hS.2.2 b_4.1 b_4.2
  · obtain ⟨hP1, hK1, hD1⟩ := hB
    rw [ht] at hP1
    obtain ⟨hP, hD⟩ := zf hPf hDf hk1 hFc hP1 hD1
    exact k_4 r _ hw H1 locs ls (lv_sub hl [0] rfl) hP hD hS
set_option maxHeartbeats 1000000 in
set_option maxRecDepth 100000 in
theorem k_TR_readQuestion_7 {C : CT} (X : cX C "QuestionText$TextReader" b_TR_readQuestion 8 none) (Post : va_W → Prop) (PX : String → va_W → Prop) {P_24 : va_W → Prop} {X_24 : String → va_W → Prop} (y0 : Int32) (f_t : FT) (g_t : GT) (r_r : Nat → Nat → Option Nat) (P : va_W) (c0 s0 : Nat)
    (h_13 : vp_in (y0) 61)
    (k_27 : ((r_r 0) (y0 : Int32).toNatClampNeg = none) → zc_TR_readQuestion C Post PX c0 s0 27 [(0, .ref (ad C.1 20)), (1, .int y0)] [] (s_t C.1.2.2.2.1 C.1.2.2.2.2 f_t g_t ++ (s_r C.1.2.2.2.1 C.1.2.2.2.2 r_r ++ (P))))
    (b_24 : (¬ (r_r 0) (y0 : Int32).toNatClampNeg = none) → c0 + 1 ≤ 130 ∧ s0 + 6 ≤ 760)
    (m_24 : (¬ (r_r 0) (y0 : Int32).toNatClampNeg = none) → xV C.1 y_TR_fail (Cond.code y_TR_fail b_TR_fail 2 none) 0 1 6 [.ref (ad C.1 20), .int ((f_t 1) - 1)] (s_t C.1.2.2.2.1 C.1.2.2.2.2 f_t g_t) P_24 X_24)
    (k_24 : (¬ (r_r 0) (y0 : Int32).toNatClampNeg = none) → ∀ (u : va_W), P_24 u → zc_TR_readQuestion C Post PX (c0 + 1) (s0 + 6) 27 [(0, .ref (ad C.1 20)), (1, .int y0)] [] (u ++ (s_r C.1.2.2.2.1 C.1.2.2.2.2 r_r ++ (P))))
    (x_24 : (¬ (r_r 0) (y0 : Int32).toNatClampNeg = none) → ∀ (E : String) (u : va_W), X_24 E u → PX E (u ++ (s_r C.1.2.2.2.1 C.1.2.2.2.2 r_r ++ (P)))) : zc_TR_readQuestion C Post PX c0 s0 7 [(0, .ref (ad C.1 20))] [.int y0] (s_t C.1.2.2.2.1 C.1.2.2.2.2 f_t g_t ++ (s_r C.1.2.2.2.1 C.1.2.2.2.2 r_r ++ (P))) := by
  obtain ⟨⟨l, dC, dI, k, a⟩, p, e, s, m, args, below, meth, c, A⟩ := C
  obtain ⟨⟨hx, hb, hr, htz, hown, hlocks, hml, hE, hK, hA⟩, hno, hlt⟩ := X
  intro H locs ls hl hP hD hS
  have hl : lv_has ls 8 [(0, .ref (a 20))] := hl
  have hP : va_P (dC, dI) classes (s_t k a f_t g_t ++ (s_r k a r_r ++ (P))) H := hP
  have hD : va_D A (s_t k a f_t g_t ++ (s_r k a r_r ++ (P))) := hD
  show W p l e (z_rm 6 130 760) s m args below meth c H locs c0 s0 _ (F0 m 7 ls [.int y0])
  refine lv_istore_n (lv' := [(1, .int y0), (0, .ref (a 20))]) hx hb d_TR_readQuestion_7 rfl hl (by decide) rfl (fun ls hl => ?_)
  refine lv_aload_n hx hb d_TR_readQuestion_8 rfl (lv_at hl 1 rfl) ?_
  refine va_get (D := (dC, dI)) (ci := 1) (v := .ref (a 22)) (C := R_TR) (T := F_TR) (N := 5) hx hb htz i_TR hown hK hP 0 rfl rfl 1 (by decide) (htz _ kf_TR_17) (fun _ h9 => h9) rfl d_TR_readQuestion_9 ?_
  refine lv_iload_n hx hb d_TR_readQuestion_12 rfl (lv_at hl 0 rfl) ?_
  refine va_aldq hx hb hK hP 2 3 rfl rfl h_13 d_TR_readQuestion_13 ?_
  refine qv_nl (tgt := 27) hx hb d_TR_readQuestion_14 (by decide) (fun c_14 => ?_) (fun c_14 => ?_)
  · exact (k_27 c_14) H locs ls (lv_sub hl [1, 0] rfl) hP hD hS
  · refine lv_aload_n hx hb d_TR_readQuestion_17 rfl (lv_at hl 1 rfl) ?_
    refine lv_aload_n hx hb d_TR_readQuestion_18 rfl (lv_at hl 1 rfl) ?_
    refine va_get (D := (dC, dI)) (ci := 1) (v := .int (f_t 1)) (C := R_TR) (T := F_TR) (N := 5) hx hb htz i_TR hown hK hP 0 rfl rfl 4 (by decide) (htz _ kf_TR_31) (fun _ h9 => h9) rfl d_TR_readQuestion_19 ?_
    refine lv_iconst (v := 1) hx hb d_TR_readQuestion_22 (by decide) ?_
    refine lv_isub hx hb d_TR_readQuestion_23 ?_
    have hPf : va_P (dC, dI) classes (([]) ++ ((s_t k a f_t g_t) ++ (s_r k a r_r ++ (P)))) H := hP
    have hDf : va_D A (([]) ++ ((s_t k a f_t g_t) ++ (s_r k a r_r ++ (P)))) := hD
    have hFc := zfree hDf hS hA
    refine vx_callv (vx_runV (As := [.int ((f_t 1) - 1)]) (rest := []) ⟨hx, hb, hml, hown, htz⟩ ((m_24 c_14) H.size) (cwV 1 htz (z_gV (fun _ h => h) km_TR_61 in_TR_fail se_TR_fail ini_TR m_TR_fail) rfl rfl rfl (by decide +kernel) ⟨(Nat.le_of_ble_eq_true rfl), (Nat.le_of_ble_eq_true rfl)⟩) ⟨z_blind, va_recv hK hP (ci := 1) (q0 := 0) rfl rfl, fun U hU hW => ⟨rfl, by rw [hU], hE.call hS hFc hU hW, by rw [hU]; exact (zPc hPf), va_K.moved hW.alike hK, (zDc hDf)⟩⟩ rfl rfl hl.1 rfl (lv_room (Nat.le_of_ble_eq_true rfl)) d_TR_readQuestion_24 (b_24 c_14)) hS (fun q _ h => hFc q h) hFc (fun q _ h => hFc q h) (fun E ce q9 u t H1 locs ht hvm hw hB hz1 hk1 hS hce hcv hcl => ?_) (fun u t H1 locs ht hvm hw hB hz1 hk1 hS => ?_)
    · obtain ⟨hxe, hP1, hK1, hD1⟩ := hB
      rw [ht] at hP1
      obtain ⟨hP, hD⟩ := zf hPf hDf hk1 hFc hP1 hD1
      exact vx_out (fun x hx9 => (hno x hx9).elim) hlocks hce hcv hcl (fun t9 h9 h8 => ⟨_, trivial, ⟨(x_24 c_14) E u hxe, by rw [h9]; exact hP, va_K.moved h8 hK, hD⟩, hS.F h9⟩) hS.2.2 (b_24 c_14).1 (b_24 c_14).2
    · obtain ⟨hP1, hK1, hD1⟩ := hB
      rw [ht] at hP1
      obtain ⟨hP, hD⟩ := zf hPf hDf hk1 hFc hP1 hD1
      exact (k_24 c_14) _ hw H1 locs ls (lv_sub hl [1, 0] rfl) hP hD hS
set_option maxHeartbeats 1000000 in
set_option maxRecDepth 100000 in
theorem k_TR_readQuestion_27 {C : CT} (X : cX C "QuestionText$TextReader" b_TR_readQuestion 8 none) (Post : va_W → Prop) (PX : String → va_W → Prop) {P_30 : Int32 → va_W → Prop} (x1 : Int32) (f_t : FT) (g_t : GT) (r_r : Nat → Nat → Option Nat) (P : va_W) (c0 s0 : Nat)
    (b_30 : c0 ≤ 130 ∧ s0 ≤ 760)
    (m_30 : uI C.1 y_TR_took (Cond.code y_TR_took b_TR_took 2 (some .boolean)) 1 0 0 [.ref (ad C.1 20), .int 33] (s_t C.1.2.2.2.1 C.1.2.2.2.2 f_t g_t) P_30)
    (k_30 : ∀ (r : Int32) (u : va_W), P_30 r u → zc_TR_readQuestion C Post PX c0 s0 33 [(0, .ref (ad C.1 20)), (1, .int x1)] [.int r] (u ++ (s_r C.1.2.2.2.1 C.1.2.2.2.2 r_r ++ (P)))) : zc_TR_readQuestion C Post PX c0 s0 27 [(0, .ref (ad C.1 20)), (1, .int x1)] [] (s_t C.1.2.2.2.1 C.1.2.2.2.2 f_t g_t ++ (s_r C.1.2.2.2.1 C.1.2.2.2.2 r_r ++ (P))) := by
  obtain ⟨⟨l, dC, dI, k, a⟩, p, e, s, m, args, below, meth, c, A⟩ := C
  obtain ⟨⟨hx, hb, hr, htz, hown, hlocks, hml, hE, hK, hA⟩, hno, hlt⟩ := X
  intro H locs ls hl hP hD hS
  have hl : lv_has ls 8 [(0, .ref (a 20)), (1, .int x1)] := hl
  have hP : va_P (dC, dI) classes (s_t k a f_t g_t ++ (s_r k a r_r ++ (P))) H := hP
  have hD : va_D A (s_t k a f_t g_t ++ (s_r k a r_r ++ (P))) := hD
  show W p l e (z_rm 6 130 760) s m args below meth c H locs c0 s0 _ (F0 m 27 ls [])
  refine lv_aload_n hx hb d_TR_readQuestion_27 rfl (lv_at hl 0 rfl) ?_
  refine lv_bipush (v := 33) hx hb d_TR_readQuestion_28 (by decide) ?_
  have hPf : va_P (dC, dI) classes (([]) ++ ((s_t k a f_t g_t) ++ (s_r k a r_r ++ (P)))) H := hP
  have hDf : va_D A (([]) ++ ((s_t k a f_t g_t) ++ (s_r k a r_r ++ (P)))) := hD
  have hFc := zfree hDf hS hA
  refine va_calli (va_runV (As := [.int 33]) (rest := []) ⟨hx, hb, hml, hown, htz⟩ (m_30 H.size) (cwV 1 htz (z_gV (fun _ h => h) km_TR_41 in_TR_took se_TR_took ini_TR m_TR_took) rfl rfl rfl (by decide +kernel) ⟨(Nat.le_of_ble_eq_true rfl), (Nat.le_of_ble_eq_true rfl)⟩) ⟨z_blind, va_recv hK hP (ci := 1) (q0 := 0) rfl rfl, fun U hU hW => ⟨rfl, by rw [hU], hE.call hS hFc hU hW, by rw [hU]; exact (zPc hPf), va_K.moved hW.alike hK, (zDc hDf)⟩⟩ rfl rfl hl.1 rfl (lv_room (Nat.le_of_ble_eq_true rfl)) d_TR_readQuestion_30 b_30) hS (fun q _ h => hFc q h) hFc (fun r u t H1 locs ht hvm hw hB hz1 hk1 hS => ?_)
  obtain ⟨hP1, hK1, hD1⟩ := hB
  rw [ht] at hP1
  obtain ⟨hP, hD⟩ := zf hPf hDf hk1 hFc hP1 hD1
  exact k_30 r _ hw H1 locs ls (lv_sub hl [0, 1] rfl) hP hD hS
set_option maxHeartbeats 1000000 in
set_option maxRecDepth 100000 in
theorem k_TR_readQuestion_33 {C : CT} (X : cX C "QuestionText$TextReader" b_TR_readQuestion 8 none) (Post : va_W → Prop) (PX : String → va_W → Prop) {P_41 : va_W → Prop} {X_41 : String → va_W → Prop} (x1 : Int32) (y0 : Int32) (f_t : FT) (g_t : GT) (r_r : Nat → Nat → Option Nat) (P : va_W) (c0 s0 : Nat)
    (k_44 : (¬ y0 = 0) → zc_TR_readQuestion C Post PX c0 s0 44 [(0, .ref (ad C.1 20)), (1, .int x1), (2, .int y0)] [] (s_t C.1.2.2.2.1 C.1.2.2.2.2 f_t g_t ++ (s_r C.1.2.2.2.1 C.1.2.2.2.2 r_r ++ (P))))
    (b_41 : (y0 = 0) → c0 + 1 ≤ 130 ∧ s0 + 6 ≤ 760)
    (m_41 : (y0 = 0) → xV C.1 y_TR_take (Cond.code y_TR_take b_TR_take 2 none) 1 1 6 [.ref (ad C.1 20), .int 63] (s_t C.1.2.2.2.1 C.1.2.2.2.2 f_t g_t) P_41 X_41)
    (k_41 : (y0 = 0) → ∀ (u : va_W), P_41 u → zc_TR_readQuestion C Post PX (c0 + 1) (s0 + 6) 44 [(0, .ref (ad C.1 20)), (1, .int x1), (2, .int y0)] [] (u ++ (s_r C.1.2.2.2.1 C.1.2.2.2.2 r_r ++ (P))))
    (x_41 : (y0 = 0) → ∀ (E : String) (u : va_W), X_41 E u → PX E (u ++ (s_r C.1.2.2.2.1 C.1.2.2.2.2 r_r ++ (P)))) : zc_TR_readQuestion C Post PX c0 s0 33 [(0, .ref (ad C.1 20)), (1, .int x1)] [.int y0] (s_t C.1.2.2.2.1 C.1.2.2.2.2 f_t g_t ++ (s_r C.1.2.2.2.1 C.1.2.2.2.2 r_r ++ (P))) := by
  obtain ⟨⟨l, dC, dI, k, a⟩, p, e, s, m, args, below, meth, c, A⟩ := C
  obtain ⟨⟨hx, hb, hr, htz, hown, hlocks, hml, hE, hK, hA⟩, hno, hlt⟩ := X
  intro H locs ls hl hP hD hS
  have hl : lv_has ls 8 [(0, .ref (a 20)), (1, .int x1)] := hl
  have hP : va_P (dC, dI) classes (s_t k a f_t g_t ++ (s_r k a r_r ++ (P))) H := hP
  have hD : va_D A (s_t k a f_t g_t ++ (s_r k a r_r ++ (P))) := hD
  show W p l e (z_rm 6 130 760) s m args below meth c H locs c0 s0 _ (F0 m 33 ls [.int y0])
  refine lv_istore_n (lv' := [(2, .int y0), (0, .ref (a 20)), (1, .int x1)]) hx hb d_TR_readQuestion_33 rfl hl (by decide) rfl (fun ls hl => ?_)
  refine lv_iload_n hx hb d_TR_readQuestion_34 rfl (lv_at hl 0 rfl) ?_
  refine lv_if_ne (tgt := 44) hx hb d_TR_readQuestion_35 (by decide) (fun c_35 => ?_) (fun c_35 => ?_)
  · exact (k_44 c_35) H locs ls (lv_sub hl [1, 2, 0] rfl) hP hD hS
  · refine lv_aload_n hx hb d_TR_readQuestion_38 rfl (lv_at hl 1 rfl) ?_
    refine lv_bipush (v := 63) hx hb d_TR_readQuestion_39 (by decide) ?_
    have hPf : va_P (dC, dI) classes (([]) ++ ((s_t k a f_t g_t) ++ (s_r k a r_r ++ (P)))) H := hP
    have hDf : va_D A (([]) ++ ((s_t k a f_t g_t) ++ (s_r k a r_r ++ (P)))) := hD
    have hFc := zfree hDf hS hA
    refine vx_callv (vx_runV (As := [.int 63]) (rest := []) ⟨hx, hb, hml, hown, htz⟩ ((m_41 c_35) H.size) (cwV 1 htz (z_gV (fun _ h => h) km_TR_48 in_TR_take se_TR_take ini_TR m_TR_take) rfl rfl rfl (by decide +kernel) ⟨(Nat.le_of_ble_eq_true rfl), (Nat.le_of_ble_eq_true rfl)⟩) ⟨z_blind, va_recv hK hP (ci := 1) (q0 := 0) rfl rfl, fun U hU hW => ⟨rfl, by rw [hU], hE.call hS hFc hU hW, by rw [hU]; exact (zPc hPf), va_K.moved hW.alike hK, (zDc hDf)⟩⟩ rfl rfl hl.1 rfl (lv_room (Nat.le_of_ble_eq_true rfl)) d_TR_readQuestion_41 (b_41 c_35)) hS (fun q _ h => hFc q h) hFc (fun q _ h => hFc q h) (fun E ce q9 u t H1 locs ht hvm hw hB hz1 hk1 hS hce hcv hcl => ?_) (fun u t H1 locs ht hvm hw hB hz1 hk1 hS => ?_)
    · obtain ⟨hxe, hP1, hK1, hD1⟩ := hB
      rw [ht] at hP1
      obtain ⟨hP, hD⟩ := zf hPf hDf hk1 hFc hP1 hD1
      exact vx_out (fun x hx9 => (hno x hx9).elim) hlocks hce hcv hcl (fun t9 h9 h8 => ⟨_, trivial, ⟨(x_41 c_35) E u hxe, by rw [h9]; exact hP, va_K.moved h8 hK, hD⟩, hS.F h9⟩) hS.2.2 (b_41 c_35).1 (b_41 c_35).2
    · obtain ⟨hP1, hK1, hD1⟩ := hB
      rw [ht] at hP1
      obtain ⟨hP, hD⟩ := zf hPf hDf hk1 hFc hP1 hD1
      exact (k_41 c_35) _ hw H1 locs ls (lv_sub hl [1, 2, 0] rfl) hP hD hS
set_option maxHeartbeats 1000000 in
set_option maxRecDepth 100000 in
theorem k_TR_readQuestion_44 {C : CT} (X : cX C "QuestionText$TextReader" b_TR_readQuestion 8 none) (Post : va_W → Prop) (PX : String → va_W → Prop) {P_45 : Option Nat → va_W → Prop} {X_45 : String → va_W → Prop} (x1 : Int32) (x2 : Int32) (f_t : FT) (g_t : GT) (r_r : Nat → Nat → Option Nat) (P : va_W) (c0 s0 : Nat)
    (b_45 : c0 + 8 ≤ 130 ∧ s0 + 44 ≤ 760)
    (m_45 : xR C.1 y_TR_readSpan (Cond.code y_TR_readSpan b_TR_readSpan 2 (some (.object "QuestionText$Span"))) 2 8 44 [.ref (ad C.1 20)] (s_t C.1.2.2.2.1 C.1.2.2.2.2 f_t g_t ++ (P)) P_45 X_45)
    (k_45 : ∀ (r : Option Nat) (u : va_W), P_45 r u → zc_TR_readQuestion C Post PX (c0 + 8) (s0 + 44) 48 [(0, .ref (ad C.1 20)), (1, .int x1), (2, .int x2)] [va_rf r] (s_r C.1.2.2.2.1 C.1.2.2.2.2 r_r ++ (u)))
    (x_45 : ∀ (E : String) (u : va_W), X_45 E u → PX E (s_r C.1.2.2.2.1 C.1.2.2.2.2 r_r ++ (u))) : zc_TR_readQuestion C Post PX c0 s0 44 [(0, .ref (ad C.1 20)), (1, .int x1), (2, .int x2)] [] (s_t C.1.2.2.2.1 C.1.2.2.2.2 f_t g_t ++ (s_r C.1.2.2.2.1 C.1.2.2.2.2 r_r ++ (P))) := by
  obtain ⟨⟨l, dC, dI, k, a⟩, p, e, s, m, args, below, meth, c, A⟩ := C
  obtain ⟨⟨hx, hb, hr, htz, hown, hlocks, hml, hE, hK, hA⟩, hno, hlt⟩ := X
  intro H locs ls hl hP hD hS
  have hl : lv_has ls 8 [(0, .ref (a 20)), (1, .int x1), (2, .int x2)] := hl
  have hP : va_P (dC, dI) classes (s_t k a f_t g_t ++ (s_r k a r_r ++ (P))) H := hP
  have hD : va_D A (s_t k a f_t g_t ++ (s_r k a r_r ++ (P))) := hD
  show W p l e (z_rm 6 130 760) s m args below meth c H locs c0 s0 _ (F0 m 44 ls [])
  refine lv_aload_n hx hb d_TR_readQuestion_44 rfl (lv_at hl 0 rfl) ?_
  have hPf : va_P (dC, dI) classes ((s_r k a r_r) ++ ((s_t k a f_t g_t ++ (P)) ++ ([]))) H := by rw [List.append_nil]; exact zpP (zp3 _ _ _) hP
  have hDf : va_D A ((s_r k a r_r) ++ ((s_t k a f_t g_t ++ (P)) ++ ([]))) := by rw [List.append_nil]; exact zpD (zp3 _ _ _) hD
  have hFc := zfree hDf hS hA
  refine vx_callq (vx_runV (As := []) (rest := []) ⟨hx, hb, hml, hown, htz⟩ (m_45 H.size) (cwV 0 htz (z_gV (fun _ h => h) km_TR_64 in_TR_readSpan se_TR_readSpan ini_TR m_TR_readSpan) rfl rfl rfl (by decide +kernel) ⟨(Nat.le_of_ble_eq_true rfl), (Nat.le_of_ble_eq_true rfl)⟩) ⟨z_blind, va_recv hK hP (ci := 1) (q0 := 0) rfl rfl, fun U hU hW => ⟨rfl, by rw [hU], hE.call hS hFc hU hW, by rw [hU]; exact (zPc hPf), va_K.moved hW.alike hK, (zDc hDf)⟩⟩ rfl rfl hl.1 rfl (lv_room (Nat.le_of_ble_eq_true rfl)) d_TR_readQuestion_45 b_45) hS (fun q _ h => hFc q h) hFc (fun q _ h => hFc q h) (fun E ce q9 u t H1 locs ht hvm hw hB hz1 hk1 hS hce hcv hcl => ?_) (fun r u t H1 locs ht hvm hw hB hz1 hk1 hS => ?_)
  · obtain ⟨hxe, hP1, hK1, hD1⟩ := hB
    rw [ht] at hP1
    obtain ⟨hP, hD⟩ := zf hPf hDf hk1 hFc hP1 hD1
    rw [List.append_nil] at hP hD
    exact vx_out (fun x hx9 => (hno x hx9).elim) hlocks hce hcv hcl (fun t9 h9 h8 => ⟨_, trivial, ⟨x_45 E u hxe, by rw [h9]; exact hP, va_K.moved h8 hK, hD⟩, hS.F h9⟩) hS.2.2 b_45.1 b_45.2
  · obtain ⟨hP1, hK1, hD1⟩ := hB
    rw [ht] at hP1
    obtain ⟨hP, hD⟩ := zf hPf hDf hk1 hFc hP1 hD1
    rw [List.append_nil] at hP hD
    exact k_45 r _ hw H1 locs ls (lv_sub hl [0, 1, 2] rfl) hP hD hS
set_option maxHeartbeats 1000000 in
set_option maxRecDepth 100000 in
theorem k_TR_readQuestion_48 {C : CT} (X : cX C "QuestionText$TextReader" b_TR_readQuestion 8 none) (Post : va_W → Prop) (PX : String → va_W → Prop) {P_50 : Option Nat → va_W → Prop} {X_50 : String → va_W → Prop} (x1 : Int32) (x2 : Int32) (y0 : Nat) (f_t : FT) (g_t : GT) (r_r : Nat → Nat → Option Nat) (P : va_W) (c0 s0 : Nat)
    (b_50 : c0 + 3 ≤ 130 ∧ s0 + 24 ≤ 760)
    (m_50 : xR C.1 y_TR_readWords (Cond.code y_TR_readWords b_TR_readWords 2 (some (.array .int))) 3 3 24 [.ref (ad C.1 20)] (s_t C.1.2.2.2.1 C.1.2.2.2.2 f_t g_t ++ (P)) P_50 X_50)
    (k_50 : ∀ (r : Option Nat) (u : va_W), P_50 r u → zc_TR_readQuestion C Post PX (c0 + 3) (s0 + 24) 53 [(0, .ref (ad C.1 20)), (1, .int x1), (2, .int x2), (3, .ref y0)] [va_rf r] (s_r C.1.2.2.2.1 C.1.2.2.2.2 r_r ++ (u)))
    (x_50 : ∀ (E : String) (u : va_W), X_50 E u → PX E (s_r C.1.2.2.2.1 C.1.2.2.2.2 r_r ++ (u))) : zc_TR_readQuestion C Post PX c0 s0 48 [(0, .ref (ad C.1 20)), (1, .int x1), (2, .int x2)] [.ref y0] (s_t C.1.2.2.2.1 C.1.2.2.2.2 f_t g_t ++ (s_r C.1.2.2.2.1 C.1.2.2.2.2 r_r ++ (P))) := by
  obtain ⟨⟨l, dC, dI, k, a⟩, p, e, s, m, args, below, meth, c, A⟩ := C
  obtain ⟨⟨hx, hb, hr, htz, hown, hlocks, hml, hE, hK, hA⟩, hno, hlt⟩ := X
  intro H locs ls hl hP hD hS
  have hl : lv_has ls 8 [(0, .ref (a 20)), (1, .int x1), (2, .int x2)] := hl
  have hP : va_P (dC, dI) classes (s_t k a f_t g_t ++ (s_r k a r_r ++ (P))) H := hP
  have hD : va_D A (s_t k a f_t g_t ++ (s_r k a r_r ++ (P))) := hD
  show W p l e (z_rm 6 130 760) s m args below meth c H locs c0 s0 _ (F0 m 48 ls [.ref y0])
  refine lv_astore_n (lv' := [(3, .ref y0), (0, .ref (a 20)), (1, .int x1), (2, .int x2)]) hx hb d_TR_readQuestion_48 rfl hl (by decide) rfl (fun ls hl => ?_)
  refine lv_aload_n hx hb d_TR_readQuestion_49 rfl (lv_at hl 1 rfl) ?_
  have hPf : va_P (dC, dI) classes ((s_r k a r_r) ++ ((s_t k a f_t g_t ++ (P)) ++ ([]))) H := by rw [List.append_nil]; exact zpP (zp3 _ _ _) hP
  have hDf : va_D A ((s_r k a r_r) ++ ((s_t k a f_t g_t ++ (P)) ++ ([]))) := by rw [List.append_nil]; exact zpD (zp3 _ _ _) hD
  have hFc := zfree hDf hS hA
  refine vx_callq (vx_runV (As := []) (rest := []) ⟨hx, hb, hml, hown, htz⟩ (m_50 H.size) (cwV 0 htz (z_gV (fun _ h => h) km_TR_68 in_TR_readWords se_TR_readWords ini_TR m_TR_readWords) rfl rfl rfl (by decide +kernel) ⟨(Nat.le_of_ble_eq_true rfl), (Nat.le_of_ble_eq_true rfl)⟩) ⟨z_blind, va_recv hK hP (ci := 1) (q0 := 0) rfl rfl, fun U hU hW => ⟨rfl, by rw [hU], hE.call hS hFc hU hW, by rw [hU]; exact (zPc hPf), va_K.moved hW.alike hK, (zDc hDf)⟩⟩ rfl rfl hl.1 rfl (lv_room (Nat.le_of_ble_eq_true rfl)) d_TR_readQuestion_50 b_50) hS (fun q _ h => hFc q h) hFc (fun q _ h => hFc q h) (fun E ce q9 u t H1 locs ht hvm hw hB hz1 hk1 hS hce hcv hcl => ?_) (fun r u t H1 locs ht hvm hw hB hz1 hk1 hS => ?_)
  · obtain ⟨hxe, hP1, hK1, hD1⟩ := hB
    rw [ht] at hP1
    obtain ⟨hP, hD⟩ := zf hPf hDf hk1 hFc hP1 hD1
    rw [List.append_nil] at hP hD
    exact vx_out (fun x hx9 => (hno x hx9).elim) hlocks hce hcv hcl (fun t9 h9 h8 => ⟨_, trivial, ⟨x_50 E u hxe, by rw [h9]; exact hP, va_K.moved h8 hK, hD⟩, hS.F h9⟩) hS.2.2 b_50.1 b_50.2
  · obtain ⟨hP1, hK1, hD1⟩ := hB
    rw [ht] at hP1
    obtain ⟨hP, hD⟩ := zf hPf hDf hk1 hFc hP1 hD1
    rw [List.append_nil] at hP hD
    exact k_50 r _ hw H1 locs ls (lv_sub hl [1, 2, 3, 0] rfl) hP hD hS
set_option maxHeartbeats 1000000 in
set_option maxRecDepth 100000 in
theorem k_TR_readQuestion_53 {C : CT} (X : cX C "QuestionText$TextReader" b_TR_readQuestion 8 none) (Post : va_W → Prop) (PX : String → va_W → Prop) {P_56 : Int32 → va_W → Prop} (x1 : Int32) (x2 : Int32) (x3 : Nat) (y0 : Nat) (f_t : FT) (g_t : GT) (r_r : Nat → Nat → Option Nat) (P : va_W) (c0 s0 : Nat)
    (b_56 : c0 ≤ 130 ∧ s0 ≤ 760)
    (m_56 : uI C.1 y_TR_nextSign (Cond.code y_TR_nextSign b_TR_nextSign 1 (some .int)) 0 0 0 [.ref (ad C.1 20)] (s_t C.1.2.2.2.1 C.1.2.2.2.2 f_t g_t) P_56)
    (k_56 : ∀ (r : Int32) (u : va_W), P_56 r u → zc_TR_readQuestion C Post PX c0 s0 59 [(0, .ref (ad C.1 20)), (1, .int x1), (2, .int x2), (3, .ref x3), (4, .ref y0)] [.int r] (u ++ (s_r C.1.2.2.2.1 C.1.2.2.2.2 r_r ++ (P)))) : zc_TR_readQuestion C Post PX c0 s0 53 [(0, .ref (ad C.1 20)), (1, .int x1), (2, .int x2), (3, .ref x3)] [.ref y0] (s_t C.1.2.2.2.1 C.1.2.2.2.2 f_t g_t ++ (s_r C.1.2.2.2.1 C.1.2.2.2.2 r_r ++ (P))) := by
  obtain ⟨⟨l, dC, dI, k, a⟩, p, e, s, m, args, below, meth, c, A⟩ := C
  obtain ⟨⟨hx, hb, hr, htz, hown, hlocks, hml, hE, hK, hA⟩, hno, hlt⟩ := X
  intro H locs ls hl hP hD hS
  have hl : lv_has ls 8 [(0, .ref (a 20)), (1, .int x1), (2, .int x2), (3, .ref x3)] := hl
  have hP : va_P (dC, dI) classes (s_t k a f_t g_t ++ (s_r k a r_r ++ (P))) H := hP
  have hD : va_D A (s_t k a f_t g_t ++ (s_r k a r_r ++ (P))) := hD
  show W p l e (z_rm 6 130 760) s m args below meth c H locs c0 s0 _ (F0 m 53 ls [.ref y0])
  refine lv_astore (lv' := [(4, .ref y0), (0, .ref (a 20)), (1, .int x1), (2, .int x2), (3, .ref x3)]) hx hb d_TR_readQuestion_53 hl (by decide) rfl (fun ls hl => ?_)
  refine lv_aload_n hx hb d_TR_readQuestion_55 rfl (lv_at hl 1 rfl) ?_
  have hPf : va_P (dC, dI) classes (([]) ++ ((s_t k a f_t g_t) ++ (s_r k a r_r ++ (P)))) H := hP
  have hDf : va_D A (([]) ++ ((s_t k a f_t g_t) ++ (s_r k a r_r ++ (P)))) := hD
  have hFc := zfree hDf hS hA
  refine va_calli (va_runV (As := []) (rest := []) ⟨hx, hb, hml, hown, htz⟩ (m_56 H.size) (cwV 0 htz (z_gV (fun _ h => h) km_TR_37 in_TR_nextSign se_TR_nextSign ini_TR m_TR_nextSign) rfl rfl rfl (by decide +kernel) ⟨(Nat.le_of_ble_eq_true rfl), (Nat.le_of_ble_eq_true rfl)⟩) ⟨z_blind, va_recv hK hP (ci := 1) (q0 := 0) rfl rfl, fun U hU hW => ⟨rfl, by rw [hU], hE.call hS hFc hU hW, by rw [hU]; exact (zPc hPf), va_K.moved hW.alike hK, (zDc hDf)⟩⟩ rfl rfl hl.1 rfl (lv_room (Nat.le_of_ble_eq_true rfl)) d_TR_readQuestion_56 b_56) hS (fun q _ h => hFc q h) hFc (fun r u t H1 locs ht hvm hw hB hz1 hk1 hS => ?_)
  obtain ⟨hP1, hK1, hD1⟩ := hB
  rw [ht] at hP1
  obtain ⟨hP, hD⟩ := zf hPf hDf hk1 hFc hP1 hD1
  exact k_56 r _ hw H1 locs ls (lv_sub hl [1, 2, 3, 4, 0] rfl) hP hD hS
set_option maxHeartbeats 1000000 in
set_option maxRecDepth 100000 in
theorem k_TR_readQuestion_59 {C : CT} (X : cX C "QuestionText$TextReader" b_TR_readQuestion 8 none) (Post : va_W → Prop) (PX : String → va_W → Prop) {P_65 : Option Nat → va_W → Prop} {X_65 : String → va_W → Prop} (x1 : Int32) (x2 : Int32) (x3 : Nat) (x4 : Nat) (y0 : Int32) (f_t : FT) (g_t : GT) (r_r : Nat → Nat → Option Nat) (P : va_W) (c0 s0 : Nat)
    (k_73 : (¬ y0 = 34) → zc_TR_readQuestion C Post PX c0 s0 73 [(0, .ref (ad C.1 20)), (1, .int x1), (2, .int x2), (3, .ref x3), (4, .ref x4)] [.ref x4] (s_t C.1.2.2.2.1 C.1.2.2.2.2 f_t g_t ++ (s_r C.1.2.2.2.1 C.1.2.2.2.2 r_r ++ (P))))
    (b_65 : (y0 = 34) → c0 + 3 ≤ 130 ∧ s0 + 24 ≤ 760)
    (m_65 : (y0 = 34) → xR C.1 y_TR_readWords (Cond.code y_TR_readWords b_TR_readWords 2 (some (.array .int))) 3 3 24 [.ref (ad C.1 20)] (s_t C.1.2.2.2.1 C.1.2.2.2.2 f_t g_t ++ (P)) P_65 X_65)
    (k_65 : (y0 = 34) → ∀ (r : Option Nat) (u : va_W), P_65 r u → zc_TR_readQuestion C Post PX (c0 + 3) (s0 + 24) 68 [(0, .ref (ad C.1 20)), (1, .int x1), (2, .int x2), (3, .ref x3), (4, .ref x4)] [va_rf r] (s_r C.1.2.2.2.1 C.1.2.2.2.2 r_r ++ (u)))
    (x_65 : (y0 = 34) → ∀ (E : String) (u : va_W), X_65 E u → PX E (s_r C.1.2.2.2.1 C.1.2.2.2.2 r_r ++ (u))) : zc_TR_readQuestion C Post PX c0 s0 59 [(0, .ref (ad C.1 20)), (1, .int x1), (2, .int x2), (3, .ref x3), (4, .ref x4)] [.int y0] (s_t C.1.2.2.2.1 C.1.2.2.2.2 f_t g_t ++ (s_r C.1.2.2.2.1 C.1.2.2.2.2 r_r ++ (P))) := by
  obtain ⟨⟨l, dC, dI, k, a⟩, p, e, s, m, args, below, meth, c, A⟩ := C
  obtain ⟨⟨hx, hb, hr, htz, hown, hlocks, hml, hE, hK, hA⟩, hno, hlt⟩ := X
  intro H locs ls hl hP hD hS
  have hl : lv_has ls 8 [(0, .ref (a 20)), (1, .int x1), (2, .int x2), (3, .ref x3), (4, .ref x4)] := hl
  have hP : va_P (dC, dI) classes (s_t k a f_t g_t ++ (s_r k a r_r ++ (P))) H := hP
  have hD : va_D A (s_t k a f_t g_t ++ (s_r k a r_r ++ (P))) := hD
  show W p l e (z_rm 6 130 760) s m args below meth c H locs c0 s0 _ (F0 m 59 ls [.int y0])
  refine lv_bipush (v := 34) hx hb d_TR_readQuestion_59 (by decide) ?_
  refine lv_icmp_ne (tgt := 71) hx hb d_TR_readQuestion_61 (by decide) (fun c_61 => ?_) (fun c_61 => ?_)
  · refine lv_aload hx hb d_TR_readQuestion_71 (lv_at hl 4 rfl) ?_
    exact (k_73 c_61) H locs ls (lv_sub hl [0, 1, 2, 3, 4] rfl) hP hD hS
  · refine lv_aload_n hx hb d_TR_readQuestion_64 rfl (lv_at hl 0 rfl) ?_
    have hPf : va_P (dC, dI) classes ((s_r k a r_r) ++ ((s_t k a f_t g_t ++ (P)) ++ ([]))) H := by rw [List.append_nil]; exact zpP (zp3 _ _ _) hP
    have hDf : va_D A ((s_r k a r_r) ++ ((s_t k a f_t g_t ++ (P)) ++ ([]))) := by rw [List.append_nil]; exact zpD (zp3 _ _ _) hD
    have hFc := zfree hDf hS hA
    refine vx_callq (vx_runV (As := []) (rest := []) ⟨hx, hb, hml, hown, htz⟩ ((m_65 c_61) H.size) (cwV 0 htz (z_gV (fun _ h => h) km_TR_68 in_TR_readWords se_TR_readWords ini_TR m_TR_readWords) rfl rfl rfl (by decide +kernel) ⟨(Nat.le_of_ble_eq_true rfl), (Nat.le_of_ble_eq_true rfl)⟩) ⟨z_blind, va_recv hK hP (ci := 1) (q0 := 0) rfl rfl, fun U hU hW => ⟨rfl, by rw [hU], hE.call hS hFc hU hW, by rw [hU]; exact (zPc hPf), va_K.moved hW.alike hK, (zDc hDf)⟩⟩ rfl rfl hl.1 rfl (lv_room (Nat.le_of_ble_eq_true rfl)) d_TR_readQuestion_65 (b_65 c_61)) hS (fun q _ h => hFc q h) hFc (fun q _ h => hFc q h) (fun E ce q9 u t H1 locs ht hvm hw hB hz1 hk1 hS hce hcv hcl => ?_) (fun r u t H1 locs ht hvm hw hB hz1 hk1 hS => ?_)
    · obtain ⟨hxe, hP1, hK1, hD1⟩ := hB
      rw [ht] at hP1
      obtain ⟨hP, hD⟩ := zf hPf hDf hk1 hFc hP1 hD1
      rw [List.append_nil] at hP hD
      exact vx_out (fun x hx9 => (hno x hx9).elim) hlocks hce hcv hcl (fun t9 h9 h8 => ⟨_, trivial, ⟨(x_65 c_61) E u hxe, by rw [h9]; exact hP, va_K.moved h8 hK, hD⟩, hS.F h9⟩) hS.2.2 (b_65 c_61).1 (b_65 c_61).2
    · obtain ⟨hP1, hK1, hD1⟩ := hB
      rw [ht] at hP1
      obtain ⟨hP, hD⟩ := zf hPf hDf hk1 hFc hP1 hD1
      rw [List.append_nil] at hP hD
      exact (k_65 c_61) r _ hw H1 locs ls (lv_sub hl [0, 1, 2, 3, 4] rfl) hP hD hS
set_option maxHeartbeats 1000000 in
set_option maxRecDepth 100000 in
theorem k_TR_readQuestion_68 {C : CT} (X : cX C "QuestionText$TextReader" b_TR_readQuestion 8 none) (Post : va_W → Prop) (PX : String → va_W → Prop) (x1 : Int32) (x2 : Int32) (x3 : Nat) (x4 : Nat) (y0 : Nat) (f_t : FT) (g_t : GT) (r_r : Nat → Nat → Option Nat) (P : va_W) (c0 s0 : Nat)
    (k_73 : zc_TR_readQuestion C Post PX c0 s0 73 [(0, .ref (ad C.1 20)), (1, .int x1), (2, .int x2), (3, .ref x3), (4, .ref x4)] [.ref y0] (s_t C.1.2.2.2.1 C.1.2.2.2.2 f_t g_t ++ (s_r C.1.2.2.2.1 C.1.2.2.2.2 r_r ++ (P)))) : zc_TR_readQuestion C Post PX c0 s0 68 [(0, .ref (ad C.1 20)), (1, .int x1), (2, .int x2), (3, .ref x3), (4, .ref x4)] [.ref y0] (s_t C.1.2.2.2.1 C.1.2.2.2.2 f_t g_t ++ (s_r C.1.2.2.2.1 C.1.2.2.2.2 r_r ++ (P))) := by
  obtain ⟨⟨l, dC, dI, k, a⟩, p, e, s, m, args, below, meth, c, A⟩ := C
  obtain ⟨⟨hx, hb, hr, htz, hown, hlocks, hml, hE, hK, hA⟩, hno, hlt⟩ := X
  intro H locs ls hl hP hD hS
  have hl : lv_has ls 8 [(0, .ref (a 20)), (1, .int x1), (2, .int x2), (3, .ref x3), (4, .ref x4)] := hl
  have hP : va_P (dC, dI) classes (s_t k a f_t g_t ++ (s_r k a r_r ++ (P))) H := hP
  have hD : va_D A (s_t k a f_t g_t ++ (s_r k a r_r ++ (P))) := hD
  show W p l e (z_rm 6 130 760) s m args below meth c H locs c0 s0 _ (F0 m 68 ls [.ref y0])
  refine lv_goto (tgt := 73) hx hb d_TR_readQuestion_68 (by decide) ?_
  exact k_73 H locs ls (lv_sub hl [0, 1, 2, 3, 4] rfl) hP hD hS
set_option maxHeartbeats 1000000 in
set_option maxRecDepth 100000 in
theorem k_TR_readQuestion_73 {C : CT} (X : cX C "QuestionText$TextReader" b_TR_readQuestion 8 none) (Post : va_W → Prop) (PX : String → va_W → Prop) {P_78 : va_W → Prop} {X_78 : String → va_W → Prop} (x1 : Int32) (x2 : Int32) (x3 : Nat) (x4 : Nat) (y0 : Nat) (f_t : FT) (g_t : GT) (r_r : Nat → Nat → Option Nat) (P : va_W) (c0 s0 : Nat)
    (b_78 : c0 + 1 ≤ 130 ∧ s0 + 6 ≤ 760)
    (m_78 : xV C.1 y_TR_take (Cond.code y_TR_take b_TR_take 2 none) 1 1 6 [.ref (ad C.1 20), .int 58] (s_t C.1.2.2.2.1 C.1.2.2.2.2 f_t g_t) P_78 X_78)
    (k_78 : ∀ (u : va_W), P_78 u → zc_TR_readQuestion C Post PX (c0 + 1) (s0 + 6) 81 [(0, .ref (ad C.1 20)), (1, .int x1), (2, .int x2), (3, .ref x3), (4, .ref x4), (5, .ref y0)] [] (u ++ (s_r C.1.2.2.2.1 C.1.2.2.2.2 r_r ++ (P))))
    (x_78 : ∀ (E : String) (u : va_W), X_78 E u → PX E (u ++ (s_r C.1.2.2.2.1 C.1.2.2.2.2 r_r ++ (P)))) : zc_TR_readQuestion C Post PX c0 s0 73 [(0, .ref (ad C.1 20)), (1, .int x1), (2, .int x2), (3, .ref x3), (4, .ref x4)] [.ref y0] (s_t C.1.2.2.2.1 C.1.2.2.2.2 f_t g_t ++ (s_r C.1.2.2.2.1 C.1.2.2.2.2 r_r ++ (P))) := by
  obtain ⟨⟨l, dC, dI, k, a⟩, p, e, s, m, args, below, meth, c, A⟩ := C
  obtain ⟨⟨hx, hb, hr, htz, hown, hlocks, hml, hE, hK, hA⟩, hno, hlt⟩ := X
  intro H locs ls hl hP hD hS
  have hl : lv_has ls 8 [(0, .ref (a 20)), (1, .int x1), (2, .int x2), (3, .ref x3), (4, .ref x4)] := hl
  have hP : va_P (dC, dI) classes (s_t k a f_t g_t ++ (s_r k a r_r ++ (P))) H := hP
  have hD : va_D A (s_t k a f_t g_t ++ (s_r k a r_r ++ (P))) := hD
  show W p l e (z_rm 6 130 760) s m args below meth c H locs c0 s0 _ (F0 m 73 ls [.ref y0])
  refine lv_astore (lv' := [(5, .ref y0), (0, .ref (a 20)), (1, .int x1), (2, .int x2), (3, .ref x3), (4, .ref x4)]) hx hb d_TR_readQuestion_73 hl (by decide) rfl (fun ls hl => ?_)
  refine lv_aload_n hx hb d_TR_readQuestion_75 rfl (lv_at hl 1 rfl) ?_
  refine lv_bipush (v := 58) hx hb d_TR_readQuestion_76 (by decide) ?_
  have hPf : va_P (dC, dI) classes (([]) ++ ((s_t k a f_t g_t) ++ (s_r k a r_r ++ (P)))) H := hP
  have hDf : va_D A (([]) ++ ((s_t k a f_t g_t) ++ (s_r k a r_r ++ (P)))) := hD
  have hFc := zfree hDf hS hA
  refine vx_callv (vx_runV (As := [.int 58]) (rest := []) ⟨hx, hb, hml, hown, htz⟩ (m_78 H.size) (cwV 1 htz (z_gV (fun _ h => h) km_TR_48 in_TR_take se_TR_take ini_TR m_TR_take) rfl rfl rfl (by decide +kernel) ⟨(Nat.le_of_ble_eq_true rfl), (Nat.le_of_ble_eq_true rfl)⟩) ⟨z_blind, va_recv hK hP (ci := 1) (q0 := 0) rfl rfl, fun U hU hW => ⟨rfl, by rw [hU], hE.call hS hFc hU hW, by rw [hU]; exact (zPc hPf), va_K.moved hW.alike hK, (zDc hDf)⟩⟩ rfl rfl hl.1 rfl (lv_room (Nat.le_of_ble_eq_true rfl)) d_TR_readQuestion_78 b_78) hS (fun q _ h => hFc q h) hFc (fun q _ h => hFc q h) (fun E ce q9 u t H1 locs ht hvm hw hB hz1 hk1 hS hce hcv hcl => ?_) (fun u t H1 locs ht hvm hw hB hz1 hk1 hS => ?_)
  · obtain ⟨hxe, hP1, hK1, hD1⟩ := hB
    rw [ht] at hP1
    obtain ⟨hP, hD⟩ := zf hPf hDf hk1 hFc hP1 hD1
    exact vx_out (fun x hx9 => (hno x hx9).elim) hlocks hce hcv hcl (fun t9 h9 h8 => ⟨_, trivial, ⟨x_78 E u hxe, by rw [h9]; exact hP, va_K.moved h8 hK, hD⟩, hS.F h9⟩) hS.2.2 b_78.1 b_78.2
  · obtain ⟨hP1, hK1, hD1⟩ := hB
    rw [ht] at hP1
    obtain ⟨hP, hD⟩ := zf hPf hDf hk1 hFc hP1 hD1
    exact k_78 _ hw H1 locs ls (lv_sub hl [1, 2, 3, 4, 5, 0] rfl) hP hD hS
set_option maxHeartbeats 1000000 in
set_option maxRecDepth 100000 in
theorem k_TR_readQuestion_81 {C : CT} (X : cX C "QuestionText$TextReader" b_TR_readQuestion 8 none) (Post : va_W → Prop) (PX : String → va_W → Prop) {P_85 : Nat → va_W → Prop} (x1 : Int32) (x2 : Int32) (x3 : Nat) (x4 : Nat) (x5 : Nat) (f_t : FT) (g_t : GT) (r_r : Nat → Nat → Option Nat) (P : va_W) (c0 s0 : Nat)
    (b_81 : c0 + 1 ≤ 130 ∧ s0 + 3 ≤ 760)
    (b_85 : ∀ w81 : Nat, c0 + 1 ≤ 130 ∧ s0 + 3 ≤ 760)
    (m_85 : ∀ w81 : Nat, uV C.1 y_AL_init (Cond.code y_AL_init b_AL_init 1 none) 2 0 0 [.ref w81] ([(w81, .inr (11, [.int 0, .null, .int 0]))]) (P_85 w81))
    (k_85 : ∀ w81 : Nat, ∀ (u : va_W), (P_85 w81) u → zc_TR_readQuestion C Post PX (c0 + 1) (s0 + 3) 88 [(0, .ref (ad C.1 20)), (1, .int x1), (2, .int x2), (3, .ref x3), (4, .ref x4), (5, .ref x5)] [.ref w81] (u ++ (s_t C.1.2.2.2.1 C.1.2.2.2.2 f_t g_t ++ (s_r C.1.2.2.2.1 C.1.2.2.2.2 r_r ++ (P))))) : zc_TR_readQuestion C Post PX c0 s0 81 [(0, .ref (ad C.1 20)), (1, .int x1), (2, .int x2), (3, .ref x3), (4, .ref x4), (5, .ref x5)] [] (s_t C.1.2.2.2.1 C.1.2.2.2.2 f_t g_t ++ (s_r C.1.2.2.2.1 C.1.2.2.2.2 r_r ++ (P))) := by
  obtain ⟨⟨l, dC, dI, k, a⟩, p, e, s, m, args, below, meth, c, A⟩ := C
  obtain ⟨⟨hx, hb, hr, htz, hown, hlocks, hml, hE, hK, hA⟩, hno, hlt⟩ := X
  intro H locs ls hl hP hD hS
  have hl : lv_has ls 8 [(0, .ref (a 20)), (1, .int x1), (2, .int x2), (3, .ref x3), (4, .ref x4), (5, .ref x5)] := hl
  have hP : va_P (dC, dI) classes (s_t k a f_t g_t ++ (s_r k a r_r ++ (P))) H := hP
  have hD : va_D A (s_t k a f_t g_t ++ (s_r k a r_r ++ (P))) := hD
  show W p l e (z_rm 6 130 760) s m args below meth c H locs c0 s0 _ (F0 m 81 ls [])
  refine va_new (ci := 11) (fs := [.int 0, .null, .int 0]) (C := R_AL) (T := F_AL) (N := 3) hx hb htz i_AL t_AL o_AL hown (htz _ kc_TR_72) (htz _ mk_AL) (htz _ ini_AL) hK hP hD hS hA rfl (by intro j hj; match j, hj with | 0, _ => rfl | 1, _ => rfl | 2, _ => rfl | j + 3, h => exact absurd h (by omega)) b_81.1 b_81.2 d_TR_readQuestion_81 (fun w81 H hP hD hS => ?_)
  replace hP := zsP hP
  replace hD := zsD hD
  have hP : va_P (dC, dI) classes ([(w81, .inr (11, [.int 0, .null, .int 0]))] ++ (s_t k a f_t g_t ++ (s_r k a r_r ++ (P)))) H := hP
  have hD : va_D A ([(w81, .inr (11, [.int 0, .null, .int 0]))] ++ (s_t k a f_t g_t ++ (s_r k a r_r ++ (P)))) := hD
  refine lv_dup hx hb d_TR_readQuestion_84 rfl ?_
  have hPf : va_P (dC, dI) classes (([]) ++ (([(w81, .inr (11, [.int 0, .null, .int 0]))]) ++ (s_t k a f_t g_t ++ (s_r k a r_r ++ (P))))) H := hP
  have hDf : va_D A (([]) ++ (([(w81, .inr (11, [.int 0, .null, .int 0]))]) ++ (s_t k a f_t g_t ++ (s_r k a r_r ++ (P))))) := hD
  have hFc := zfree hDf hS hA
  refine va_callv (va_runI (As := []) (rest := [.ref w81]) ⟨hx, hb, hml, hown, htz⟩ ((m_85 w81) H.size) (cwI 0 htz (z_gI (fun _ h => h) m_AL_init) rfl rfl rfl (htz _ ini_AL) (htz _ km_TR_74) (htz _ in_AL_init) rfl (by decide +kernel) ⟨(Nat.le_of_ble_eq_true rfl), (Nat.le_of_ble_eq_true rfl)⟩) ⟨z_blind, fun U hU hW => ⟨rfl, by rw [hU], hE.call hS hFc hU hW, by rw [hU]; exact (zPc hPf), va_K.moved hW.alike hK, (zDc hDf)⟩⟩ rfl rfl hl.1 rfl (lv_room (Nat.le_of_ble_eq_true rfl)) d_TR_readQuestion_85 (b_85 w81)) hS (fun q _ h => hFc q h) hFc (fun u t H1 locs ht hvm hw hB hz1 hk1 hS => ?_)
  obtain ⟨hP1, hK1, hD1⟩ := hB
  rw [ht] at hP1
  obtain ⟨hP, hD⟩ := zf hPf hDf hk1 hFc hP1 hD1
  exact (k_85 w81) _ hw H1 locs ls (lv_sub hl [0, 1, 2, 3, 4, 5] rfl) hP hD hS
set_option maxHeartbeats 1000000 in
set_option maxRecDepth 100000 in
theorem k_TR_readQuestion_88 {C : CT} (X : cX C "QuestionText$TextReader" b_TR_readQuestion 8 none) (Post : va_W → Prop) (PX : String → va_W → Prop) (x1 : Int32) (x2 : Int32) (x3 : Nat) (x4 : Nat) (x5 : Nat) (y0 : Nat) (aw : va_W) (f_t : FT) (g_t : GT) (r_r : Nat → Nat → Option Nat) (P : va_W) (c0 s0 : Nat)
    (k_93 : zc_TR_readQuestion C Post PX c0 s0 93 [(0, .ref (ad C.1 20)), (1, .int x1), (2, .int x2), (3, .ref x3), (4, .ref x4), (5, .ref x5), (6, .ref y0), (7, .int 1)] [] (s_t C.1.2.2.2.1 C.1.2.2.2.2 f_t g_t ++ (s_r C.1.2.2.2.1 C.1.2.2.2.2 r_r ++ (aw ++ (P))))) : zc_TR_readQuestion C Post PX c0 s0 88 [(0, .ref (ad C.1 20)), (1, .int x1), (2, .int x2), (3, .ref x3), (4, .ref x4), (5, .ref x5)] [.ref y0] (s_t C.1.2.2.2.1 C.1.2.2.2.2 f_t g_t ++ (s_r C.1.2.2.2.1 C.1.2.2.2.2 r_r ++ (aw ++ (P)))) := by
  obtain ⟨⟨l, dC, dI, k, a⟩, p, e, s, m, args, below, meth, c, A⟩ := C
  obtain ⟨⟨hx, hb, hr, htz, hown, hlocks, hml, hE, hK, hA⟩, hno, hlt⟩ := X
  intro H locs ls hl hP hD hS
  have hl : lv_has ls 8 [(0, .ref (a 20)), (1, .int x1), (2, .int x2), (3, .ref x3), (4, .ref x4), (5, .ref x5)] := hl
  have hP : va_P (dC, dI) classes (s_t k a f_t g_t ++ (s_r k a r_r ++ (aw ++ (P)))) H := hP
  have hD : va_D A (s_t k a f_t g_t ++ (s_r k a r_r ++ (aw ++ (P)))) := hD
  show W p l e (z_rm 6 130 760) s m args below meth c H locs c0 s0 _ (F0 m 88 ls [.ref y0])
  refine lv_astore (lv' := [(6, .ref y0), (0, .ref (a 20)), (1, .int x1), (2, .int x2), (3, .ref x3), (4, .ref x4), (5, .ref x5)]) hx hb d_TR_readQuestion_88 hl (by decide) rfl (fun ls hl => ?_)
  refine lv_iconst (v := 1) hx hb d_TR_readQuestion_90 (by decide) ?_
  refine lv_istore (lv' := [(7, .int 1), (6, .ref y0), (0, .ref (a 20)), (1, .int x1), (2, .int x2), (3, .ref x3), (4, .ref x4), (5, .ref x5)]) hx hb d_TR_readQuestion_91 hl (by decide) rfl (fun ls hl => ?_)
  exact k_93 H locs ls (lv_sub hl [2, 3, 4, 5, 6, 7, 1, 0] rfl) hP hD hS
set_option maxHeartbeats 1000000 in
set_option maxRecDepth 100000 in
theorem k_TR_readQuestion_93 {C : CT} (X : cX C "QuestionText$TextReader" b_TR_readQuestion 8 none) (Post : va_W → Prop) (PX : String → va_W → Prop) {P_101 : Int32 → va_W → Prop} (x1 : Int32) (x2 : Int32) (x3 : Nat) (x4 : Nat) (x5 : Nat) (x6 : Nat) (x7 : Int32) (aw : va_W) (f_t : FT) (g_t : GT) (r_r : Nat → Nat → Option Nat) (P : va_W) (c0 s0 : Nat)
    (k_138 : (6 ≤ x7) → zc_TR_readQuestion C Post PX c0 s0 138 [(0, .ref (ad C.1 20)), (1, .int x1), (2, .int x2), (3, .ref x3), (4, .ref x4), (5, .ref x5), (6, .ref x6), (7, .int x7)] [] (s_t C.1.2.2.2.1 C.1.2.2.2.2 f_t g_t ++ (s_r C.1.2.2.2.1 C.1.2.2.2.2 r_r ++ (aw ++ (P)))))
    (b_101 : (¬ 6 ≤ x7) → c0 ≤ 130 ∧ s0 ≤ 760)
    (m_101 : (¬ 6 ≤ x7) → uI C.1 y_TR_nextSign (Cond.code y_TR_nextSign b_TR_nextSign 1 (some .int)) 0 0 0 [.ref (ad C.1 20)] (s_t C.1.2.2.2.1 C.1.2.2.2.2 f_t g_t) P_101)
    (k_101 : (¬ 6 ≤ x7) → ∀ (r : Int32) (u : va_W), P_101 r u → zc_TR_readQuestion C Post PX c0 s0 104 [(0, .ref (ad C.1 20)), (1, .int x1), (2, .int x2), (3, .ref x3), (4, .ref x4), (5, .ref x5), (6, .ref x6), (7, .int x7)] [.int r] (u ++ (s_r C.1.2.2.2.1 C.1.2.2.2.2 r_r ++ (aw ++ (P))))) : zc_TR_readQuestion C Post PX c0 s0 93 [(0, .ref (ad C.1 20)), (1, .int x1), (2, .int x2), (3, .ref x3), (4, .ref x4), (5, .ref x5), (6, .ref x6), (7, .int x7)] [] (s_t C.1.2.2.2.1 C.1.2.2.2.2 f_t g_t ++ (s_r C.1.2.2.2.1 C.1.2.2.2.2 r_r ++ (aw ++ (P)))) := by
  obtain ⟨⟨l, dC, dI, k, a⟩, p, e, s, m, args, below, meth, c, A⟩ := C
  obtain ⟨⟨hx, hb, hr, htz, hown, hlocks, hml, hE, hK, hA⟩, hno, hlt⟩ := X
  intro H locs ls hl hP hD hS
  have hl : lv_has ls 8 [(0, .ref (a 20)), (1, .int x1), (2, .int x2), (3, .ref x3), (4, .ref x4), (5, .ref x5), (6, .ref x6), (7, .int x7)] := hl
  have hP : va_P (dC, dI) classes (s_t k a f_t g_t ++ (s_r k a r_r ++ (aw ++ (P)))) H := hP
  have hD : va_D A (s_t k a f_t g_t ++ (s_r k a r_r ++ (aw ++ (P)))) := hD
  show W p l e (z_rm 6 130 760) s m args below meth c H locs c0 s0 _ (F0 m 93 ls [])
  refine lv_iload hx hb d_TR_readQuestion_93 (lv_at hl 7 rfl) ?_
  refine lv_bipush (v := 6) hx hb d_TR_readQuestion_95 (by decide) ?_
  refine lv_icmp_ge (tgt := 138) hx hb d_TR_readQuestion_97 (by decide) (fun c_97 => ?_) (fun c_97 => ?_)
  · exact (k_138 c_97) H locs ls (lv_sub hl [0, 1, 2, 3, 4, 5, 6, 7] rfl) hP hD hS
  · refine lv_aload_n hx hb d_TR_readQuestion_100 rfl (lv_at hl 0 rfl) ?_
    have hPf : va_P (dC, dI) classes (([]) ++ ((s_t k a f_t g_t) ++ (s_r k a r_r ++ (aw ++ (P))))) H := hP
    have hDf : va_D A (([]) ++ ((s_t k a f_t g_t) ++ (s_r k a r_r ++ (aw ++ (P))))) := hD
    have hFc := zfree hDf hS hA
    refine va_calli (va_runV (As := []) (rest := []) ⟨hx, hb, hml, hown, htz⟩ ((m_101 c_97) H.size) (cwV 0 htz (z_gV (fun _ h => h) km_TR_37 in_TR_nextSign se_TR_nextSign ini_TR m_TR_nextSign) rfl rfl rfl (by decide +kernel) ⟨(Nat.le_of_ble_eq_true rfl), (Nat.le_of_ble_eq_true rfl)⟩) ⟨z_blind, va_recv hK hP (ci := 1) (q0 := 0) rfl rfl, fun U hU hW => ⟨rfl, by rw [hU], hE.call hS hFc hU hW, by rw [hU]; exact (zPc hPf), va_K.moved hW.alike hK, (zDc hDf)⟩⟩ rfl rfl hl.1 rfl (lv_room (Nat.le_of_ble_eq_true rfl)) d_TR_readQuestion_101 (b_101 c_97)) hS (fun q _ h => hFc q h) hFc (fun r u t H1 locs ht hvm hw hB hz1 hk1 hS => ?_)
    obtain ⟨hP1, hK1, hD1⟩ := hB
    rw [ht] at hP1
    obtain ⟨hP, hD⟩ := zf hPf hDf hk1 hFc hP1 hD1
    exact (k_101 c_97) r _ hw H1 locs ls (lv_sub hl [0, 1, 2, 3, 4, 5, 6, 7] rfl) hP hD hS
set_option maxHeartbeats 1000000 in
set_option maxRecDepth 100000 in
theorem k_TR_readQuestion_104 {C : CT} (X : cX C "QuestionText$TextReader" b_TR_readQuestion 8 none) (Post : va_W → Prop) (PX : String → va_W → Prop) {P_104 : Int32 → va_W → Prop} (x1 : Int32) (x2 : Int32) (x3 : Nat) (x4 : Nat) (x5 : Nat) (x6 : Nat) (x7 : Int32) (y0 : Int32) (aw : va_W) (f_t : FT) (g_t : GT) (r_r : Nat → Nat → Option Nat) (P : va_W) (c0 s0 : Nat)
    (b_104 : c0 ≤ 130 ∧ s0 ≤ 760)
    (m_104 : uI C.1 y_TR_isDigit (Cond.code y_TR_isDigit b_TR_isDigit 1 (some .boolean)) 0 0 0 [.int y0] ([]) P_104)
    (k_104 : ∀ (r : Int32) (u : va_W), P_104 r u → zc_TR_readQuestion C Post PX c0 s0 107 [(0, .ref (ad C.1 20)), (1, .int x1), (2, .int x2), (3, .ref x3), (4, .ref x4), (5, .ref x5), (6, .ref x6), (7, .int x7)] [.int r] (s_t C.1.2.2.2.1 C.1.2.2.2.2 f_t g_t ++ (s_r C.1.2.2.2.1 C.1.2.2.2.2 r_r ++ (aw ++ (P))))) : zc_TR_readQuestion C Post PX c0 s0 104 [(0, .ref (ad C.1 20)), (1, .int x1), (2, .int x2), (3, .ref x3), (4, .ref x4), (5, .ref x5), (6, .ref x6), (7, .int x7)] [.int y0] (s_t C.1.2.2.2.1 C.1.2.2.2.2 f_t g_t ++ (s_r C.1.2.2.2.1 C.1.2.2.2.2 r_r ++ (aw ++ (P)))) := by
  obtain ⟨⟨l, dC, dI, k, a⟩, p, e, s, m, args, below, meth, c, A⟩ := C
  obtain ⟨⟨hx, hb, hr, htz, hown, hlocks, hml, hE, hK, hA⟩, hno, hlt⟩ := X
  intro H locs ls hl hP hD hS
  have hl : lv_has ls 8 [(0, .ref (a 20)), (1, .int x1), (2, .int x2), (3, .ref x3), (4, .ref x4), (5, .ref x5), (6, .ref x6), (7, .int x7)] := hl
  have hP : va_P (dC, dI) classes (s_t k a f_t g_t ++ (s_r k a r_r ++ (aw ++ (P)))) H := hP
  have hD : va_D A (s_t k a f_t g_t ++ (s_r k a r_r ++ (aw ++ (P)))) := hD
  show W p l e (z_rm 6 130 760) s m args below meth c H locs c0 s0 _ (F0 m 104 ls [.int y0])
  have hFc : ∀ q, va_A [] H.size q → A q := fun q h => h.elim (fun z => by obtain ⟨i9, e9, h9⟩ := z; cases h9) (fun z => hA q (Nat.le_trans hS.1 z))
  refine va_calli (va_runS (As := [.int y0]) (rest := []) ⟨hx, hb, hml, hown, htz⟩ (m_104 H.size) (va_cwS 1 htz (z_gS (fun _ h => h) km_TR_75 st_TR_isDigit ini_TR m_TR_isDigit) rfl rfl rfl (by decide +kernel) ⟨(Nat.le_of_ble_eq_true rfl), (Nat.le_of_ble_eq_true rfl)⟩) ⟨z_blind, fun U hU hW => ⟨rfl, by rw [hU], hE.call hS hFc hU hW, by rw [hU]; exact zP0, va_K.moved hW.alike hK, zD0⟩⟩ rfl rfl hl.1 rfl (lv_room (Nat.le_of_ble_eq_true rfl)) d_TR_readQuestion_104 b_104) hS (fun q _ h => hFc q h) hFc (fun r u t H1 locs ht hvm hw hB hz1 hk1 hS => ?_)
  obtain ⟨hP1, hK1, hD1⟩ := hB
  rw [ht] at hP1
  have hP : va_P (dC, dI) classes (s_t k a f_t g_t ++ (s_r k a r_r ++ (aw ++ (P)))) H1 := hP.kept (fun j q hq => hk1 q.1 (hP j q hq).lt (fun z => z.elim (fun z => by obtain ⟨i9, e9, h9⟩ := z; cases h9) (fun z => absurd z (Nat.not_le.mpr (hP j q hq).lt))))
  exact k_104 r _ hw H1 locs ls (lv_sub hl [0, 1, 2, 3, 4, 5, 6, 7] rfl) hP hD hS
set_option maxHeartbeats 1000000 in
set_option maxRecDepth 100000 in
theorem k_TR_readQuestion_107 {C : CT} (X : cX C "QuestionText$TextReader" b_TR_readQuestion 8 none) (Post : va_W → Prop) (PX : String → va_W → Prop) {P_114 : Option Nat → va_W → Prop} {X_114 : String → va_W → Prop} (x1 : Int32) (x2 : Int32) (x3 : Nat) (x4 : Nat) (x5 : Nat) (x6 : Nat) (x7 : Int32) (y0 : Int32) (aw : va_W) (f_t : FT) (g_t : GT) (r_r : Nat → Nat → Option Nat) (P : va_W) (c0 s0 : Nat)
    (k_138 : (y0 = 0) → zc_TR_readQuestion C Post PX c0 s0 138 [(0, .ref (ad C.1 20)), (1, .int x1), (2, .int x2), (3, .ref x3), (4, .ref x4), (5, .ref x5), (6, .ref x6), (7, .int x7)] [] (s_t C.1.2.2.2.1 C.1.2.2.2.2 f_t g_t ++ (s_r C.1.2.2.2.1 C.1.2.2.2.2 r_r ++ (aw ++ (P)))))
    (b_114 : (¬ y0 = 0) → c0 + 8 ≤ 130 ∧ s0 + 44 ≤ 760)
    (m_114 : (¬ y0 = 0) → xR C.1 y_TR_readSpan (Cond.code y_TR_readSpan b_TR_readSpan 2 (some (.object "QuestionText$Span"))) 2 8 44 [.ref (ad C.1 20)] (s_t C.1.2.2.2.1 C.1.2.2.2.2 f_t g_t ++ (P)) P_114 X_114)
    (k_114 : (¬ y0 = 0) → ∀ (r : Option Nat) (u : va_W), P_114 r u → zc_TR_readQuestion C Post PX (c0 + 8) (s0 + 44) 117 [(0, .ref (ad C.1 20)), (1, .int x1), (2, .int x2), (3, .ref x3), (4, .ref x4), (5, .ref x5), (6, .ref x6), (7, .int x7)] [va_rf r, .ref (ad C.1 20), .ref x6] (s_r C.1.2.2.2.1 C.1.2.2.2.2 r_r ++ (aw) ++ (u)))
    (x_114 : (¬ y0 = 0) → ∀ (E : String) (u : va_W), X_114 E u → PX E (s_r C.1.2.2.2.1 C.1.2.2.2.2 r_r ++ (aw) ++ (u))) : zc_TR_readQuestion C Post PX c0 s0 107 [(0, .ref (ad C.1 20)), (1, .int x1), (2, .int x2), (3, .ref x3), (4, .ref x4), (5, .ref x5), (6, .ref x6), (7, .int x7)] [.int y0] (s_t C.1.2.2.2.1 C.1.2.2.2.2 f_t g_t ++ (s_r C.1.2.2.2.1 C.1.2.2.2.2 r_r ++ (aw ++ (P)))) := by
  obtain ⟨⟨l, dC, dI, k, a⟩, p, e, s, m, args, below, meth, c, A⟩ := C
  obtain ⟨⟨hx, hb, hr, htz, hown, hlocks, hml, hE, hK, hA⟩, hno, hlt⟩ := X
  intro H locs ls hl hP hD hS
  have hl : lv_has ls 8 [(0, .ref (a 20)), (1, .int x1), (2, .int x2), (3, .ref x3), (4, .ref x4), (5, .ref x5), (6, .ref x6), (7, .int x7)] := hl
  have hP : va_P (dC, dI) classes (s_t k a f_t g_t ++ (s_r k a r_r ++ (aw ++ (P)))) H := hP
  have hD : va_D A (s_t k a f_t g_t ++ (s_r k a r_r ++ (aw ++ (P)))) := hD
  show W p l e (z_rm 6 130 760) s m args below meth c H locs c0 s0 _ (F0 m 107 ls [.int y0])
  refine lv_if_eq (tgt := 138) hx hb d_TR_readQuestion_107 (by decide) (fun c_107 => ?_) (fun c_107 => ?_)
  · exact (k_138 c_107) H locs ls (lv_sub hl [0, 1, 2, 3, 4, 5, 6, 7] rfl) hP hD hS
  · refine lv_aload hx hb d_TR_readQuestion_110 (lv_at hl 6 rfl) ?_
    refine lv_aload_n hx hb d_TR_readQuestion_112 rfl (lv_at hl 0 rfl) ?_
    refine lv_aload_n hx hb d_TR_readQuestion_113 rfl (lv_at hl 0 rfl) ?_
    have hPf : va_P (dC, dI) classes ((s_r k a r_r ++ (aw)) ++ ((s_t k a f_t g_t ++ (P)) ++ ([]))) H := by rw [List.append_nil]; exact zpP ((zpA2 (zp3 _ _ _))) hP
    have hDf : va_D A ((s_r k a r_r ++ (aw)) ++ ((s_t k a f_t g_t ++ (P)) ++ ([]))) := by rw [List.append_nil]; exact zpD ((zpA2 (zp3 _ _ _))) hD
    have hFc := zfree hDf hS hA
    refine vx_callq (vx_runV (As := []) (rest := [.ref (a 20), .ref x6]) ⟨hx, hb, hml, hown, htz⟩ ((m_114 c_107) H.size) (cwV 0 htz (z_gV (fun _ h => h) km_TR_64 in_TR_readSpan se_TR_readSpan ini_TR m_TR_readSpan) rfl rfl rfl (by decide +kernel) ⟨(Nat.le_of_ble_eq_true rfl), (Nat.le_of_ble_eq_true rfl)⟩) ⟨z_blind, va_recv hK hP (ci := 1) (q0 := 0) rfl rfl, fun U hU hW => ⟨rfl, by rw [hU], hE.call hS hFc hU hW, by rw [hU]; exact (zPc hPf), va_K.moved hW.alike hK, (zDc hDf)⟩⟩ rfl rfl hl.1 rfl (lv_room (Nat.le_of_ble_eq_true rfl)) d_TR_readQuestion_114 (b_114 c_107)) hS (fun q _ h => hFc q h) hFc (fun q _ h => hFc q h) (fun E ce q9 u t H1 locs ht hvm hw hB hz1 hk1 hS hce hcv hcl => ?_) (fun r u t H1 locs ht hvm hw hB hz1 hk1 hS => ?_)
    · obtain ⟨hxe, hP1, hK1, hD1⟩ := hB
      rw [ht] at hP1
      obtain ⟨hP, hD⟩ := zf hPf hDf hk1 hFc hP1 hD1
      rw [List.append_nil] at hP hD
      exact vx_out (fun x hx9 => (hno x hx9).elim) hlocks hce hcv hcl (fun t9 h9 h8 => ⟨_, trivial, ⟨(x_114 c_107) E u hxe, by rw [h9]; exact hP, va_K.moved h8 hK, hD⟩, hS.F h9⟩) hS.2.2 (b_114 c_107).1 (b_114 c_107).2
    · obtain ⟨hP1, hK1, hD1⟩ := hB
      rw [ht] at hP1
      obtain ⟨hP, hD⟩ := zf hPf hDf hk1 hFc hP1 hD1
      rw [List.append_nil] at hP hD
      exact (k_114 c_107) r _ hw H1 locs ls (lv_sub hl [0, 1, 2, 3, 4, 5, 6, 7] rfl) hP hD hS
set_option maxHeartbeats 1000000 in
set_option maxRecDepth 100000 in
theorem k_TR_readQuestion_117 {C : CT} (X : cX C "QuestionText$TextReader" b_TR_readQuestion 8 none) (Post : va_W → Prop) (PX : String → va_W → Prop) {P_117 : Option Nat → va_W → Prop} {X_117 : String → va_W → Prop} (x1 : Int32) (x2 : Int32) (x3 : Nat) (x4 : Nat) (x5 : Nat) (x6 : Nat) (x7 : Int32) (y0 : Nat) (y2 : Nat) (aw : va_W) (f_t : FT) (g_t : GT) (r_r : Nat → Nat → Option Nat) (P : va_W) (c0 s0 : Nat)
    (b_117 : c0 + 8 ≤ 130 ∧ s0 + 45 ≤ 760)
    (m_117 : xR C.1 y_TR_readJump (Cond.code y_TR_readJump b_TR_readJump 4 (some (.object "QuestionText$Jump"))) 2 8 45 [.ref (ad C.1 20), .ref y0] (s_t C.1.2.2.2.1 C.1.2.2.2.2 f_t g_t ++ (P)) P_117 X_117)
    (k_117 : ∀ (r : Option Nat) (u : va_W), P_117 r u → zc_TR_readQuestion C Post PX (c0 + 8) (s0 + 45) 120 [(0, .ref (ad C.1 20)), (1, .int x1), (2, .int x2), (3, .ref x3), (4, .ref x4), (5, .ref x5), (6, .ref x6), (7, .int x7)] [va_rf r, .ref y2] (s_r C.1.2.2.2.1 C.1.2.2.2.2 r_r ++ (aw) ++ (u)))
    (x_117 : ∀ (E : String) (u : va_W), X_117 E u → PX E (s_r C.1.2.2.2.1 C.1.2.2.2.2 r_r ++ (aw) ++ (u))) : zc_TR_readQuestion C Post PX c0 s0 117 [(0, .ref (ad C.1 20)), (1, .int x1), (2, .int x2), (3, .ref x3), (4, .ref x4), (5, .ref x5), (6, .ref x6), (7, .int x7)] [.ref y0, .ref (ad C.1 20), .ref y2] (s_t C.1.2.2.2.1 C.1.2.2.2.2 f_t g_t ++ (s_r C.1.2.2.2.1 C.1.2.2.2.2 r_r ++ (aw ++ (P)))) := by
  obtain ⟨⟨l, dC, dI, k, a⟩, p, e, s, m, args, below, meth, c, A⟩ := C
  obtain ⟨⟨hx, hb, hr, htz, hown, hlocks, hml, hE, hK, hA⟩, hno, hlt⟩ := X
  intro H locs ls hl hP hD hS
  have hl : lv_has ls 8 [(0, .ref (a 20)), (1, .int x1), (2, .int x2), (3, .ref x3), (4, .ref x4), (5, .ref x5), (6, .ref x6), (7, .int x7)] := hl
  have hP : va_P (dC, dI) classes (s_t k a f_t g_t ++ (s_r k a r_r ++ (aw ++ (P)))) H := hP
  have hD : va_D A (s_t k a f_t g_t ++ (s_r k a r_r ++ (aw ++ (P)))) := hD
  show W p l e (z_rm 6 130 760) s m args below meth c H locs c0 s0 _ (F0 m 117 ls [.ref y0, .ref (a 20), .ref y2])
  have hPf : va_P (dC, dI) classes ((s_r k a r_r ++ (aw)) ++ ((s_t k a f_t g_t ++ (P)) ++ ([]))) H := by rw [List.append_nil]; exact zpP ((zpA2 (zp3 _ _ _))) hP
  have hDf : va_D A ((s_r k a r_r ++ (aw)) ++ ((s_t k a f_t g_t ++ (P)) ++ ([]))) := by rw [List.append_nil]; exact zpD ((zpA2 (zp3 _ _ _))) hD
  have hFc := zfree hDf hS hA
  refine vx_callq (vx_runV (As := [.ref y0]) (rest := [.ref y2]) ⟨hx, hb, hml, hown, htz⟩ (m_117 H.size) (cwV 1 htz (z_gV (fun _ h => h) km_TR_78 in_TR_readJump se_TR_readJump ini_TR m_TR_readJump) rfl rfl rfl (by decide +kernel) ⟨(Nat.le_of_ble_eq_true rfl), (Nat.le_of_ble_eq_true rfl)⟩) ⟨z_blind, va_recv hK hP (ci := 1) (q0 := 0) rfl rfl, fun U hU hW => ⟨rfl, by rw [hU], hE.call hS hFc hU hW, by rw [hU]; exact (zPc hPf), va_K.moved hW.alike hK, (zDc hDf)⟩⟩ rfl rfl hl.1 rfl (lv_room (Nat.le_of_ble_eq_true rfl)) d_TR_readQuestion_117 b_117) hS (fun q _ h => hFc q h) hFc (fun q _ h => hFc q h) (fun E ce q9 u t H1 locs ht hvm hw hB hz1 hk1 hS hce hcv hcl => ?_) (fun r u t H1 locs ht hvm hw hB hz1 hk1 hS => ?_)
  · obtain ⟨hxe, hP1, hK1, hD1⟩ := hB
    rw [ht] at hP1
    obtain ⟨hP, hD⟩ := zf hPf hDf hk1 hFc hP1 hD1
    rw [List.append_nil] at hP hD
    exact vx_out (fun x hx9 => (hno x hx9).elim) hlocks hce hcv hcl (fun t9 h9 h8 => ⟨_, trivial, ⟨x_117 E u hxe, by rw [h9]; exact hP, va_K.moved h8 hK, hD⟩, hS.F h9⟩) hS.2.2 b_117.1 b_117.2
  · obtain ⟨hP1, hK1, hD1⟩ := hB
    rw [ht] at hP1
    obtain ⟨hP, hD⟩ := zf hPf hDf hk1 hFc hP1 hD1
    rw [List.append_nil] at hP hD
    exact k_117 r _ hw H1 locs ls (lv_sub hl [0, 1, 2, 3, 4, 5, 6, 7] rfl) hP hD hS
set_option maxHeartbeats 1000000 in
set_option maxRecDepth 100000 in
theorem k_TR_readQuestion_120 {C : CT} (X : cX C "QuestionText$TextReader" b_TR_readQuestion 8 none) (Post : va_W → Prop) (PX : String → va_W → Prop) {P_120 : Int32 → va_W → Prop} (x1 : Int32) (x2 : Int32) (x3 : Nat) (x4 : Nat) (x5 : Nat) (x6 : Nat) (x7 : Int32) (y0 : Nat) (y1 : Nat) (aw : va_W) (f_t : FT) (g_t : GT) (r_r : Nat → Nat → Option Nat) (P : va_W) (c0 s0 : Nat)
    (b_120 : c0 + 1 ≤ 130 ∧ s0 + 10 ≤ 760)
    (m_120 : uI C.1 y_AL_add (Cond.code y_AL_add b_AL_add 2 (some .boolean)) 4 1 10 [.ref y1, .ref y0] (aw ++ (P)) P_120)
    (k_120 : ∀ (r : Int32) (u : va_W), P_120 r u → zc_TR_readQuestion C Post PX (c0 + 1) (s0 + 10) 125 [(0, .ref (ad C.1 20)), (1, .int x1), (2, .int x2), (3, .ref x3), (4, .ref x4), (5, .ref x5), (6, .ref x6), (7, .int x7)] [.int r] (s_t C.1.2.2.2.1 C.1.2.2.2.2 f_t g_t ++ (s_r C.1.2.2.2.1 C.1.2.2.2.2 r_r) ++ (u)))
    (r_120 : ∃ (i : Nat) (fs : List Value), aw[i]? = some (y1, .inr (11, fs))) : zc_TR_readQuestion C Post PX c0 s0 120 [(0, .ref (ad C.1 20)), (1, .int x1), (2, .int x2), (3, .ref x3), (4, .ref x4), (5, .ref x5), (6, .ref x6), (7, .int x7)] [.ref y0, .ref y1] (s_t C.1.2.2.2.1 C.1.2.2.2.2 f_t g_t ++ (s_r C.1.2.2.2.1 C.1.2.2.2.2 r_r ++ (aw ++ (P)))) := by
  obtain ⟨⟨l, dC, dI, k, a⟩, p, e, s, m, args, below, meth, c, A⟩ := C
  obtain ⟨⟨hx, hb, hr, htz, hown, hlocks, hml, hE, hK, hA⟩, hno, hlt⟩ := X
  intro H locs ls hl hP hD hS
  have hl : lv_has ls 8 [(0, .ref (a 20)), (1, .int x1), (2, .int x2), (3, .ref x3), (4, .ref x4), (5, .ref x5), (6, .ref x6), (7, .int x7)] := hl
  have hP : va_P (dC, dI) classes (s_t k a f_t g_t ++ (s_r k a r_r ++ (aw ++ (P)))) H := hP
  have hD : va_D A (s_t k a f_t g_t ++ (s_r k a r_r ++ (aw ++ (P)))) := hD
  show W p l e (z_rm 6 130 760) s m args below meth c H locs c0 s0 _ (F0 m 120 ls [.ref y0, .ref y1])
  have hPf : va_P (dC, dI) classes ((s_t k a f_t g_t ++ (s_r k a r_r)) ++ ((aw ++ (P)) ++ ([]))) H := by rw [List.append_nil]; exact hP
  have hDf : va_D A ((s_t k a f_t g_t ++ (s_r k a r_r)) ++ ((aw ++ (P)) ++ ([]))) := by rw [List.append_nil]; exact hD
  have hFc := zfree hDf hS hA
  obtain ⟨i9, fs9, h9r⟩ := r_120
  have h9a : (aw ++ (P))[i9]? = some (y1, .inr (11, fs9)) := by rw [List.getElem?_append_left (List.getElem?_eq_some_iff.mp h9r).1]; exact h9r
  refine va_callFi (va_runF (hK.1 11 _ rfl).2 (As := [.ref y0]) (rest := []) ⟨hx, hb, hml, hown, htz⟩ (m_120 H.size) (va_cwF 1 htz (z_gF (fun _ h => h) km_TR_82 sx_AL_add in_AL_add ini_AL m_AL_add) rfl rfl rfl (hE.1.1 (⟨"java/util/List", "add", "(Ljava/lang/Object;)Z"⟩, y_AL_add) (by decide +kernel)) (by decide +kernel) ⟨(Nat.le_of_ble_eq_true rfl), (Nat.le_of_ble_eq_true rfl)⟩) ⟨z_blind, va_recv hK (zPc hPf) (ci := 11) (q0 := i9) rfl h9a, fun U hU hW => ⟨rfl, by rw [hU], hE.call hS hFc hU hW, by rw [hU]; exact (zPc hPf), va_K.moved hW.alike hK, (zDc hDf)⟩⟩ rfl rfl hl.1 rfl (lv_room (Nat.le_of_ble_eq_true rfl)) d_TR_readQuestion_120 b_120) hS (fun q _ h => hFc q h) hFc (fun r u t H1 locs ht hvm hw hB hz1 hk1 hS => ?_)
  obtain ⟨hP1, hK1, hD1⟩ := hB
  rw [ht] at hP1
  obtain ⟨hP, hD⟩ := zf hPf hDf hk1 hFc hP1 hD1
  rw [List.append_nil] at hP hD
  exact k_120 r _ hw H1 locs ls (lv_sub hl [0, 1, 2, 3, 4, 5, 6, 7] rfl) hP hD hS
set_option maxHeartbeats 1000000 in
set_option maxRecDepth 100000 in
theorem k_TR_readQuestion_125 {C : CT} (X : cX C "QuestionText$TextReader" b_TR_readQuestion 8 none) (Post : va_W → Prop) (PX : String → va_W → Prop) {P_129 : va_W → Prop} {X_129 : String → va_W → Prop} (x1 : Int32) (x2 : Int32) (x3 : Nat) (x4 : Nat) (x5 : Nat) (x6 : Nat) (x7 : Int32) (y0 : Int32) (aw : va_W) (f_t : FT) (g_t : GT) (r_r : Nat → Nat → Option Nat) (P : va_W) (c0 s0 : Nat)
    (b_129 : c0 + 1 ≤ 130 ∧ s0 + 6 ≤ 760)
    (m_129 : xV C.1 y_TR_take (Cond.code y_TR_take b_TR_take 2 none) 1 1 6 [.ref (ad C.1 20), .int 44] (s_t C.1.2.2.2.1 C.1.2.2.2.2 f_t g_t) P_129 X_129)
    (k_129 : ∀ (u : va_W), P_129 u → zc_TR_readQuestion C Post PX (c0 + 1) (s0 + 6) 132 [(0, .ref (ad C.1 20)), (1, .int x1), (2, .int x2), (3, .ref x3), (4, .ref x4), (5, .ref x5), (6, .ref x6), (7, .int x7)] [] (u ++ (s_r C.1.2.2.2.1 C.1.2.2.2.2 r_r ++ (aw ++ (P)))))
    (x_129 : ∀ (E : String) (u : va_W), X_129 E u → PX E (u ++ (s_r C.1.2.2.2.1 C.1.2.2.2.2 r_r ++ (aw ++ (P))))) : zc_TR_readQuestion C Post PX c0 s0 125 [(0, .ref (ad C.1 20)), (1, .int x1), (2, .int x2), (3, .ref x3), (4, .ref x4), (5, .ref x5), (6, .ref x6), (7, .int x7)] [.int y0] (s_t C.1.2.2.2.1 C.1.2.2.2.2 f_t g_t ++ (s_r C.1.2.2.2.1 C.1.2.2.2.2 r_r ++ (aw ++ (P)))) := by
  obtain ⟨⟨l, dC, dI, k, a⟩, p, e, s, m, args, below, meth, c, A⟩ := C
  obtain ⟨⟨hx, hb, hr, htz, hown, hlocks, hml, hE, hK, hA⟩, hno, hlt⟩ := X
  intro H locs ls hl hP hD hS
  have hl : lv_has ls 8 [(0, .ref (a 20)), (1, .int x1), (2, .int x2), (3, .ref x3), (4, .ref x4), (5, .ref x5), (6, .ref x6), (7, .int x7)] := hl
  have hP : va_P (dC, dI) classes (s_t k a f_t g_t ++ (s_r k a r_r ++ (aw ++ (P)))) H := hP
  have hD : va_D A (s_t k a f_t g_t ++ (s_r k a r_r ++ (aw ++ (P)))) := hD
  show W p l e (z_rm 6 130 760) s m args below meth c H locs c0 s0 _ (F0 m 125 ls [.int y0])
  refine lv_pop hx hb d_TR_readQuestion_125 rfl ?_
  refine lv_aload_n hx hb d_TR_readQuestion_126 rfl (lv_at hl 0 rfl) ?_
  refine lv_bipush (v := 44) hx hb d_TR_readQuestion_127 (by decide) ?_
  have hPf : va_P (dC, dI) classes (([]) ++ ((s_t k a f_t g_t) ++ (s_r k a r_r ++ (aw ++ (P))))) H := hP
  have hDf : va_D A (([]) ++ ((s_t k a f_t g_t) ++ (s_r k a r_r ++ (aw ++ (P))))) := hD
  have hFc := zfree hDf hS hA
  refine vx_callv (vx_runV (As := [.int 44]) (rest := []) ⟨hx, hb, hml, hown, htz⟩ (m_129 H.size) (cwV 1 htz (z_gV (fun _ h => h) km_TR_48 in_TR_take se_TR_take ini_TR m_TR_take) rfl rfl rfl (by decide +kernel) ⟨(Nat.le_of_ble_eq_true rfl), (Nat.le_of_ble_eq_true rfl)⟩) ⟨z_blind, va_recv hK hP (ci := 1) (q0 := 0) rfl rfl, fun U hU hW => ⟨rfl, by rw [hU], hE.call hS hFc hU hW, by rw [hU]; exact (zPc hPf), va_K.moved hW.alike hK, (zDc hDf)⟩⟩ rfl rfl hl.1 rfl (lv_room (Nat.le_of_ble_eq_true rfl)) d_TR_readQuestion_129 b_129) hS (fun q _ h => hFc q h) hFc (fun q _ h => hFc q h) (fun E ce q9 u t H1 locs ht hvm hw hB hz1 hk1 hS hce hcv hcl => ?_) (fun u t H1 locs ht hvm hw hB hz1 hk1 hS => ?_)
  · obtain ⟨hxe, hP1, hK1, hD1⟩ := hB
    rw [ht] at hP1
    obtain ⟨hP, hD⟩ := zf hPf hDf hk1 hFc hP1 hD1
    exact vx_out (fun x hx9 => (hno x hx9).elim) hlocks hce hcv hcl (fun t9 h9 h8 => ⟨_, trivial, ⟨x_129 E u hxe, by rw [h9]; exact hP, va_K.moved h8 hK, hD⟩, hS.F h9⟩) hS.2.2 b_129.1 b_129.2
  · obtain ⟨hP1, hK1, hD1⟩ := hB
    rw [ht] at hP1
    obtain ⟨hP, hD⟩ := zf hPf hDf hk1 hFc hP1 hD1
    exact k_129 _ hw H1 locs ls (lv_sub hl [0, 1, 2, 3, 4, 5, 6, 7] rfl) hP hD hS
set_option maxHeartbeats 1000000 in
set_option maxRecDepth 100000 in
theorem k_TR_readQuestion_132 {C : CT} (X : cX C "QuestionText$TextReader" b_TR_readQuestion 8 none) (Post : va_W → Prop) (PX : String → va_W → Prop) (x1 : Int32) (x2 : Int32) (x3 : Nat) (x4 : Nat) (x5 : Nat) (x6 : Nat) (x7 : Int32) (aw : va_W) (f_t : FT) (g_t : GT) (r_r : Nat → Nat → Option Nat) (P : va_W) (c0 s0 : Nat)
    (k_93 : zc_TR_readQuestion C Post PX c0 s0 93 [(0, .ref (ad C.1 20)), (1, .int x1), (2, .int x2), (3, .ref x3), (4, .ref x4), (5, .ref x5), (6, .ref x6), (7, .int (x7 + 1))] [] (s_t C.1.2.2.2.1 C.1.2.2.2.2 f_t g_t ++ (s_r C.1.2.2.2.1 C.1.2.2.2.2 r_r ++ (aw ++ (P))))) : zc_TR_readQuestion C Post PX c0 s0 132 [(0, .ref (ad C.1 20)), (1, .int x1), (2, .int x2), (3, .ref x3), (4, .ref x4), (5, .ref x5), (6, .ref x6), (7, .int x7)] [] (s_t C.1.2.2.2.1 C.1.2.2.2.2 f_t g_t ++ (s_r C.1.2.2.2.1 C.1.2.2.2.2 r_r ++ (aw ++ (P)))) := by
  obtain ⟨⟨l, dC, dI, k, a⟩, p, e, s, m, args, below, meth, c, A⟩ := C
  obtain ⟨⟨hx, hb, hr, htz, hown, hlocks, hml, hE, hK, hA⟩, hno, hlt⟩ := X
  intro H locs ls hl hP hD hS
  have hl : lv_has ls 8 [(0, .ref (a 20)), (1, .int x1), (2, .int x2), (3, .ref x3), (4, .ref x4), (5, .ref x5), (6, .ref x6), (7, .int x7)] := hl
  have hP : va_P (dC, dI) classes (s_t k a f_t g_t ++ (s_r k a r_r ++ (aw ++ (P)))) H := hP
  have hD : va_D A (s_t k a f_t g_t ++ (s_r k a r_r ++ (aw ++ (P)))) := hD
  show W p l e (z_rm 6 130 760) s m args below meth c H locs c0 s0 _ (F0 m 132 ls [])
  refine lv_iinc (v := x7 + 1) (lv' := [(7, .int (x7 + 1)), (0, .ref (a 20)), (1, .int x1), (2, .int x2), (3, .ref x3), (4, .ref x4), (5, .ref x5), (6, .ref x6)]) hx hb d_TR_readQuestion_132 hl (k := 7) rfl (rfl) (by decide) rfl (fun ls hl => ?_)
  refine lv_goto (tgt := 93) hx hb d_TR_readQuestion_135 (by decide) ?_
  exact k_93 H locs ls (lv_sub hl [1, 2, 3, 4, 5, 6, 7, 0] rfl) hP hD hS
set_option maxHeartbeats 1000000 in
set_option maxRecDepth 100000 in
theorem k_TR_readQuestion_138 {C : CT} (X : cX C "QuestionText$TextReader" b_TR_readQuestion 8 none) (Post : va_W → Prop) (PX : String → va_W → Prop) {P_147 : Nat → va_W → Prop} (x1 : Int32) (x2 : Int32) (x3 : Nat) (x4 : Nat) (x5 : Nat) (x6 : Nat) (x7 : Int32) (aw : va_W) (f_t : FT) (g_t : GT) (r_r : Nat → Nat → Option Nat) (P : va_W) (c0 s0 : Nat)
    (b_139 : c0 + 1 ≤ 130 ∧ s0 + 2 ≤ 760)
    (b_147 : ∀ w139 : Nat, c0 + 1 ≤ 130 ∧ s0 + 2 ≤ 760)
    (m_147 : ∀ w139 : Nat, uV C.1 y_Sp_init (Cond.code y_Sp_init b_Sp_init 3 none) 0 0 0 [.ref w139, .int (-1), .int 9999] ([(w139, .inr (7, [.int 0, .int 0]))]) (P_147 w139))
    (k_147 : ∀ w139 : Nat, ∀ (u : va_W), (P_147 w139) u → zc_TR_readQuestion C Post PX (c0 + 1) (s0 + 2) 150 [(0, .ref (ad C.1 20)), (1, .int x1), (2, .int x2), (3, .ref x3), (4, .ref x4), (5, .ref x5), (6, .ref x6), (7, .int x7)] [.ref w139, .ref (ad C.1 20)] (u ++ (s_t C.1.2.2.2.1 C.1.2.2.2.2 f_t g_t ++ (s_r C.1.2.2.2.1 C.1.2.2.2.2 r_r ++ (aw ++ (P)))))) : zc_TR_readQuestion C Post PX c0 s0 138 [(0, .ref (ad C.1 20)), (1, .int x1), (2, .int x2), (3, .ref x3), (4, .ref x4), (5, .ref x5), (6, .ref x6), (7, .int x7)] [] (s_t C.1.2.2.2.1 C.1.2.2.2.2 f_t g_t ++ (s_r C.1.2.2.2.1 C.1.2.2.2.2 r_r ++ (aw ++ (P)))) := by
  obtain ⟨⟨l, dC, dI, k, a⟩, p, e, s, m, args, below, meth, c, A⟩ := C
  obtain ⟨⟨hx, hb, hr, htz, hown, hlocks, hml, hE, hK, hA⟩, hno, hlt⟩ := X
  intro H locs ls hl hP hD hS
  have hl : lv_has ls 8 [(0, .ref (a 20)), (1, .int x1), (2, .int x2), (3, .ref x3), (4, .ref x4), (5, .ref x5), (6, .ref x6), (7, .int x7)] := hl
  have hP : va_P (dC, dI) classes (s_t k a f_t g_t ++ (s_r k a r_r ++ (aw ++ (P)))) H := hP
  have hD : va_D A (s_t k a f_t g_t ++ (s_r k a r_r ++ (aw ++ (P)))) := hD
  show W p l e (z_rm 6 130 760) s m args below meth c H locs c0 s0 _ (F0 m 138 ls [])
  refine lv_aload_n hx hb d_TR_readQuestion_138 rfl (lv_at hl 0 rfl) ?_
  refine va_new (ci := 7) (fs := [.int 0, .int 0]) (C := R_Sp) (T := F_Sp) (N := 2) hx hb htz i_Sp t_Sp o_Sp hown (htz _ kc_TR_88) (htz _ mk_Sp) (htz _ ini_Sp) hK hP hD hS hA rfl (by intro j hj; match j, hj with | 0, _ => rfl | 1, _ => rfl | j + 2, h => exact absurd h (by omega)) b_139.1 b_139.2 d_TR_readQuestion_139 (fun w139 H hP hD hS => ?_)
  replace hP := zsP hP
  replace hD := zsD hD
  have hP : va_P (dC, dI) classes ([(w139, .inr (7, [.int 0, .int 0]))] ++ (s_t k a f_t g_t ++ (s_r k a r_r ++ (aw ++ (P))))) H := hP
  have hD : va_D A ([(w139, .inr (7, [.int 0, .int 0]))] ++ (s_t k a f_t g_t ++ (s_r k a r_r ++ (aw ++ (P))))) := hD
  refine lv_dup hx hb d_TR_readQuestion_142 rfl ?_
  refine lv_iconst (v := -1) hx hb d_TR_readQuestion_143 (by decide) ?_
  refine lv_sipush (v := 9999) hx hb d_TR_readQuestion_144 (by decide) ?_
  have hPf : va_P (dC, dI) classes (([]) ++ (([(w139, .inr (7, [.int 0, .int 0]))]) ++ (s_t k a f_t g_t ++ (s_r k a r_r ++ (aw ++ (P)))))) H := hP
  have hDf : va_D A (([]) ++ (([(w139, .inr (7, [.int 0, .int 0]))]) ++ (s_t k a f_t g_t ++ (s_r k a r_r ++ (aw ++ (P)))))) := hD
  have hFc := zfree hDf hS hA
  refine va_callv (va_runI (As := [.int (-1), .int 9999]) (rest := [.ref w139, .ref (a 20)]) ⟨hx, hb, hml, hown, htz⟩ ((m_147 w139) H.size) (cwI 2 htz (z_gI (fun _ h => h) m_Sp_init) rfl rfl rfl (htz _ ini_Sp) (htz _ km_TR_90) (htz _ in_Sp_init) rfl (by decide +kernel) ⟨(Nat.le_of_ble_eq_true rfl), (Nat.le_of_ble_eq_true rfl)⟩) ⟨z_blind, fun U hU hW => ⟨rfl, by rw [hU], hE.call hS hFc hU hW, by rw [hU]; exact (zPc hPf), va_K.moved hW.alike hK, (zDc hDf)⟩⟩ rfl rfl hl.1 rfl (lv_room (Nat.le_of_ble_eq_true rfl)) d_TR_readQuestion_147 (b_147 w139)) hS (fun q _ h => hFc q h) hFc (fun u t H1 locs ht hvm hw hB hz1 hk1 hS => ?_)
  obtain ⟨hP1, hK1, hD1⟩ := hB
  rw [ht] at hP1
  obtain ⟨hP, hD⟩ := zf hPf hDf hk1 hFc hP1 hD1
  exact (k_147 w139) _ hw H1 locs ls (lv_sub hl [0, 1, 2, 3, 4, 5, 6, 7] rfl) hP hD hS
set_option maxHeartbeats 1000000 in
set_option maxRecDepth 100000 in
theorem k_TR_readQuestion_150 {C : CT} (X : cX C "QuestionText$TextReader" b_TR_readQuestion 8 none) (Post : va_W → Prop) (PX : String → va_W → Prop) {P_150 : Option Nat → va_W → Prop} {X_150 : String → va_W → Prop} (x1 : Int32) (x2 : Int32) (x3 : Nat) (x4 : Nat) (x5 : Nat) (x6 : Nat) (x7 : Int32) (y0 : Nat) (aw : va_W) (f_t : FT) (g_t : GT) (r_r : Nat → Nat → Option Nat) (P : va_W) (c0 s0 : Nat)
    (b_150 : c0 + 8 ≤ 130 ∧ s0 + 45 ≤ 760)
    (m_150 : xR C.1 y_TR_readJump (Cond.code y_TR_readJump b_TR_readJump 4 (some (.object "QuestionText$Jump"))) 2 8 45 [.ref (ad C.1 20), .ref y0] (s_t C.1.2.2.2.1 C.1.2.2.2.2 f_t g_t ++ (P)) P_150 X_150)
    (k_150 : ∀ (r : Option Nat) (u : va_W), P_150 r u → zc_TR_readQuestion C Post PX (c0 + 8) (s0 + 45) 153 [(0, .ref (ad C.1 20)), (1, .int x1), (2, .int x2), (3, .ref x3), (4, .ref x4), (5, .ref x5), (6, .ref x6), (7, .int x7)] [va_rf r] (s_r C.1.2.2.2.1 C.1.2.2.2.2 r_r ++ (aw) ++ (u)))
    (x_150 : ∀ (E : String) (u : va_W), X_150 E u → PX E (s_r C.1.2.2.2.1 C.1.2.2.2.2 r_r ++ (aw) ++ (u))) : zc_TR_readQuestion C Post PX c0 s0 150 [(0, .ref (ad C.1 20)), (1, .int x1), (2, .int x2), (3, .ref x3), (4, .ref x4), (5, .ref x5), (6, .ref x6), (7, .int x7)] [.ref y0, .ref (ad C.1 20)] (s_t C.1.2.2.2.1 C.1.2.2.2.2 f_t g_t ++ (s_r C.1.2.2.2.1 C.1.2.2.2.2 r_r ++ (aw ++ (P)))) := by
  obtain ⟨⟨l, dC, dI, k, a⟩, p, e, s, m, args, below, meth, c, A⟩ := C
  obtain ⟨⟨hx, hb, hr, htz, hown, hlocks, hml, hE, hK, hA⟩, hno, hlt⟩ := X
  intro H locs ls hl hP hD hS
  have hl : lv_has ls 8 [(0, .ref (a 20)), (1, .int x1), (2, .int x2), (3, .ref x3), (4, .ref x4), (5, .ref x5), (6, .ref x6), (7, .int x7)] := hl
  have hP : va_P (dC, dI) classes (s_t k a f_t g_t ++ (s_r k a r_r ++ (aw ++ (P)))) H := hP
  have hD : va_D A (s_t k a f_t g_t ++ (s_r k a r_r ++ (aw ++ (P)))) := hD
  show W p l e (z_rm 6 130 760) s m args below meth c H locs c0 s0 _ (F0 m 150 ls [.ref y0, .ref (a 20)])
  have hPf : va_P (dC, dI) classes ((s_r k a r_r ++ (aw)) ++ ((s_t k a f_t g_t ++ (P)) ++ ([]))) H := by rw [List.append_nil]; exact zpP ((zpA2 (zp3 _ _ _))) hP
  have hDf : va_D A ((s_r k a r_r ++ (aw)) ++ ((s_t k a f_t g_t ++ (P)) ++ ([]))) := by rw [List.append_nil]; exact zpD ((zpA2 (zp3 _ _ _))) hD
  have hFc := zfree hDf hS hA
  refine vx_callq (vx_runV (As := [.ref y0]) (rest := []) ⟨hx, hb, hml, hown, htz⟩ (m_150 H.size) (cwV 1 htz (z_gV (fun _ h => h) km_TR_78 in_TR_readJump se_TR_readJump ini_TR m_TR_readJump) rfl rfl rfl (by decide +kernel) ⟨(Nat.le_of_ble_eq_true rfl), (Nat.le_of_ble_eq_true rfl)⟩) ⟨z_blind, va_recv hK hP (ci := 1) (q0 := 0) rfl rfl, fun U hU hW => ⟨rfl, by rw [hU], hE.call hS hFc hU hW, by rw [hU]; exact (zPc hPf), va_K.moved hW.alike hK, (zDc hDf)⟩⟩ rfl rfl hl.1 rfl (lv_room (Nat.le_of_ble_eq_true rfl)) d_TR_readQuestion_150 b_150) hS (fun q _ h => hFc q h) hFc (fun q _ h => hFc q h) (fun E ce q9 u t H1 locs ht hvm hw hB hz1 hk1 hS hce hcv hcl => ?_) (fun r u t H1 locs ht hvm hw hB hz1 hk1 hS => ?_)
  · obtain ⟨hxe, hP1, hK1, hD1⟩ := hB
    rw [ht] at hP1
    obtain ⟨hP, hD⟩ := zf hPf hDf hk1 hFc hP1 hD1
    rw [List.append_nil] at hP hD
    exact vx_out (fun x hx9 => (hno x hx9).elim) hlocks hce hcv hcl (fun t9 h9 h8 => ⟨_, trivial, ⟨x_150 E u hxe, by rw [h9]; exact hP, va_K.moved h8 hK, hD⟩, hS.F h9⟩) hS.2.2 b_150.1 b_150.2
  · obtain ⟨hP1, hK1, hD1⟩ := hB
    rw [ht] at hP1
    obtain ⟨hP, hD⟩ := zf hPf hDf hk1 hFc hP1 hD1
    rw [List.append_nil] at hP hD
    exact k_150 r _ hw H1 locs ls (lv_sub hl [0, 1, 2, 3, 4, 5, 6, 7] rfl) hP hD hS
set_option maxHeartbeats 1000000 in
set_option maxRecDepth 100000 in
theorem k_TR_readQuestion_153 {C : CT} (X : cX C "QuestionText$TextReader" b_TR_readQuestion 8 none) (Post : va_W → Prop) (PX : String → va_W → Prop) {P_158 : va_W → Prop} {X_158 : String → va_W → Prop} (x1 : Int32) (x2 : Int32) (x3 : Nat) (x4 : Nat) (x5 : Nat) (x6 : Nat) (x7 : Int32) (y0 : Nat) (aw : va_W) (f_t : FT) (g_t : GT) (r_r : Nat → Nat → Option Nat) (P : va_W) (c0 s0 : Nat)
    (b_158 : c0 + 1 ≤ 130 ∧ s0 + 6 ≤ 760)
    (m_158 : xV C.1 y_TR_take (Cond.code y_TR_take b_TR_take 2 none) 1 1 6 [.ref (ad C.1 20), .int 59] (s_t C.1.2.2.2.1 C.1.2.2.2.2 f_t g_t) P_158 X_158)
    (k_158 : ∀ (u : va_W), P_158 u → zc_TR_readQuestion C Post PX (c0 + 1) (s0 + 6) 161 [(0, .ref (ad C.1 20)), (1, .int x1), (2, .int x2), (3, .ref x3), (4, .ref x4), (5, .ref x5), (6, .ref x6), (7, .ref y0)] [] (u ++ (s_r C.1.2.2.2.1 C.1.2.2.2.2 r_r ++ (aw ++ (P)))))
    (x_158 : ∀ (E : String) (u : va_W), X_158 E u → PX E (u ++ (s_r C.1.2.2.2.1 C.1.2.2.2.2 r_r ++ (aw ++ (P))))) : zc_TR_readQuestion C Post PX c0 s0 153 [(0, .ref (ad C.1 20)), (1, .int x1), (2, .int x2), (3, .ref x3), (4, .ref x4), (5, .ref x5), (6, .ref x6), (7, .int x7)] [.ref y0] (s_t C.1.2.2.2.1 C.1.2.2.2.2 f_t g_t ++ (s_r C.1.2.2.2.1 C.1.2.2.2.2 r_r ++ (aw ++ (P)))) := by
  obtain ⟨⟨l, dC, dI, k, a⟩, p, e, s, m, args, below, meth, c, A⟩ := C
  obtain ⟨⟨hx, hb, hr, htz, hown, hlocks, hml, hE, hK, hA⟩, hno, hlt⟩ := X
  intro H locs ls hl hP hD hS
  have hl : lv_has ls 8 [(0, .ref (a 20)), (1, .int x1), (2, .int x2), (3, .ref x3), (4, .ref x4), (5, .ref x5), (6, .ref x6), (7, .int x7)] := hl
  have hP : va_P (dC, dI) classes (s_t k a f_t g_t ++ (s_r k a r_r ++ (aw ++ (P)))) H := hP
  have hD : va_D A (s_t k a f_t g_t ++ (s_r k a r_r ++ (aw ++ (P)))) := hD
  show W p l e (z_rm 6 130 760) s m args below meth c H locs c0 s0 _ (F0 m 153 ls [.ref y0])
  refine lv_astore (lv' := [(7, .ref y0), (0, .ref (a 20)), (1, .int x1), (2, .int x2), (3, .ref x3), (4, .ref x4), (5, .ref x5), (6, .ref x6)]) hx hb d_TR_readQuestion_153 hl (by decide) rfl (fun ls hl => ?_)
  refine lv_aload_n hx hb d_TR_readQuestion_155 rfl (lv_at hl 1 rfl) ?_
  refine lv_bipush (v := 59) hx hb d_TR_readQuestion_156 (by decide) ?_
  have hPf : va_P (dC, dI) classes (([]) ++ ((s_t k a f_t g_t) ++ (s_r k a r_r ++ (aw ++ (P))))) H := hP
  have hDf : va_D A (([]) ++ ((s_t k a f_t g_t) ++ (s_r k a r_r ++ (aw ++ (P))))) := hD
  have hFc := zfree hDf hS hA
  refine vx_callv (vx_runV (As := [.int 59]) (rest := []) ⟨hx, hb, hml, hown, htz⟩ (m_158 H.size) (cwV 1 htz (z_gV (fun _ h => h) km_TR_48 in_TR_take se_TR_take ini_TR m_TR_take) rfl rfl rfl (by decide +kernel) ⟨(Nat.le_of_ble_eq_true rfl), (Nat.le_of_ble_eq_true rfl)⟩) ⟨z_blind, va_recv hK hP (ci := 1) (q0 := 0) rfl rfl, fun U hU hW => ⟨rfl, by rw [hU], hE.call hS hFc hU hW, by rw [hU]; exact (zPc hPf), va_K.moved hW.alike hK, (zDc hDf)⟩⟩ rfl rfl hl.1 rfl (lv_room (Nat.le_of_ble_eq_true rfl)) d_TR_readQuestion_158 b_158) hS (fun q _ h => hFc q h) hFc (fun q _ h => hFc q h) (fun E ce q9 u t H1 locs ht hvm hw hB hz1 hk1 hS hce hcv hcl => ?_) (fun u t H1 locs ht hvm hw hB hz1 hk1 hS => ?_)
  · obtain ⟨hxe, hP1, hK1, hD1⟩ := hB
    rw [ht] at hP1
    obtain ⟨hP, hD⟩ := zf hPf hDf hk1 hFc hP1 hD1
    exact vx_out (fun x hx9 => (hno x hx9).elim) hlocks hce hcv hcl (fun t9 h9 h8 => ⟨_, trivial, ⟨x_158 E u hxe, by rw [h9]; exact hP, va_K.moved h8 hK, hD⟩, hS.F h9⟩) hS.2.2 b_158.1 b_158.2
  · obtain ⟨hP1, hK1, hD1⟩ := hB
    rw [ht] at hP1
    obtain ⟨hP, hD⟩ := zf hPf hDf hk1 hFc hP1 hD1
    exact k_158 _ hw H1 locs ls (lv_sub hl [1, 2, 3, 4, 5, 6, 7, 0] rfl) hP hD hS
set_option maxHeartbeats 1000000 in
set_option maxRecDepth 100000 in
theorem k_TR_readQuestion_161 {C : CT} (X : cX C "QuestionText$TextReader" b_TR_readQuestion 8 none) (Post : va_W → Prop) (PX : String → va_W → Prop) {P_180 : Nat → va_W → Prop} (x1 : Int32) (x2 : Int32) (x3 : Nat) (x4 : Nat) (x5 : Nat) (x6 : Nat) (x7 : Nat) (aw : va_W) (f_t : FT) (g_t : GT) (r_r : Nat → Nat → Option Nat) (P : va_W) (c0 s0 : Nat)
    (b_166 : c0 + 1 ≤ 130 ∧ s0 + 6 ≤ 760)
    (b_180 : ∀ w166 : Nat, c0 + 1 ≤ 130 ∧ s0 + 6 ≤ 760)
    (m_180 : ∀ w166 : Nat, uV C.1 y_Qu_init (Cond.code y_Qu_init b_Qu_init 7 none) 0 0 0 [.ref w166, .int x2, .ref x3, .ref x4, .ref x5, .ref x6, .ref x7] ([(w166, .inr (6, [.int 0, .null, .null, .null, .null, .null]))]) (P_180 w166))
    (k_180 : ∀ w166 : Nat, ∀ (u : va_W), (P_180 w166) u → zc_TR_readQuestion C Post PX (c0 + 1) (s0 + 6) 183 [(0, .ref (ad C.1 20)), (1, .int x1), (2, .int x2), (3, .ref x3), (4, .ref x4), (5, .ref x5), (6, .ref x6), (7, .ref x7)] [.ref w166, .int x1, .ref (ad C.1 22)] (u ++ (s_t C.1.2.2.2.1 C.1.2.2.2.2 f_t g_t ++ (s_r C.1.2.2.2.1 C.1.2.2.2.2 r_r ++ (aw ++ (P)))))) : zc_TR_readQuestion C Post PX c0 s0 161 [(0, .ref (ad C.1 20)), (1, .int x1), (2, .int x2), (3, .ref x3), (4, .ref x4), (5, .ref x5), (6, .ref x6), (7, .ref x7)] [] (s_t C.1.2.2.2.1 C.1.2.2.2.2 f_t g_t ++ (s_r C.1.2.2.2.1 C.1.2.2.2.2 r_r ++ (aw ++ (P)))) := by
  obtain ⟨⟨l, dC, dI, k, a⟩, p, e, s, m, args, below, meth, c, A⟩ := C
  obtain ⟨⟨hx, hb, hr, htz, hown, hlocks, hml, hE, hK, hA⟩, hno, hlt⟩ := X
  intro H locs ls hl hP hD hS
  have hl : lv_has ls 8 [(0, .ref (a 20)), (1, .int x1), (2, .int x2), (3, .ref x3), (4, .ref x4), (5, .ref x5), (6, .ref x6), (7, .ref x7)] := hl
  have hP : va_P (dC, dI) classes (s_t k a f_t g_t ++ (s_r k a r_r ++ (aw ++ (P)))) H := hP
  have hD : va_D A (s_t k a f_t g_t ++ (s_r k a r_r ++ (aw ++ (P)))) := hD
  show W p l e (z_rm 6 130 760) s m args below meth c H locs c0 s0 _ (F0 m 161 ls [])
  refine lv_aload_n hx hb d_TR_readQuestion_161 rfl (lv_at hl 0 rfl) ?_
  refine va_get (D := (dC, dI)) (ci := 1) (v := .ref (a 22)) (C := R_TR) (T := F_TR) (N := 5) hx hb htz i_TR hown hK hP 0 rfl rfl 1 (by decide) (htz _ kf_TR_17) (fun _ h9 => h9) rfl d_TR_readQuestion_162 ?_
  refine lv_iload_n hx hb d_TR_readQuestion_165 rfl (lv_at hl 1 rfl) ?_
  refine va_new (ci := 6) (fs := [.int 0, .null, .null, .null, .null, .null]) (C := R_Qu) (T := F_Qu) (N := 6) hx hb htz i_Qu t_Qu o_Qu hown (htz _ kc_TR_15) (htz _ mk_Qu) (htz _ ini_Qu) hK hP hD hS hA rfl (by intro j hj; match j, hj with | 0, _ => rfl | 1, _ => rfl | 2, _ => rfl | 3, _ => rfl | 4, _ => rfl | 5, _ => rfl | j + 6, h => exact absurd h (by omega)) b_166.1 b_166.2 d_TR_readQuestion_166 (fun w166 H hP hD hS => ?_)
  replace hP := zsP hP
  replace hD := zsD hD
  have hP : va_P (dC, dI) classes ([(w166, .inr (6, [.int 0, .null, .null, .null, .null, .null]))] ++ (s_t k a f_t g_t ++ (s_r k a r_r ++ (aw ++ (P))))) H := hP
  have hD : va_D A ([(w166, .inr (6, [.int 0, .null, .null, .null, .null, .null]))] ++ (s_t k a f_t g_t ++ (s_r k a r_r ++ (aw ++ (P))))) := hD
  refine lv_dup hx hb d_TR_readQuestion_169 rfl ?_
  refine lv_iload_n hx hb d_TR_readQuestion_170 rfl (lv_at hl 2 rfl) ?_
  refine lv_aload_n hx hb d_TR_readQuestion_171 rfl (lv_at hl 3 rfl) ?_
  refine lv_aload hx hb d_TR_readQuestion_172 (lv_at hl 4 rfl) ?_
  refine lv_aload hx hb d_TR_readQuestion_174 (lv_at hl 5 rfl) ?_
  refine lv_aload hx hb d_TR_readQuestion_176 (lv_at hl 6 rfl) ?_
  refine lv_aload hx hb d_TR_readQuestion_178 (lv_at hl 7 rfl) ?_
  have hPf : va_P (dC, dI) classes (([]) ++ (([(w166, .inr (6, [.int 0, .null, .null, .null, .null, .null]))]) ++ (s_t k a f_t g_t ++ (s_r k a r_r ++ (aw ++ (P)))))) H := hP
  have hDf : va_D A (([]) ++ (([(w166, .inr (6, [.int 0, .null, .null, .null, .null, .null]))]) ++ (s_t k a f_t g_t ++ (s_r k a r_r ++ (aw ++ (P)))))) := hD
  have hFc := zfree hDf hS hA
  refine va_callv (va_runI (As := [.int x2, .ref x3, .ref x4, .ref x5, .ref x6, .ref x7]) (rest := [.ref w166, .int x1, .ref (a 22)]) ⟨hx, hb, hml, hown, htz⟩ ((m_180 w166) H.size) (cwI 6 htz (z_gI (fun _ h => h) m_Qu_init) rfl rfl rfl (htz _ ini_Qu) (htz _ km_TR_93) (htz _ in_Qu_init) rfl (by decide +kernel) ⟨(Nat.le_of_ble_eq_true rfl), (Nat.le_of_ble_eq_true rfl)⟩) ⟨z_blind, fun U hU hW => ⟨rfl, by rw [hU], hE.call hS hFc hU hW, by rw [hU]; exact (zPc hPf), va_K.moved hW.alike hK, (zDc hDf)⟩⟩ rfl rfl hl.1 rfl (lv_room (Nat.le_of_ble_eq_true rfl)) d_TR_readQuestion_180 (b_180 w166)) hS (fun q _ h => hFc q h) hFc (fun u t H1 locs ht hvm hw hB hz1 hk1 hS => ?_)
  obtain ⟨hP1, hK1, hD1⟩ := hB
  rw [ht] at hP1
  obtain ⟨hP, hD⟩ := zf hPf hDf hk1 hFc hP1 hD1
  exact (k_180 w166) _ hw H1 locs ls (lv_sub hl [0, 1, 2, 3, 4, 5, 6, 7] rfl) hP hD hS
set_option maxHeartbeats 1000000 in
set_option maxRecDepth 100000 in
theorem k_TR_readQuestion_183 {C : CT} (X : cX C "QuestionText$TextReader" b_TR_readQuestion 8 none) (Post : va_W → Prop) (PX : String → va_W → Prop) (x1 : Int32) (x2 : Int32) (x3 : Nat) (x4 : Nat) (x5 : Nat) (x6 : Nat) (x7 : Nat) (y0 : Nat) (y1 : Int32) (f_t : FT) (g_t : GT) (r_r : Nat → Nat → Option Nat) (P : va_W) (vs : List Value) (i1 : Nat) (c0 s0 : Nat) (hf : P[i1]? = some (y0, .inr (6, vs)))
    (h_183 : vp_in (y1) 61)
    (b_184 : c0 ≤ 130 ∧ s0 ≤ 760)
    (q_184 : Post (s_t C.1.2.2.2.1 C.1.2.2.2.2 f_t g_t ++ (s_r C.1.2.2.2.1 C.1.2.2.2.2 (va_up r_r 0 (va_up (r_r 0) (y1 : Int32).toNatClampNeg (some y0))) ++ (P)))) : zc_TR_readQuestion C Post PX c0 s0 183 [(0, .ref (ad C.1 20)), (1, .int x1), (2, .int x2), (3, .ref x3), (4, .ref x4), (5, .ref x5), (6, .ref x6), (7, .ref x7)] [.ref y0, .int y1, .ref (ad C.1 22)] (s_t C.1.2.2.2.1 C.1.2.2.2.2 f_t g_t ++ (s_r C.1.2.2.2.1 C.1.2.2.2.2 r_r ++ (P))) := by
  obtain ⟨⟨l, dC, dI, k, a⟩, p, e, s, m, args, below, meth, c, A⟩ := C
  obtain ⟨⟨hx, hb, hr, htz, hown, hlocks, hml, hE, hK, hA⟩, hno, hlt⟩ := X
  intro H locs ls hl hP hD hS
  have hl : lv_has ls 8 [(0, .ref (a 20)), (1, .int x1), (2, .int x2), (3, .ref x3), (4, .ref x4), (5, .ref x5), (6, .ref x6), (7, .ref x7)] := hl
  have hP : va_P (dC, dI) classes (s_t k a f_t g_t ++ (s_r k a r_r ++ (P))) H := hP
  have hD : va_D A (s_t k a f_t g_t ++ (s_r k a r_r ++ (P))) := hD
  show W p l e (z_rm 6 130 760) s m args below meth c H locs c0 s0 _ (F0 m 183 ls [.ref y0, .int y1, .ref (a 22)])
  refine va_astq hx hb hK hP hD hS 2 3 (i1 + 4) 6 rfl rfl hf rfl h_183 d_TR_readQuestion_183 (fun H locs hP hD hS => ?_)
  have hP : va_P (dC, dI) classes (s_t k a f_t g_t ++ (s_r k a (va_up r_r 0 (va_up (r_r 0) (y1 : Int32).toNatClampNeg (some y0))) ++ (P))) H := hP
  have hD : va_D A (s_t k a f_t g_t ++ (s_r k a (va_up r_r 0 (va_up (r_r 0) (y1 : Int32).toNatClampNeg (some y0))) ++ (P))) := hD
  refine W.widen (k := 130) (n := 760) b_184.1 b_184.2 ?_
  refine vx_ret ?_
  exact W.vret hx hb hr (fun t ht hW => ⟨⟨(s_t k a f_t g_t ++ (s_r k a (va_up r_r 0 (va_up (r_r 0) (y1 : Int32).toNatClampNeg (some y0))) ++ (P))), rfl, q_184, by rw [ht]; exact hP, va_K.moved hW.alike hK, hD⟩, hS.F ht⟩) hS.2.2 d_TR_readQuestion_184
set_option maxHeartbeats 1000000 in
set_option maxRecDepth 100000 in
theorem e_TR_readQuestion (T : ST) (hlt : T.1.stackTraces = false) (Post : va_W → Prop) (PX : String → va_W → Prop) (f_t : FT) (g_t : GT) (r_r : Nat → Nat → Option Nat) (P : va_W) (h : ∀ C : CT, C.1 = T → cX C "QuestionText$TextReader" b_TR_readQuestion 8 none → zc_TR_readQuestion C Post PX 0 0 0 [(0, .ref (ad C.1 20))] [] (s_t C.1.2.2.2.1 C.1.2.2.2.2 f_t g_t ++ (s_r C.1.2.2.2.1 C.1.2.2.2.2 r_r ++ (P)))) : xV T y_TR_readQuestion (Cond.code y_TR_readQuestion b_TR_readQuestion 8 none) 6 130 760 [.ref (ad T 20)] (s_t T.2.2.2.1 T.2.2.2.2 f_t g_t ++ (s_r T.2.2.2.1 T.2.2.2.2 r_r ++ (P))) Post PX := by
  obtain ⟨l, dC, dI, k, a⟩ := T
  intro sz
  refine vx_ofW (cc := b_TR_readQuestion) (maxL := 8) (ret := none) (by decide) rfl ?_
  intro p e s m args below meth c s₁ B hml hno hv
  obtain ⟨rfl, hsz, hE, hP, hK, hD0⟩ := hv
  have hts := atoms_spec (ws := (Cond.code y_TR_readQuestion b_TR_readQuestion 8 none) :: z_T) B.pre
  have htz : ∀ w ∈ z_T, w.before _ s = true := fun w h => hts w (z_cons w h)
  subst hsz
  have hD := hD0.self (sz := s.heap.size)
  generalize hAe : va_A (s_t k a f_t g_t ++ (s_r k a r_r ++ (P))) s.heap.size = A at hD hE ⊢
  have hA : ∀ q : Nat, s.heap.size ≤ q → A q := fun q h => by rw [← hAe]; exact Or.inr h
  have hl := lv_entry ([.ref (a 20)]) (n := 8) (Nat.le_of_ble_eq_true rfl)
  rw [lg_entry_eq]
  generalize (lg_sl ([.ref (a 20)]) ++ List.replicate (8 - (lg_sl ([.ref (a 20)])).length) Slot.unset).toArray = ls at hl ⊢
  exact h ((l, dC, dI, k, a), p, e, s, m, ([.ref (a 20)] : List Value).toArray, below, meth, c, A) rfl ⟨⟨B.exec, B.bytes, B.returns, htz, findClass_of_methodNamed B.named, B.notSynchronized, hml, hE, hK, hA⟩, hno, hlt⟩ s.heap [] ls hl hP hD va_S.rf
