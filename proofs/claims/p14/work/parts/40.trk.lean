def zc_TR_readKind (C : CT) (Post : va_W → Prop) (PX : String → va_W → Prop) (c0 s0 pc : Nat) (loc : List (Nat × Value)) (st : List Value) (ws : va_W) : Prop := zW C (z_rm 6 303 1818) 6 (yV C 303 1818 Post PX) c0 s0 pc loc st ws
set_option maxHeartbeats 1000000 in
set_option maxRecDepth 100000 in
theorem k_TR_readKind_0 {C : CT} (X : cX C "QuestionText$TextReader" b_TR_readKind 6 none) (Post : va_W → Prop) (PX : String → va_W → Prop) {P_4 : Int32 → va_W → Prop} {X_4 : String → va_W → Prop} (f_t : FT) (g_t : GT) (r_r : Nat → Nat → Option Nat) (P : va_W) (c0 s0 : Nat)
    (b_4 : c0 + 3 ≤ 303 ∧ s0 + 18 ≤ 1818)
    (m_4 : xI C.1 y_TR_readNumber (Cond.code y_TR_readNumber b_TR_readNumber 6 (some .int)) 1 3 18 [.ref (ad C.1 20), .int 1, .int 9] (s_t C.1.2.2.2.1 C.1.2.2.2.2 f_t g_t) P_4 X_4)
    (k_4 : ∀ (r : Int32) (u : va_W), P_4 r u → zc_TR_readKind C Post PX (c0 + 3) (s0 + 18) 7 [(0, .ref (ad C.1 20))] [.int r] (u ++ (s_r C.1.2.2.2.1 C.1.2.2.2.2 r_r ++ (P))))
    (x_4 : ∀ (E : String) (u : va_W), X_4 E u → PX E (u ++ (s_r C.1.2.2.2.1 C.1.2.2.2.2 r_r ++ (P)))) : zc_TR_readKind C Post PX c0 s0 0 [(0, .ref (ad C.1 20))] [] (s_t C.1.2.2.2.1 C.1.2.2.2.2 f_t g_t ++ (s_r C.1.2.2.2.1 C.1.2.2.2.2 r_r ++ (P))) := by
  obtain ⟨⟨l, dC, dI, k, a⟩, p, e, s, m, args, below, meth, c, A⟩ := C
  obtain ⟨⟨hx, hb, hr, htz, hown, hlocks, hml, hE, hK, hA⟩, hno, hlt⟩ := X
  intro H locs ls hl hP hD hS
  have hl : lv_has ls 6 [(0, .ref (a 20))] := hl
  have hP : va_P (dC, dI) classes (s_t k a f_t g_t ++ (s_r k a r_r ++ (P))) H := hP
  have hD : va_D A (s_t k a f_t g_t ++ (s_r k a r_r ++ (P))) := hD
  show W p l e (z_rm 6 303 1818) s m args below meth c H locs c0 s0 _ (F0 m 0 ls [])
  refine lv_aload_n hx hb d_TR_readKind_0 rfl (lv_at hl 0 rfl) ?_
  refine lv_iconst (v := 1) hx hb d_TR_readKind_1 (by decide) ?_
  refine lv_bipush (v := 9) hx hb d_TR_readKind_2 (by decide) ?_
  have hPf : va_P (dC, dI) classes (([]) ++ ((s_t k a f_t g_t) ++ (s_r k a r_r ++ (P)))) H := hP
  have hDf : va_D A (([]) ++ ((s_t k a f_t g_t) ++ (s_r k a r_r ++ (P)))) := hD
  have hFc := zfree hDf hS hA
  refine vx_calli (vx_runV (As := [.int 1, .int 9]) (rest := []) ⟨hx, hb, hml, hown, htz⟩ (m_4 H.size) (cwV 2 htz (z_gV (fun _ h => h) km_TR_57 in_TR_readNumber se_TR_readNumber ini_TR m_TR_readNumber) rfl rfl rfl (by decide +kernel) ⟨(Nat.le_of_ble_eq_true rfl), (Nat.le_of_ble_eq_true rfl)⟩) ⟨z_blind, va_recv hK hP (ci := 1) (q0 := 0) rfl rfl, fun U hU hW => ⟨rfl, by rw [hU], hE.call hS hFc hU hW, by rw [hU]; exact (zPc hPf), va_K.moved hW.alike hK, (zDc hDf)⟩⟩ rfl rfl hl.1 rfl (lv_room (Nat.le_of_ble_eq_true rfl)) d_TR_readKind_4 b_4) hS (fun q _ h => hFc q h) hFc (fun q _ h => hFc q h) (fun E ce q9 u t H1 locs ht hvm hw hB hz1 hk1 hS hce hcv hcl => ?_) (fun r u t H1 locs ht hvm hw hB hz1 hk1 hS => ?_)
  · obtain ⟨hxe, hP1, hK1, hD1⟩ := hB
    rw [ht] at hP1
    obtain ⟨hP, hD⟩ := zf hPf hDf hk1 hFc hP1 hD1
    exact vx_out (fun x hx9 => (hno x hx9).elim) hlocks hce hcv hcl (fun t9 h9 h8 => ⟨_, trivial, ⟨x_4 E u hxe, by rw [h9]; exact hP, va_K.moved h8 hK, hD⟩, hS.F h9⟩) hS.2.2 b_4.1 b_4.2
  · obtain ⟨hP1, hK1, hD1⟩ := hB
    rw [ht] at hP1
    obtain ⟨hP, hD⟩ := zf hPf hDf hk1 hFc hP1 hD1
    exact k_4 r _ hw H1 locs ls (lv_sub hl [0] rfl) hP hD hS
set_option maxHeartbeats 1000000 in
set_option maxRecDepth 100000 in
theorem k_TR_readKind_7 {C : CT} (X : cX C "QuestionText$TextReader" b_TR_readKind 6 none) (Post : va_W → Prop) (PX : String → va_W → Prop) {P_24 : va_W → Prop} {X_24 : String → va_W → Prop} (y0 : Int32) (f_t : FT) (g_t : GT) (r_r : Nat → Nat → Option Nat) (P : va_W) (c0 s0 : Nat)
    (h_13 : vp_in (y0) 10)
    (k_27 : ((r_r 1) (y0 : Int32).toNatClampNeg = none) → zc_TR_readKind C Post PX c0 s0 27 [(0, .ref (ad C.1 20)), (1, .int y0)] [] (s_t C.1.2.2.2.1 C.1.2.2.2.2 f_t g_t ++ (s_r C.1.2.2.2.1 C.1.2.2.2.2 r_r ++ (P))))
    (b_24 : (¬ (r_r 1) (y0 : Int32).toNatClampNeg = none) → c0 + 1 ≤ 303 ∧ s0 + 6 ≤ 1818)
    (m_24 : (¬ (r_r 1) (y0 : Int32).toNatClampNeg = none) → xV C.1 y_TR_fail (Cond.code y_TR_fail b_TR_fail 2 none) 0 1 6 [.ref (ad C.1 20), .int ((f_t 1) - 1)] (s_t C.1.2.2.2.1 C.1.2.2.2.2 f_t g_t) P_24 X_24)
    (k_24 : (¬ (r_r 1) (y0 : Int32).toNatClampNeg = none) → ∀ (u : va_W), P_24 u → zc_TR_readKind C Post PX (c0 + 1) (s0 + 6) 27 [(0, .ref (ad C.1 20)), (1, .int y0)] [] (u ++ (s_r C.1.2.2.2.1 C.1.2.2.2.2 r_r ++ (P))))
    (x_24 : (¬ (r_r 1) (y0 : Int32).toNatClampNeg = none) → ∀ (E : String) (u : va_W), X_24 E u → PX E (u ++ (s_r C.1.2.2.2.1 C.1.2.2.2.2 r_r ++ (P)))) : zc_TR_readKind C Post PX c0 s0 7 [(0, .ref (ad C.1 20))] [.int y0] (s_t C.1.2.2.2.1 C.1.2.2.2.2 f_t g_t ++ (s_r C.1.2.2.2.1 C.1.2.2.2.2 r_r ++ (P))) := by
  obtain ⟨⟨l, dC, dI, k, a⟩, p, e, s, m, args, below, meth, c, A⟩ := C
  obtain ⟨⟨hx, hb, hr, htz, hown, hlocks, hml, hE, hK, hA⟩, hno, hlt⟩ := X
  intro H locs ls hl hP hD hS
  have hl : lv_has ls 6 [(0, .ref (a 20))] := hl
  have hP : va_P (dC, dI) classes (s_t k a f_t g_t ++ (s_r k a r_r ++ (P))) H := hP
  have hD : va_D A (s_t k a f_t g_t ++ (s_r k a r_r ++ (P))) := hD
  show W p l e (z_rm 6 303 1818) s m args below meth c H locs c0 s0 _ (F0 m 7 ls [.int y0])
  refine lv_istore_n (lv' := [(1, .int y0), (0, .ref (a 20))]) hx hb d_TR_readKind_7 rfl hl (by decide) rfl (fun ls hl => ?_)
  refine lv_aload_n hx hb d_TR_readKind_8 rfl (lv_at hl 1 rfl) ?_
  refine va_get (D := (dC, dI)) (ci := 1) (v := .ref (a 23)) (C := R_TR) (T := F_TR) (N := 5) hx hb htz i_TR hown hK hP 0 rfl rfl 2 (by decide) (htz _ kf_TR_23) (fun _ h9 => h9) rfl d_TR_readKind_9 ?_
  refine lv_iload_n hx hb d_TR_readKind_12 rfl (lv_at hl 0 rfl) ?_
  refine va_aldq hx hb hK hP 3 4 rfl rfl h_13 d_TR_readKind_13 ?_
  refine qv_nl (tgt := 27) hx hb d_TR_readKind_14 (by decide) (fun c_14 => ?_) (fun c_14 => ?_)
  · exact (k_27 c_14) H locs ls (lv_sub hl [1, 0] rfl) hP hD hS
  · refine lv_aload_n hx hb d_TR_readKind_17 rfl (lv_at hl 1 rfl) ?_
    refine lv_aload_n hx hb d_TR_readKind_18 rfl (lv_at hl 1 rfl) ?_
    refine va_get (D := (dC, dI)) (ci := 1) (v := .int (f_t 1)) (C := R_TR) (T := F_TR) (N := 5) hx hb htz i_TR hown hK hP 0 rfl rfl 4 (by decide) (htz _ kf_TR_31) (fun _ h9 => h9) rfl d_TR_readKind_19 ?_
    refine lv_iconst (v := 1) hx hb d_TR_readKind_22 (by decide) ?_
    refine lv_isub hx hb d_TR_readKind_23 ?_
    have hPf : va_P (dC, dI) classes (([]) ++ ((s_t k a f_t g_t) ++ (s_r k a r_r ++ (P)))) H := hP
    have hDf : va_D A (([]) ++ ((s_t k a f_t g_t) ++ (s_r k a r_r ++ (P)))) := hD
    have hFc := zfree hDf hS hA
    refine vx_callv (vx_runV (As := [.int ((f_t 1) - 1)]) (rest := []) ⟨hx, hb, hml, hown, htz⟩ ((m_24 c_14) H.size) (cwV 1 htz (z_gV (fun _ h => h) km_TR_61 in_TR_fail se_TR_fail ini_TR m_TR_fail) rfl rfl rfl (by decide +kernel) ⟨(Nat.le_of_ble_eq_true rfl), (Nat.le_of_ble_eq_true rfl)⟩) ⟨z_blind, va_recv hK hP (ci := 1) (q0 := 0) rfl rfl, fun U hU hW => ⟨rfl, by rw [hU], hE.call hS hFc hU hW, by rw [hU]; exact (zPc hPf), va_K.moved hW.alike hK, (zDc hDf)⟩⟩ rfl rfl hl.1 rfl (lv_room (Nat.le_of_ble_eq_true rfl)) d_TR_readKind_24 (b_24 c_14)) hS (fun q _ h => hFc q h) hFc (fun q _ h => hFc q h) (fun E ce q9 u t H1 locs ht hvm hw hB hz1 hk1 hS hce hcv hcl => ?_) (fun u t H1 locs ht hvm hw hB hz1 hk1 hS => ?_)
    · obtain ⟨hxe, hP1, hK1, hD1⟩ := hB
      rw [ht] at hP1
      obtain ⟨hP, hD⟩ := zf hPf hDf hk1 hFc hP1 hD1
      exact vx_out (fun x hx9 => (hno x hx9).elim) hlocks hce hcv hcl (fun t9 h9 h8 => ⟨_, trivial, ⟨(x_24 c_14) E u hxe, by rw [h9]; exact hP, va_K.moved h8 hK, hD⟩, hS.F h9⟩) hS.2.2 (b_24 c_14).1 (b_24 c_14).2
    · obtain ⟨hP1, hK1, hD1⟩ := hB
      rw [ht] at hP1
      obtain ⟨hP, hD⟩ := zf hPf hDf hk1 hFc hP1 hD1
      exact (k_24 c_14) _ hw H1 locs ls (lv_sub hl [1, 0] rfl) hP hD hS
set_option maxHeartbeats 1000000 in
set_option maxRecDepth 100000 in
theorem k_TR_readKind_27 {C : CT} (X : cX C "QuestionText$TextReader" b_TR_readKind 6 none) (Post : va_W → Prop) (PX : String → va_W → Prop) {P_30 : va_W → Prop} {X_30 : String → va_W → Prop} (x1 : Int32) (f_t : FT) (g_t : GT) (r_r : Nat → Nat → Option Nat) (P : va_W) (c0 s0 : Nat)
    (b_30 : c0 + 1 ≤ 303 ∧ s0 + 6 ≤ 1818)
    (m_30 : xV C.1 y_TR_take (Cond.code y_TR_take b_TR_take 2 none) 1 1 6 [.ref (ad C.1 20), .int 61] (s_t C.1.2.2.2.1 C.1.2.2.2.2 f_t g_t) P_30 X_30)
    (k_30 : ∀ (u : va_W), P_30 u → zc_TR_readKind C Post PX (c0 + 1) (s0 + 6) 33 [(0, .ref (ad C.1 20)), (1, .int x1)] [] (u ++ (s_r C.1.2.2.2.1 C.1.2.2.2.2 r_r ++ (P))))
    (x_30 : ∀ (E : String) (u : va_W), X_30 E u → PX E (u ++ (s_r C.1.2.2.2.1 C.1.2.2.2.2 r_r ++ (P)))) : zc_TR_readKind C Post PX c0 s0 27 [(0, .ref (ad C.1 20)), (1, .int x1)] [] (s_t C.1.2.2.2.1 C.1.2.2.2.2 f_t g_t ++ (s_r C.1.2.2.2.1 C.1.2.2.2.2 r_r ++ (P))) := by
  obtain ⟨⟨l, dC, dI, k, a⟩, p, e, s, m, args, below, meth, c, A⟩ := C
  obtain ⟨⟨hx, hb, hr, htz, hown, hlocks, hml, hE, hK, hA⟩, hno, hlt⟩ := X
  intro H locs ls hl hP hD hS
  have hl : lv_has ls 6 [(0, .ref (a 20)), (1, .int x1)] := hl
  have hP : va_P (dC, dI) classes (s_t k a f_t g_t ++ (s_r k a r_r ++ (P))) H := hP
  have hD : va_D A (s_t k a f_t g_t ++ (s_r k a r_r ++ (P))) := hD
  show W p l e (z_rm 6 303 1818) s m args below meth c H locs c0 s0 _ (F0 m 27 ls [])
  refine lv_aload_n hx hb d_TR_readKind_27 rfl (lv_at hl 0 rfl) ?_
  refine lv_bipush (v := 61) hx hb d_TR_readKind_28 (by decide) ?_
  have hPf : va_P (dC, dI) classes (([]) ++ ((s_t k a f_t g_t) ++ (s_r k a r_r ++ (P)))) H := hP
  have hDf : va_D A (([]) ++ ((s_t k a f_t g_t) ++ (s_r k a r_r ++ (P)))) := hD
  have hFc := zfree hDf hS hA
  refine vx_callv (vx_runV (As := [.int 61]) (rest := []) ⟨hx, hb, hml, hown, htz⟩ (m_30 H.size) (cwV 1 htz (z_gV (fun _ h => h) km_TR_48 in_TR_take se_TR_take ini_TR m_TR_take) rfl rfl rfl (by decide +kernel) ⟨(Nat.le_of_ble_eq_true rfl), (Nat.le_of_ble_eq_true rfl)⟩) ⟨z_blind, va_recv hK hP (ci := 1) (q0 := 0) rfl rfl, fun U hU hW => ⟨rfl, by rw [hU], hE.call hS hFc hU hW, by rw [hU]; exact (zPc hPf), va_K.moved hW.alike hK, (zDc hDf)⟩⟩ rfl rfl hl.1 rfl (lv_room (Nat.le_of_ble_eq_true rfl)) d_TR_readKind_30 b_30) hS (fun q _ h => hFc q h) hFc (fun q _ h => hFc q h) (fun E ce q9 u t H1 locs ht hvm hw hB hz1 hk1 hS hce hcv hcl => ?_) (fun u t H1 locs ht hvm hw hB hz1 hk1 hS => ?_)
  · obtain ⟨hxe, hP1, hK1, hD1⟩ := hB
    rw [ht] at hP1
    obtain ⟨hP, hD⟩ := zf hPf hDf hk1 hFc hP1 hD1
    exact vx_out (fun x hx9 => (hno x hx9).elim) hlocks hce hcv hcl (fun t9 h9 h8 => ⟨_, trivial, ⟨x_30 E u hxe, by rw [h9]; exact hP, va_K.moved h8 hK, hD⟩, hS.F h9⟩) hS.2.2 b_30.1 b_30.2
  · obtain ⟨hP1, hK1, hD1⟩ := hB
    rw [ht] at hP1
    obtain ⟨hP, hD⟩ := zf hPf hDf hk1 hFc hP1 hD1
    exact k_30 _ hw H1 locs ls (lv_sub hl [0, 1] rfl) hP hD hS
set_option maxHeartbeats 1000000 in
set_option maxRecDepth 100000 in
theorem k_TR_readKind_33 {C : CT} (X : cX C "QuestionText$TextReader" b_TR_readKind 6 none) (Post : va_W → Prop) (PX : String → va_W → Prop) {P_37 : Int32 → va_W → Prop} {X_37 : String → va_W → Prop} (x1 : Int32) (f_t : FT) (g_t : GT) (r_r : Nat → Nat → Option Nat) (P : va_W) (c0 s0 : Nat)
    (b_37 : c0 + 3 ≤ 303 ∧ s0 + 18 ≤ 1818)
    (m_37 : xI C.1 y_TR_readNumber (Cond.code y_TR_readNumber b_TR_readNumber 6 (some .int)) 1 3 18 [.ref (ad C.1 20), .int 1, .int 60] (s_t C.1.2.2.2.1 C.1.2.2.2.2 f_t g_t) P_37 X_37)
    (k_37 : ∀ (r : Int32) (u : va_W), P_37 r u → zc_TR_readKind C Post PX (c0 + 3) (s0 + 18) 40 [(0, .ref (ad C.1 20)), (1, .int x1)] [.int r] (u ++ (s_r C.1.2.2.2.1 C.1.2.2.2.2 r_r ++ (P))))
    (x_37 : ∀ (E : String) (u : va_W), X_37 E u → PX E (u ++ (s_r C.1.2.2.2.1 C.1.2.2.2.2 r_r ++ (P)))) : zc_TR_readKind C Post PX c0 s0 33 [(0, .ref (ad C.1 20)), (1, .int x1)] [] (s_t C.1.2.2.2.1 C.1.2.2.2.2 f_t g_t ++ (s_r C.1.2.2.2.1 C.1.2.2.2.2 r_r ++ (P))) := by
  obtain ⟨⟨l, dC, dI, k, a⟩, p, e, s, m, args, below, meth, c, A⟩ := C
  obtain ⟨⟨hx, hb, hr, htz, hown, hlocks, hml, hE, hK, hA⟩, hno, hlt⟩ := X
  intro H locs ls hl hP hD hS
  have hl : lv_has ls 6 [(0, .ref (a 20)), (1, .int x1)] := hl
  have hP : va_P (dC, dI) classes (s_t k a f_t g_t ++ (s_r k a r_r ++ (P))) H := hP
  have hD : va_D A (s_t k a f_t g_t ++ (s_r k a r_r ++ (P))) := hD
  show W p l e (z_rm 6 303 1818) s m args below meth c H locs c0 s0 _ (F0 m 33 ls [])
  refine lv_aload_n hx hb d_TR_readKind_33 rfl (lv_at hl 0 rfl) ?_
  refine lv_iconst (v := 1) hx hb d_TR_readKind_34 (by decide) ?_
  refine lv_bipush (v := 60) hx hb d_TR_readKind_35 (by decide) ?_
  have hPf : va_P (dC, dI) classes (([]) ++ ((s_t k a f_t g_t) ++ (s_r k a r_r ++ (P)))) H := hP
  have hDf : va_D A (([]) ++ ((s_t k a f_t g_t) ++ (s_r k a r_r ++ (P)))) := hD
  have hFc := zfree hDf hS hA
  refine vx_calli (vx_runV (As := [.int 1, .int 60]) (rest := []) ⟨hx, hb, hml, hown, htz⟩ (m_37 H.size) (cwV 2 htz (z_gV (fun _ h => h) km_TR_57 in_TR_readNumber se_TR_readNumber ini_TR m_TR_readNumber) rfl rfl rfl (by decide +kernel) ⟨(Nat.le_of_ble_eq_true rfl), (Nat.le_of_ble_eq_true rfl)⟩) ⟨z_blind, va_recv hK hP (ci := 1) (q0 := 0) rfl rfl, fun U hU hW => ⟨rfl, by rw [hU], hE.call hS hFc hU hW, by rw [hU]; exact (zPc hPf), va_K.moved hW.alike hK, (zDc hDf)⟩⟩ rfl rfl hl.1 rfl (lv_room (Nat.le_of_ble_eq_true rfl)) d_TR_readKind_37 b_37) hS (fun q _ h => hFc q h) hFc (fun q _ h => hFc q h) (fun E ce q9 u t H1 locs ht hvm hw hB hz1 hk1 hS hce hcv hcl => ?_) (fun r u t H1 locs ht hvm hw hB hz1 hk1 hS => ?_)
  · obtain ⟨hxe, hP1, hK1, hD1⟩ := hB
    rw [ht] at hP1
    obtain ⟨hP, hD⟩ := zf hPf hDf hk1 hFc hP1 hD1
    exact vx_out (fun x hx9 => (hno x hx9).elim) hlocks hce hcv hcl (fun t9 h9 h8 => ⟨_, trivial, ⟨x_37 E u hxe, by rw [h9]; exact hP, va_K.moved h8 hK, hD⟩, hS.F h9⟩) hS.2.2 b_37.1 b_37.2
  · obtain ⟨hP1, hK1, hD1⟩ := hB
    rw [ht] at hP1
    obtain ⟨hP, hD⟩ := zf hPf hDf hk1 hFc hP1 hD1
    exact k_37 r _ hw H1 locs ls (lv_sub hl [0, 1] rfl) hP hD hS
set_option maxHeartbeats 1000000 in
set_option maxRecDepth 100000 in
theorem k_TR_readKind_40 {C : CT} (X : cX C "QuestionText$TextReader" b_TR_readKind 6 none) (Post : va_W → Prop) (PX : String → va_W → Prop) {P_44 : va_W → Prop} {X_44 : String → va_W → Prop} (x1 : Int32) (y0 : Int32) (f_t : FT) (g_t : GT) (r_r : Nat → Nat → Option Nat) (P : va_W) (c0 s0 : Nat)
    (b_44 : c0 + 1 ≤ 303 ∧ s0 + 6 ≤ 1818)
    (m_44 : xV C.1 y_TR_take (Cond.code y_TR_take b_TR_take 2 none) 1 1 6 [.ref (ad C.1 20), .int 58] (s_t C.1.2.2.2.1 C.1.2.2.2.2 f_t g_t) P_44 X_44)
    (k_44 : ∀ (u : va_W), P_44 u → zc_TR_readKind C Post PX (c0 + 1) (s0 + 6) 47 [(0, .ref (ad C.1 20)), (1, .int x1), (2, .int y0)] [] (u ++ (s_r C.1.2.2.2.1 C.1.2.2.2.2 r_r ++ (P))))
    (x_44 : ∀ (E : String) (u : va_W), X_44 E u → PX E (u ++ (s_r C.1.2.2.2.1 C.1.2.2.2.2 r_r ++ (P)))) : zc_TR_readKind C Post PX c0 s0 40 [(0, .ref (ad C.1 20)), (1, .int x1)] [.int y0] (s_t C.1.2.2.2.1 C.1.2.2.2.2 f_t g_t ++ (s_r C.1.2.2.2.1 C.1.2.2.2.2 r_r ++ (P))) := by
  obtain ⟨⟨l, dC, dI, k, a⟩, p, e, s, m, args, below, meth, c, A⟩ := C
  obtain ⟨⟨hx, hb, hr, htz, hown, hlocks, hml, hE, hK, hA⟩, hno, hlt⟩ := X
  intro H locs ls hl hP hD hS
  have hl : lv_has ls 6 [(0, .ref (a 20)), (1, .int x1)] := hl
  have hP : va_P (dC, dI) classes (s_t k a f_t g_t ++ (s_r k a r_r ++ (P))) H := hP
  have hD : va_D A (s_t k a f_t g_t ++ (s_r k a r_r ++ (P))) := hD
  show W p l e (z_rm 6 303 1818) s m args below meth c H locs c0 s0 _ (F0 m 40 ls [.int y0])
  refine lv_istore_n (lv' := [(2, .int y0), (0, .ref (a 20)), (1, .int x1)]) hx hb d_TR_readKind_40 rfl hl (by decide) rfl (fun ls hl => ?_)
  refine lv_aload_n hx hb d_TR_readKind_41 rfl (lv_at hl 1 rfl) ?_
  refine lv_bipush (v := 58) hx hb d_TR_readKind_42 (by decide) ?_
  have hPf : va_P (dC, dI) classes (([]) ++ ((s_t k a f_t g_t) ++ (s_r k a r_r ++ (P)))) H := hP
  have hDf : va_D A (([]) ++ ((s_t k a f_t g_t) ++ (s_r k a r_r ++ (P)))) := hD
  have hFc := zfree hDf hS hA
  refine vx_callv (vx_runV (As := [.int 58]) (rest := []) ⟨hx, hb, hml, hown, htz⟩ (m_44 H.size) (cwV 1 htz (z_gV (fun _ h => h) km_TR_48 in_TR_take se_TR_take ini_TR m_TR_take) rfl rfl rfl (by decide +kernel) ⟨(Nat.le_of_ble_eq_true rfl), (Nat.le_of_ble_eq_true rfl)⟩) ⟨z_blind, va_recv hK hP (ci := 1) (q0 := 0) rfl rfl, fun U hU hW => ⟨rfl, by rw [hU], hE.call hS hFc hU hW, by rw [hU]; exact (zPc hPf), va_K.moved hW.alike hK, (zDc hDf)⟩⟩ rfl rfl hl.1 rfl (lv_room (Nat.le_of_ble_eq_true rfl)) d_TR_readKind_44 b_44) hS (fun q _ h => hFc q h) hFc (fun q _ h => hFc q h) (fun E ce q9 u t H1 locs ht hvm hw hB hz1 hk1 hS hce hcv hcl => ?_) (fun u t H1 locs ht hvm hw hB hz1 hk1 hS => ?_)
  · obtain ⟨hxe, hP1, hK1, hD1⟩ := hB
    rw [ht] at hP1
    obtain ⟨hP, hD⟩ := zf hPf hDf hk1 hFc hP1 hD1
    exact vx_out (fun x hx9 => (hno x hx9).elim) hlocks hce hcv hcl (fun t9 h9 h8 => ⟨_, trivial, ⟨x_44 E u hxe, by rw [h9]; exact hP, va_K.moved h8 hK, hD⟩, hS.F h9⟩) hS.2.2 b_44.1 b_44.2
  · obtain ⟨hP1, hK1, hD1⟩ := hB
    rw [ht] at hP1
    obtain ⟨hP, hD⟩ := zf hPf hDf hk1 hFc hP1 hD1
    exact k_44 _ hw H1 locs ls (lv_sub hl [1, 2, 0] rfl) hP hD hS
set_option maxHeartbeats 1000000 in
set_option maxRecDepth 100000 in
theorem k_TR_readKind_47 {C : CT} (X : cX C "QuestionText$TextReader" b_TR_readKind 6 none) (Post : va_W → Prop) (PX : String → va_W → Prop) {P_51 : Int32 → va_W → Prop} {X_51 : String → va_W → Prop} (x1 : Int32) (x2 : Int32) (f_t : FT) (g_t : GT) (r_r : Nat → Nat → Option Nat) (P : va_W) (c0 s0 : Nat)
    (b_51 : c0 + 3 ≤ 303 ∧ s0 + 18 ≤ 1818)
    (m_51 : xI C.1 y_TR_readNumber (Cond.code y_TR_readNumber b_TR_readNumber 6 (some .int)) 1 3 18 [.ref (ad C.1 20), .int 0, .int 9] (s_t C.1.2.2.2.1 C.1.2.2.2.2 f_t g_t) P_51 X_51)
    (k_51 : ∀ (r : Int32) (u : va_W), P_51 r u → zc_TR_readKind C Post PX (c0 + 3) (s0 + 18) 54 [(0, .ref (ad C.1 20)), (1, .int x1), (2, .int x2)] [.int r] (u ++ (s_r C.1.2.2.2.1 C.1.2.2.2.2 r_r ++ (P))))
    (x_51 : ∀ (E : String) (u : va_W), X_51 E u → PX E (u ++ (s_r C.1.2.2.2.1 C.1.2.2.2.2 r_r ++ (P)))) : zc_TR_readKind C Post PX c0 s0 47 [(0, .ref (ad C.1 20)), (1, .int x1), (2, .int x2)] [] (s_t C.1.2.2.2.1 C.1.2.2.2.2 f_t g_t ++ (s_r C.1.2.2.2.1 C.1.2.2.2.2 r_r ++ (P))) := by
  obtain ⟨⟨l, dC, dI, k, a⟩, p, e, s, m, args, below, meth, c, A⟩ := C
  obtain ⟨⟨hx, hb, hr, htz, hown, hlocks, hml, hE, hK, hA⟩, hno, hlt⟩ := X
  intro H locs ls hl hP hD hS
  have hl : lv_has ls 6 [(0, .ref (a 20)), (1, .int x1), (2, .int x2)] := hl
  have hP : va_P (dC, dI) classes (s_t k a f_t g_t ++ (s_r k a r_r ++ (P))) H := hP
  have hD : va_D A (s_t k a f_t g_t ++ (s_r k a r_r ++ (P))) := hD
  show W p l e (z_rm 6 303 1818) s m args below meth c H locs c0 s0 _ (F0 m 47 ls [])
  refine lv_aload_n hx hb d_TR_readKind_47 rfl (lv_at hl 0 rfl) ?_
  refine lv_iconst (v := 0) hx hb d_TR_readKind_48 (by decide) ?_
  refine lv_bipush (v := 9) hx hb d_TR_readKind_49 (by decide) ?_
  have hPf : va_P (dC, dI) classes (([]) ++ ((s_t k a f_t g_t) ++ (s_r k a r_r ++ (P)))) H := hP
  have hDf : va_D A (([]) ++ ((s_t k a f_t g_t) ++ (s_r k a r_r ++ (P)))) := hD
  have hFc := zfree hDf hS hA
  refine vx_calli (vx_runV (As := [.int 0, .int 9]) (rest := []) ⟨hx, hb, hml, hown, htz⟩ (m_51 H.size) (cwV 2 htz (z_gV (fun _ h => h) km_TR_57 in_TR_readNumber se_TR_readNumber ini_TR m_TR_readNumber) rfl rfl rfl (by decide +kernel) ⟨(Nat.le_of_ble_eq_true rfl), (Nat.le_of_ble_eq_true rfl)⟩) ⟨z_blind, va_recv hK hP (ci := 1) (q0 := 0) rfl rfl, fun U hU hW => ⟨rfl, by rw [hU], hE.call hS hFc hU hW, by rw [hU]; exact (zPc hPf), va_K.moved hW.alike hK, (zDc hDf)⟩⟩ rfl rfl hl.1 rfl (lv_room (Nat.le_of_ble_eq_true rfl)) d_TR_readKind_51 b_51) hS (fun q _ h => hFc q h) hFc (fun q _ h => hFc q h) (fun E ce q9 u t H1 locs ht hvm hw hB hz1 hk1 hS hce hcv hcl => ?_) (fun r u t H1 locs ht hvm hw hB hz1 hk1 hS => ?_)
  · obtain ⟨hxe, hP1, hK1, hD1⟩ := hB
    rw [ht] at hP1
    obtain ⟨hP, hD⟩ := zf hPf hDf hk1 hFc hP1 hD1
    exact vx_out (fun x hx9 => (hno x hx9).elim) hlocks hce hcv hcl (fun t9 h9 h8 => ⟨_, trivial, ⟨x_51 E u hxe, by rw [h9]; exact hP, va_K.moved h8 hK, hD⟩, hS.F h9⟩) hS.2.2 b_51.1 b_51.2
  · obtain ⟨hP1, hK1, hD1⟩ := hB
    rw [ht] at hP1
    obtain ⟨hP, hD⟩ := zf hPf hDf hk1 hFc hP1 hD1
    exact k_51 r _ hw H1 locs ls (lv_sub hl [0, 1, 2] rfl) hP hD hS
set_option maxHeartbeats 1000000 in
set_option maxRecDepth 100000 in
theorem k_TR_readKind_54 {C : CT} (X : cX C "QuestionText$TextReader" b_TR_readKind 6 none) (Post : va_W → Prop) (PX : String → va_W → Prop) {P_59 : Nat → va_W → Prop} (x1 : Int32) (x2 : Int32) (y0 : Int32) (f_t : FT) (g_t : GT) (r_r : Nat → Nat → Option Nat) (P : va_W) (c0 s0 : Nat)
    (b_55 : c0 + 1 ≤ 303 ∧ s0 + 3 ≤ 1818)
    (b_59 : ∀ w55 : Nat, c0 + 1 ≤ 303 ∧ s0 + 3 ≤ 1818)
    (m_59 : ∀ w55 : Nat, uV C.1 y_AL_init (Cond.code y_AL_init b_AL_init 1 none) 2 0 0 [.ref w55] ([(w55, .inr (11, [.int 0, .null, .int 0]))]) (P_59 w55))
    (k_59 : ∀ w55 : Nat, ∀ (u : va_W), (P_59 w55) u → zc_TR_readKind C Post PX (c0 + 1) (s0 + 3) 62 [(0, .ref (ad C.1 20)), (1, .int x1), (2, .int x2), (3, .int y0)] [.ref w55] (u ++ (s_t C.1.2.2.2.1 C.1.2.2.2.2 f_t g_t ++ (s_r C.1.2.2.2.1 C.1.2.2.2.2 r_r ++ (P))))) : zc_TR_readKind C Post PX c0 s0 54 [(0, .ref (ad C.1 20)), (1, .int x1), (2, .int x2)] [.int y0] (s_t C.1.2.2.2.1 C.1.2.2.2.2 f_t g_t ++ (s_r C.1.2.2.2.1 C.1.2.2.2.2 r_r ++ (P))) := by
  obtain ⟨⟨l, dC, dI, k, a⟩, p, e, s, m, args, below, meth, c, A⟩ := C
  obtain ⟨⟨hx, hb, hr, htz, hown, hlocks, hml, hE, hK, hA⟩, hno, hlt⟩ := X
  intro H locs ls hl hP hD hS
  have hl : lv_has ls 6 [(0, .ref (a 20)), (1, .int x1), (2, .int x2)] := hl
  have hP : va_P (dC, dI) classes (s_t k a f_t g_t ++ (s_r k a r_r ++ (P))) H := hP
  have hD : va_D A (s_t k a f_t g_t ++ (s_r k a r_r ++ (P))) := hD
  show W p l e (z_rm 6 303 1818) s m args below meth c H locs c0 s0 _ (F0 m 54 ls [.int y0])
  refine lv_istore_n (lv' := [(3, .int y0), (0, .ref (a 20)), (1, .int x1), (2, .int x2)]) hx hb d_TR_readKind_54 rfl hl (by decide) rfl (fun ls hl => ?_)
  refine va_new (ci := 11) (fs := [.int 0, .null, .int 0]) (C := R_AL) (T := F_AL) (N := 3) hx hb htz i_AL t_AL o_AL hown (htz _ kc_TR_72) (htz _ mk_AL) (htz _ ini_AL) hK hP hD hS hA rfl (by intro j hj; match j, hj with | 0, _ => rfl | 1, _ => rfl | 2, _ => rfl | j + 3, h => exact absurd h (by omega)) b_55.1 b_55.2 d_TR_readKind_55 (fun w55 H hP hD hS => ?_)
  replace hP := zsP hP
  replace hD := zsD hD
  have hP : va_P (dC, dI) classes ([(w55, .inr (11, [.int 0, .null, .int 0]))] ++ (s_t k a f_t g_t ++ (s_r k a r_r ++ (P)))) H := hP
  have hD : va_D A ([(w55, .inr (11, [.int 0, .null, .int 0]))] ++ (s_t k a f_t g_t ++ (s_r k a r_r ++ (P)))) := hD
  refine lv_dup hx hb d_TR_readKind_58 rfl ?_
  have hPf : va_P (dC, dI) classes (([]) ++ (([(w55, .inr (11, [.int 0, .null, .int 0]))]) ++ (s_t k a f_t g_t ++ (s_r k a r_r ++ (P))))) H := hP
  have hDf : va_D A (([]) ++ (([(w55, .inr (11, [.int 0, .null, .int 0]))]) ++ (s_t k a f_t g_t ++ (s_r k a r_r ++ (P))))) := hD
  have hFc := zfree hDf hS hA
  refine va_callv (va_runI (As := []) (rest := [.ref w55]) ⟨hx, hb, hml, hown, htz⟩ ((m_59 w55) H.size) (cwI 0 htz (z_gI (fun _ h => h) m_AL_init) rfl rfl rfl (htz _ ini_AL) (htz _ km_TR_74) (htz _ in_AL_init) rfl (by decide +kernel) ⟨(Nat.le_of_ble_eq_true rfl), (Nat.le_of_ble_eq_true rfl)⟩) ⟨z_blind, fun U hU hW => ⟨rfl, by rw [hU], hE.call hS hFc hU hW, by rw [hU]; exact (zPc hPf), va_K.moved hW.alike hK, (zDc hDf)⟩⟩ rfl rfl hl.1 rfl (lv_room (Nat.le_of_ble_eq_true rfl)) d_TR_readKind_59 (b_59 w55)) hS (fun q _ h => hFc q h) hFc (fun u t H1 locs ht hvm hw hB hz1 hk1 hS => ?_)
  obtain ⟨hP1, hK1, hD1⟩ := hB
  rw [ht] at hP1
  obtain ⟨hP, hD⟩ := zf hPf hDf hk1 hFc hP1 hD1
  exact (k_59 w55) _ hw H1 locs ls (lv_sub hl [1, 2, 3, 0] rfl) hP hD hS
set_option maxHeartbeats 1000000 in
set_option maxRecDepth 100000 in
theorem k_TR_readKind_62 {C : CT} (X : cX C "QuestionText$TextReader" b_TR_readKind 6 none) (Post : va_W → Prop) (PX : String → va_W → Prop) (x1 : Int32) (x2 : Int32) (x3 : Int32) (y0 : Nat) (aw : va_W) (f_t : FT) (g_t : GT) (r_r : Nat → Nat → Option Nat) (P : va_W) (c0 s0 : Nat)
    (k_67 : zc_TR_readKind C Post PX c0 s0 67 [(0, .ref (ad C.1 20)), (1, .int x1), (2, .int x2), (3, .int x3), (4, .ref y0), (5, .int 0)] [] (s_t C.1.2.2.2.1 C.1.2.2.2.2 f_t g_t ++ (s_r C.1.2.2.2.1 C.1.2.2.2.2 r_r ++ (aw ++ (P))))) : zc_TR_readKind C Post PX c0 s0 62 [(0, .ref (ad C.1 20)), (1, .int x1), (2, .int x2), (3, .int x3)] [.ref y0] (s_t C.1.2.2.2.1 C.1.2.2.2.2 f_t g_t ++ (s_r C.1.2.2.2.1 C.1.2.2.2.2 r_r ++ (aw ++ (P)))) := by
  obtain ⟨⟨l, dC, dI, k, a⟩, p, e, s, m, args, below, meth, c, A⟩ := C
  obtain ⟨⟨hx, hb, hr, htz, hown, hlocks, hml, hE, hK, hA⟩, hno, hlt⟩ := X
  intro H locs ls hl hP hD hS
  have hl : lv_has ls 6 [(0, .ref (a 20)), (1, .int x1), (2, .int x2), (3, .int x3)] := hl
  have hP : va_P (dC, dI) classes (s_t k a f_t g_t ++ (s_r k a r_r ++ (aw ++ (P)))) H := hP
  have hD : va_D A (s_t k a f_t g_t ++ (s_r k a r_r ++ (aw ++ (P)))) := hD
  show W p l e (z_rm 6 303 1818) s m args below meth c H locs c0 s0 _ (F0 m 62 ls [.ref y0])
  refine lv_astore (lv' := [(4, .ref y0), (0, .ref (a 20)), (1, .int x1), (2, .int x2), (3, .int x3)]) hx hb d_TR_readKind_62 hl (by decide) rfl (fun ls hl => ?_)
  refine lv_iconst (v := 0) hx hb d_TR_readKind_64 (by decide) ?_
  refine lv_istore (lv' := [(5, .int 0), (4, .ref y0), (0, .ref (a 20)), (1, .int x1), (2, .int x2), (3, .int x3)]) hx hb d_TR_readKind_65 hl (by decide) rfl (fun ls hl => ?_)
  exact k_67 H locs ls (lv_sub hl [2, 3, 4, 5, 1, 0] rfl) hP hD hS
set_option maxHeartbeats 1000000 in
set_option maxRecDepth 100000 in
theorem k_TR_readKind_67 {C : CT} (X : cX C "QuestionText$TextReader" b_TR_readKind 6 none) (Post : va_W → Prop) (PX : String → va_W → Prop) {P_77 : Int32 → va_W → Prop} (x1 : Int32) (x2 : Int32) (x3 : Int32) (x4 : Nat) (x5 : Int32) (aw : va_W) (f_t : FT) (g_t : GT) (r_r : Nat → Nat → Option Nat) (P : va_W) (c0 s0 : Nat)
    (k_101 : (6 ≤ x5) → zc_TR_readKind C Post PX c0 s0 101 [(0, .ref (ad C.1 20)), (1, .int x1), (2, .int x2), (3, .int x3), (4, .ref x4), (5, .int x5)] [] (s_t C.1.2.2.2.1 C.1.2.2.2.2 f_t g_t ++ (s_r C.1.2.2.2.1 C.1.2.2.2.2 r_r ++ (aw ++ (P)))))
    (b_77 : (¬ 6 ≤ x5) → c0 ≤ 303 ∧ s0 ≤ 1818)
    (m_77 : (¬ 6 ≤ x5) → uI C.1 y_TR_took (Cond.code y_TR_took b_TR_took 2 (some .boolean)) 1 0 0 [.ref (ad C.1 20), .int 40] (s_t C.1.2.2.2.1 C.1.2.2.2.2 f_t g_t) P_77)
    (k_77 : (¬ 6 ≤ x5) → ∀ (r : Int32) (u : va_W), P_77 r u → zc_TR_readKind C Post PX c0 s0 80 [(0, .ref (ad C.1 20)), (1, .int x1), (2, .int x2), (3, .int x3), (4, .ref x4), (5, .int x5)] [.int r] (u ++ (s_r C.1.2.2.2.1 C.1.2.2.2.2 r_r ++ (aw ++ (P))))) : zc_TR_readKind C Post PX c0 s0 67 [(0, .ref (ad C.1 20)), (1, .int x1), (2, .int x2), (3, .int x3), (4, .ref x4), (5, .int x5)] [] (s_t C.1.2.2.2.1 C.1.2.2.2.2 f_t g_t ++ (s_r C.1.2.2.2.1 C.1.2.2.2.2 r_r ++ (aw ++ (P)))) := by
  obtain ⟨⟨l, dC, dI, k, a⟩, p, e, s, m, args, below, meth, c, A⟩ := C
  obtain ⟨⟨hx, hb, hr, htz, hown, hlocks, hml, hE, hK, hA⟩, hno, hlt⟩ := X
  intro H locs ls hl hP hD hS
  have hl : lv_has ls 6 [(0, .ref (a 20)), (1, .int x1), (2, .int x2), (3, .int x3), (4, .ref x4), (5, .int x5)] := hl
  have hP : va_P (dC, dI) classes (s_t k a f_t g_t ++ (s_r k a r_r ++ (aw ++ (P)))) H := hP
  have hD : va_D A (s_t k a f_t g_t ++ (s_r k a r_r ++ (aw ++ (P)))) := hD
  show W p l e (z_rm 6 303 1818) s m args below meth c H locs c0 s0 _ (F0 m 67 ls [])
  refine lv_iload hx hb d_TR_readKind_67 (lv_at hl 5 rfl) ?_
  refine lv_bipush (v := 6) hx hb d_TR_readKind_69 (by decide) ?_
  refine lv_icmp_ge (tgt := 101) hx hb d_TR_readKind_71 (by decide) (fun c_71 => ?_) (fun c_71 => ?_)
  · exact (k_101 c_71) H locs ls (lv_sub hl [0, 1, 2, 3, 4, 5] rfl) hP hD hS
  · refine lv_aload_n hx hb d_TR_readKind_74 rfl (lv_at hl 0 rfl) ?_
    refine lv_bipush (v := 40) hx hb d_TR_readKind_75 (by decide) ?_
    have hPf : va_P (dC, dI) classes (([]) ++ ((s_t k a f_t g_t) ++ (s_r k a r_r ++ (aw ++ (P))))) H := hP
    have hDf : va_D A (([]) ++ ((s_t k a f_t g_t) ++ (s_r k a r_r ++ (aw ++ (P))))) := hD
    have hFc := zfree hDf hS hA
    refine va_calli (va_runV (As := [.int 40]) (rest := []) ⟨hx, hb, hml, hown, htz⟩ ((m_77 c_71) H.size) (cwV 1 htz (z_gV (fun _ h => h) km_TR_41 in_TR_took se_TR_took ini_TR m_TR_took) rfl rfl rfl (by decide +kernel) ⟨(Nat.le_of_ble_eq_true rfl), (Nat.le_of_ble_eq_true rfl)⟩) ⟨z_blind, va_recv hK hP (ci := 1) (q0 := 0) rfl rfl, fun U hU hW => ⟨rfl, by rw [hU], hE.call hS hFc hU hW, by rw [hU]; exact (zPc hPf), va_K.moved hW.alike hK, (zDc hDf)⟩⟩ rfl rfl hl.1 rfl (lv_room (Nat.le_of_ble_eq_true rfl)) d_TR_readKind_77 (b_77 c_71)) hS (fun q _ h => hFc q h) hFc (fun r u t H1 locs ht hvm hw hB hz1 hk1 hS => ?_)
    obtain ⟨hP1, hK1, hD1⟩ := hB
    rw [ht] at hP1
    obtain ⟨hP, hD⟩ := zf hPf hDf hk1 hFc hP1 hD1
    exact (k_77 c_71) r _ hw H1 locs ls (lv_sub hl [0, 1, 2, 3, 4, 5] rfl) hP hD hS
set_option maxHeartbeats 1000000 in
set_option maxRecDepth 100000 in
theorem k_TR_readKind_80 {C : CT} (X : cX C "QuestionText$TextReader" b_TR_readKind 6 none) (Post : va_W → Prop) (PX : String → va_W → Prop) {P_86 : Option Nat → va_W → Prop} {X_86 : String → va_W → Prop} (x1 : Int32) (x2 : Int32) (x3 : Int32) (x4 : Nat) (x5 : Int32) (y0 : Int32) (aw : va_W) (f_t : FT) (g_t : GT) (r_r : Nat → Nat → Option Nat) (P : va_W) (c0 s0 : Nat)
    (k_101 : (y0 = 0) → zc_TR_readKind C Post PX c0 s0 101 [(0, .ref (ad C.1 20)), (1, .int x1), (2, .int x2), (3, .int x3), (4, .ref x4), (5, .int x5)] [] (s_t C.1.2.2.2.1 C.1.2.2.2.2 f_t g_t ++ (s_r C.1.2.2.2.1 C.1.2.2.2.2 r_r ++ (aw ++ (P)))))
    (b_86 : (¬ y0 = 0) → c0 + 47 ≤ 303 ∧ s0 + 279 ≤ 1818)
    (m_86 : (¬ y0 = 0) → xR C.1 y_TR_readCondition (Cond.code y_TR_readCondition b_TR_readCondition 3 (some (.object "QuestionText$Condition"))) 5 47 279 [.ref (ad C.1 20)] (s_t C.1.2.2.2.1 C.1.2.2.2.2 f_t g_t ++ (P)) P_86 X_86)
    (k_86 : (¬ y0 = 0) → ∀ (r : Option Nat) (u : va_W), P_86 r u → zc_TR_readKind C Post PX (c0 + 47) (s0 + 279) 89 [(0, .ref (ad C.1 20)), (1, .int x1), (2, .int x2), (3, .int x3), (4, .ref x4), (5, .int x5)] [va_rf r, .ref x4] (s_r C.1.2.2.2.1 C.1.2.2.2.2 r_r ++ (aw) ++ (u)))
    (x_86 : (¬ y0 = 0) → ∀ (E : String) (u : va_W), X_86 E u → PX E (s_r C.1.2.2.2.1 C.1.2.2.2.2 r_r ++ (aw) ++ (u))) : zc_TR_readKind C Post PX c0 s0 80 [(0, .ref (ad C.1 20)), (1, .int x1), (2, .int x2), (3, .int x3), (4, .ref x4), (5, .int x5)] [.int y0] (s_t C.1.2.2.2.1 C.1.2.2.2.2 f_t g_t ++ (s_r C.1.2.2.2.1 C.1.2.2.2.2 r_r ++ (aw ++ (P)))) := by
  obtain ⟨⟨l, dC, dI, k, a⟩, p, e, s, m, args, below, meth, c, A⟩ := C
  obtain ⟨⟨hx, hb, hr, htz, hown, hlocks, hml, hE, hK, hA⟩, hno, hlt⟩ := X
  intro H locs ls hl hP hD hS
  have hl : lv_has ls 6 [(0, .ref (a 20)), (1, .int x1), (2, .int x2), (3, .int x3), (4, .ref x4), (5, .int x5)] := hl
  have hP : va_P (dC, dI) classes (s_t k a f_t g_t ++ (s_r k a r_r ++ (aw ++ (P)))) H := hP
  have hD : va_D A (s_t k a f_t g_t ++ (s_r k a r_r ++ (aw ++ (P)))) := hD
  show W p l e (z_rm 6 303 1818) s m args below meth c H locs c0 s0 _ (F0 m 80 ls [.int y0])
  refine lv_if_eq (tgt := 101) hx hb d_TR_readKind_80 (by decide) (fun c_80 => ?_) (fun c_80 => ?_)
  · exact (k_101 c_80) H locs ls (lv_sub hl [0, 1, 2, 3, 4, 5] rfl) hP hD hS
  · refine lv_aload hx hb d_TR_readKind_83 (lv_at hl 4 rfl) ?_
    refine lv_aload_n hx hb d_TR_readKind_85 rfl (lv_at hl 0 rfl) ?_
    have hPf : va_P (dC, dI) classes ((s_r k a r_r ++ (aw)) ++ ((s_t k a f_t g_t ++ (P)) ++ ([]))) H := by rw [List.append_nil]; exact zpP ((zpA2 (zp3 _ _ _))) hP
    have hDf : va_D A ((s_r k a r_r ++ (aw)) ++ ((s_t k a f_t g_t ++ (P)) ++ ([]))) := by rw [List.append_nil]; exact zpD ((zpA2 (zp3 _ _ _))) hD
    have hFc := zfree hDf hS hA
    refine vx_callq (vx_runV (As := []) (rest := [.ref x4]) ⟨hx, hb, hml, hown, htz⟩ ((m_86 c_80) H.size) (cwV 0 htz (z_gV (fun _ h => h) km_TR_110 in_TR_readCondition se_TR_readCondition ini_TR m_TR_readCondition) rfl rfl rfl (by decide +kernel) ⟨(Nat.le_of_ble_eq_true rfl), (Nat.le_of_ble_eq_true rfl)⟩) ⟨z_blind, va_recv hK hP (ci := 1) (q0 := 0) rfl rfl, fun U hU hW => ⟨rfl, by rw [hU], hE.call hS hFc hU hW, by rw [hU]; exact (zPc hPf), va_K.moved hW.alike hK, (zDc hDf)⟩⟩ rfl rfl hl.1 rfl (lv_room (Nat.le_of_ble_eq_true rfl)) d_TR_readKind_86 (b_86 c_80)) hS (fun q _ h => hFc q h) hFc (fun q _ h => hFc q h) (fun E ce q9 u t H1 locs ht hvm hw hB hz1 hk1 hS hce hcv hcl => ?_) (fun r u t H1 locs ht hvm hw hB hz1 hk1 hS => ?_)
    · obtain ⟨hxe, hP1, hK1, hD1⟩ := hB
      rw [ht] at hP1
      obtain ⟨hP, hD⟩ := zf hPf hDf hk1 hFc hP1 hD1
      rw [List.append_nil] at hP hD
      exact vx_out (fun x hx9 => (hno x hx9).elim) hlocks hce hcv hcl (fun t9 h9 h8 => ⟨_, trivial, ⟨(x_86 c_80) E u hxe, by rw [h9]; exact hP, va_K.moved h8 hK, hD⟩, hS.F h9⟩) hS.2.2 (b_86 c_80).1 (b_86 c_80).2
    · obtain ⟨hP1, hK1, hD1⟩ := hB
      rw [ht] at hP1
      obtain ⟨hP, hD⟩ := zf hPf hDf hk1 hFc hP1 hD1
      rw [List.append_nil] at hP hD
      exact (k_86 c_80) r _ hw H1 locs ls (lv_sub hl [0, 1, 2, 3, 4, 5] rfl) hP hD hS
set_option maxHeartbeats 1000000 in
set_option maxRecDepth 100000 in
theorem k_TR_readKind_89 {C : CT} (X : cX C "QuestionText$TextReader" b_TR_readKind 6 none) (Post : va_W → Prop) (PX : String → va_W → Prop) {P_89 : Int32 → va_W → Prop} (x1 : Int32) (x2 : Int32) (x3 : Int32) (x4 : Nat) (x5 : Int32) (y0 : Nat) (y1 : Nat) (aw : va_W) (f_t : FT) (g_t : GT) (r_r : Nat → Nat → Option Nat) (P : va_W) (c0 s0 : Nat)
    (b_89 : c0 + 1 ≤ 303 ∧ s0 + 10 ≤ 1818)
    (m_89 : uI C.1 y_AL_add (Cond.code y_AL_add b_AL_add 2 (some .boolean)) 4 1 10 [.ref y1, .ref y0] (aw ++ (P)) P_89)
    (k_89 : ∀ (r : Int32) (u : va_W), P_89 r u → zc_TR_readKind C Post PX (c0 + 1) (s0 + 10) 94 [(0, .ref (ad C.1 20)), (1, .int x1), (2, .int x2), (3, .int x3), (4, .ref x4), (5, .int x5)] [.int r] (s_t C.1.2.2.2.1 C.1.2.2.2.2 f_t g_t ++ (s_r C.1.2.2.2.1 C.1.2.2.2.2 r_r) ++ (u)))
    (r_89 : ∃ (i : Nat) (fs : List Value), aw[i]? = some (y1, .inr (11, fs))) : zc_TR_readKind C Post PX c0 s0 89 [(0, .ref (ad C.1 20)), (1, .int x1), (2, .int x2), (3, .int x3), (4, .ref x4), (5, .int x5)] [.ref y0, .ref y1] (s_t C.1.2.2.2.1 C.1.2.2.2.2 f_t g_t ++ (s_r C.1.2.2.2.1 C.1.2.2.2.2 r_r ++ (aw ++ (P)))) := by
  obtain ⟨⟨l, dC, dI, k, a⟩, p, e, s, m, args, below, meth, c, A⟩ := C
  obtain ⟨⟨hx, hb, hr, htz, hown, hlocks, hml, hE, hK, hA⟩, hno, hlt⟩ := X
  intro H locs ls hl hP hD hS
  have hl : lv_has ls 6 [(0, .ref (a 20)), (1, .int x1), (2, .int x2), (3, .int x3), (4, .ref x4), (5, .int x5)] := hl
  have hP : va_P (dC, dI) classes (s_t k a f_t g_t ++ (s_r k a r_r ++ (aw ++ (P)))) H := hP
  have hD : va_D A (s_t k a f_t g_t ++ (s_r k a r_r ++ (aw ++ (P)))) := hD
  show W p l e (z_rm 6 303 1818) s m args below meth c H locs c0 s0 _ (F0 m 89 ls [.ref y0, .ref y1])
  have hPf : va_P (dC, dI) classes ((s_t k a f_t g_t ++ (s_r k a r_r)) ++ ((aw ++ (P)) ++ ([]))) H := by rw [List.append_nil]; exact hP
  have hDf : va_D A ((s_t k a f_t g_t ++ (s_r k a r_r)) ++ ((aw ++ (P)) ++ ([]))) := by rw [List.append_nil]; exact hD
  have hFc := zfree hDf hS hA
  obtain ⟨i9, fs9, h9r⟩ := r_89
  have h9a : (aw ++ (P))[i9]? = some (y1, .inr (11, fs9)) := by rw [List.getElem?_append_left (List.getElem?_eq_some_iff.mp h9r).1]; exact h9r
  refine va_callFi (va_runF (hK.1 11 _ rfl).2 (As := [.ref y0]) (rest := []) ⟨hx, hb, hml, hown, htz⟩ (m_89 H.size) (va_cwF 1 htz (z_gF (fun _ h => h) km_TR_82 sx_AL_add in_AL_add ini_AL m_AL_add) rfl rfl rfl (hE.1.1 (⟨"java/util/List", "add", "(Ljava/lang/Object;)Z"⟩, y_AL_add) (by decide +kernel)) (by decide +kernel) ⟨(Nat.le_of_ble_eq_true rfl), (Nat.le_of_ble_eq_true rfl)⟩) ⟨z_blind, va_recv hK (zPc hPf) (ci := 11) (q0 := i9) rfl h9a, fun U hU hW => ⟨rfl, by rw [hU], hE.call hS hFc hU hW, by rw [hU]; exact (zPc hPf), va_K.moved hW.alike hK, (zDc hDf)⟩⟩ rfl rfl hl.1 rfl (lv_room (Nat.le_of_ble_eq_true rfl)) d_TR_readKind_89 b_89) hS (fun q _ h => hFc q h) hFc (fun r u t H1 locs ht hvm hw hB hz1 hk1 hS => ?_)
  obtain ⟨hP1, hK1, hD1⟩ := hB
  rw [ht] at hP1
  obtain ⟨hP, hD⟩ := zf hPf hDf hk1 hFc hP1 hD1
  rw [List.append_nil] at hP hD
  exact k_89 r _ hw H1 locs ls (lv_sub hl [0, 1, 2, 3, 4, 5] rfl) hP hD hS
set_option maxHeartbeats 1000000 in
set_option maxRecDepth 100000 in
theorem k_TR_readKind_94 {C : CT} (X : cX C "QuestionText$TextReader" b_TR_readKind 6 none) (Post : va_W → Prop) (PX : String → va_W → Prop) (x1 : Int32) (x2 : Int32) (x3 : Int32) (x4 : Nat) (x5 : Int32) (y0 : Int32) (aw : va_W) (f_t : FT) (g_t : GT) (r_r : Nat → Nat → Option Nat) (P : va_W) (c0 s0 : Nat)
    (k_67 : zc_TR_readKind C Post PX c0 s0 67 [(0, .ref (ad C.1 20)), (1, .int x1), (2, .int x2), (3, .int x3), (4, .ref x4), (5, .int (x5 + 1))] [] (s_t C.1.2.2.2.1 C.1.2.2.2.2 f_t g_t ++ (s_r C.1.2.2.2.1 C.1.2.2.2.2 r_r ++ (aw ++ (P))))) : zc_TR_readKind C Post PX c0 s0 94 [(0, .ref (ad C.1 20)), (1, .int x1), (2, .int x2), (3, .int x3), (4, .ref x4), (5, .int x5)] [.int y0] (s_t C.1.2.2.2.1 C.1.2.2.2.2 f_t g_t ++ (s_r C.1.2.2.2.1 C.1.2.2.2.2 r_r ++ (aw ++ (P)))) := by
  obtain ⟨⟨l, dC, dI, k, a⟩, p, e, s, m, args, below, meth, c, A⟩ := C
  obtain ⟨⟨hx, hb, hr, htz, hown, hlocks, hml, hE, hK, hA⟩, hno, hlt⟩ := X
  intro H locs ls hl hP hD hS
  have hl : lv_has ls 6 [(0, .ref (a 20)), (1, .int x1), (2, .int x2), (3, .int x3), (4, .ref x4), (5, .int x5)] := hl
  have hP : va_P (dC, dI) classes (s_t k a f_t g_t ++ (s_r k a r_r ++ (aw ++ (P)))) H := hP
  have hD : va_D A (s_t k a f_t g_t ++ (s_r k a r_r ++ (aw ++ (P)))) := hD
  show W p l e (z_rm 6 303 1818) s m args below meth c H locs c0 s0 _ (F0 m 94 ls [.int y0])
  refine lv_pop hx hb d_TR_readKind_94 rfl ?_
  refine lv_iinc (v := x5 + 1) (lv' := [(5, .int (x5 + 1)), (0, .ref (a 20)), (1, .int x1), (2, .int x2), (3, .int x3), (4, .ref x4)]) hx hb d_TR_readKind_95 hl (k := 5) rfl (rfl) (by decide) rfl (fun ls hl => ?_)
  refine lv_goto (tgt := 67) hx hb d_TR_readKind_98 (by decide) ?_
  exact k_67 H locs ls (lv_sub hl [1, 2, 3, 4, 5, 0] rfl) hP hD hS
set_option maxHeartbeats 1000000 in
set_option maxRecDepth 100000 in
theorem k_TR_readKind_101 {C : CT} (X : cX C "QuestionText$TextReader" b_TR_readKind 6 none) (Post : va_W → Prop) (PX : String → va_W → Prop) {P_104 : va_W → Prop} {X_104 : String → va_W → Prop} (x1 : Int32) (x2 : Int32) (x3 : Int32) (x4 : Nat) (x5 : Int32) (aw : va_W) (f_t : FT) (g_t : GT) (r_r : Nat → Nat → Option Nat) (P : va_W) (c0 s0 : Nat)
    (b_104 : c0 + 1 ≤ 303 ∧ s0 + 6 ≤ 1818)
    (m_104 : xV C.1 y_TR_take (Cond.code y_TR_take b_TR_take 2 none) 1 1 6 [.ref (ad C.1 20), .int 59] (s_t C.1.2.2.2.1 C.1.2.2.2.2 f_t g_t) P_104 X_104)
    (k_104 : ∀ (u : va_W), P_104 u → zc_TR_readKind C Post PX (c0 + 1) (s0 + 6) 107 [(0, .ref (ad C.1 20)), (1, .int x1), (2, .int x2), (3, .int x3), (4, .ref x4), (5, .int x5)] [] (u ++ (s_r C.1.2.2.2.1 C.1.2.2.2.2 r_r ++ (aw ++ (P)))))
    (x_104 : ∀ (E : String) (u : va_W), X_104 E u → PX E (u ++ (s_r C.1.2.2.2.1 C.1.2.2.2.2 r_r ++ (aw ++ (P))))) : zc_TR_readKind C Post PX c0 s0 101 [(0, .ref (ad C.1 20)), (1, .int x1), (2, .int x2), (3, .int x3), (4, .ref x4), (5, .int x5)] [] (s_t C.1.2.2.2.1 C.1.2.2.2.2 f_t g_t ++ (s_r C.1.2.2.2.1 C.1.2.2.2.2 r_r ++ (aw ++ (P)))) := by
  obtain ⟨⟨l, dC, dI, k, a⟩, p, e, s, m, args, below, meth, c, A⟩ := C
  obtain ⟨⟨hx, hb, hr, htz, hown, hlocks, hml, hE, hK, hA⟩, hno, hlt⟩ := X
  intro H locs ls hl hP hD hS
  have hl : lv_has ls 6 [(0, .ref (a 20)), (1, .int x1), (2, .int x2), (3, .int x3), (4, .ref x4), (5, .int x5)] := hl
  have hP : va_P (dC, dI) classes (s_t k a f_t g_t ++ (s_r k a r_r ++ (aw ++ (P)))) H := hP
  have hD : va_D A (s_t k a f_t g_t ++ (s_r k a r_r ++ (aw ++ (P)))) := hD
  show W p l e (z_rm 6 303 1818) s m args below meth c H locs c0 s0 _ (F0 m 101 ls [])
  refine lv_aload_n hx hb d_TR_readKind_101 rfl (lv_at hl 0 rfl) ?_
  refine lv_bipush (v := 59) hx hb d_TR_readKind_102 (by decide) ?_
  have hPf : va_P (dC, dI) classes (([]) ++ ((s_t k a f_t g_t) ++ (s_r k a r_r ++ (aw ++ (P))))) H := hP
  have hDf : va_D A (([]) ++ ((s_t k a f_t g_t) ++ (s_r k a r_r ++ (aw ++ (P))))) := hD
  have hFc := zfree hDf hS hA
  refine vx_callv (vx_runV (As := [.int 59]) (rest := []) ⟨hx, hb, hml, hown, htz⟩ (m_104 H.size) (cwV 1 htz (z_gV (fun _ h => h) km_TR_48 in_TR_take se_TR_take ini_TR m_TR_take) rfl rfl rfl (by decide +kernel) ⟨(Nat.le_of_ble_eq_true rfl), (Nat.le_of_ble_eq_true rfl)⟩) ⟨z_blind, va_recv hK hP (ci := 1) (q0 := 0) rfl rfl, fun U hU hW => ⟨rfl, by rw [hU], hE.call hS hFc hU hW, by rw [hU]; exact (zPc hPf), va_K.moved hW.alike hK, (zDc hDf)⟩⟩ rfl rfl hl.1 rfl (lv_room (Nat.le_of_ble_eq_true rfl)) d_TR_readKind_104 b_104) hS (fun q _ h => hFc q h) hFc (fun q _ h => hFc q h) (fun E ce q9 u t H1 locs ht hvm hw hB hz1 hk1 hS hce hcv hcl => ?_) (fun u t H1 locs ht hvm hw hB hz1 hk1 hS => ?_)
  · obtain ⟨hxe, hP1, hK1, hD1⟩ := hB
    rw [ht] at hP1
    obtain ⟨hP, hD⟩ := zf hPf hDf hk1 hFc hP1 hD1
    exact vx_out (fun x hx9 => (hno x hx9).elim) hlocks hce hcv hcl (fun t9 h9 h8 => ⟨_, trivial, ⟨x_104 E u hxe, by rw [h9]; exact hP, va_K.moved h8 hK, hD⟩, hS.F h9⟩) hS.2.2 b_104.1 b_104.2
  · obtain ⟨hP1, hK1, hD1⟩ := hB
    rw [ht] at hP1
    obtain ⟨hP, hD⟩ := zf hPf hDf hk1 hFc hP1 hD1
    exact k_104 _ hw H1 locs ls (lv_sub hl [0, 1, 2, 3, 4, 5] rfl) hP hD hS
set_option maxHeartbeats 1000000 in
set_option maxRecDepth 100000 in
theorem k_TR_readKind_107 {C : CT} (X : cX C "QuestionText$TextReader" b_TR_readKind 6 none) (Post : va_W → Prop) (PX : String → va_W → Prop) {P_120 : Nat → va_W → Prop} (x1 : Int32) (x2 : Int32) (x3 : Int32) (x4 : Nat) (x5 : Int32) (aw : va_W) (f_t : FT) (g_t : GT) (r_r : Nat → Nat → Option Nat) (P : va_W) (c0 s0 : Nat)
    (b_112 : c0 + 1 ≤ 303 ∧ s0 + 3 ≤ 1818)
    (b_120 : ∀ w112 : Nat, c0 + 1 ≤ 303 ∧ s0 + 3 ≤ 1818)
    (m_120 : ∀ w112 : Nat, uV C.1 y_Ki_init (Cond.code y_Ki_init b_Ki_init 4 none) 0 0 0 [.ref w112, .int x2, .int x3, .ref x4] ([(w112, .inr (5, [.int 0, .int 0, .null]))]) (P_120 w112))
    (k_120 : ∀ w112 : Nat, ∀ (u : va_W), (P_120 w112) u → zc_TR_readKind C Post PX (c0 + 1) (s0 + 3) 123 [(0, .ref (ad C.1 20)), (1, .int x1), (2, .int x2), (3, .int x3), (4, .ref x4), (5, .int x5)] [.ref w112, .int x1, .ref (ad C.1 23)] (u ++ (s_t C.1.2.2.2.1 C.1.2.2.2.2 f_t g_t ++ (s_r C.1.2.2.2.1 C.1.2.2.2.2 r_r ++ (aw ++ (P)))))) : zc_TR_readKind C Post PX c0 s0 107 [(0, .ref (ad C.1 20)), (1, .int x1), (2, .int x2), (3, .int x3), (4, .ref x4), (5, .int x5)] [] (s_t C.1.2.2.2.1 C.1.2.2.2.2 f_t g_t ++ (s_r C.1.2.2.2.1 C.1.2.2.2.2 r_r ++ (aw ++ (P)))) := by
  obtain ⟨⟨l, dC, dI, k, a⟩, p, e, s, m, args, below, meth, c, A⟩ := C
  obtain ⟨⟨hx, hb, hr, htz, hown, hlocks, hml, hE, hK, hA⟩, hno, hlt⟩ := X
  intro H locs ls hl hP hD hS
  have hl : lv_has ls 6 [(0, .ref (a 20)), (1, .int x1), (2, .int x2), (3, .int x3), (4, .ref x4), (5, .int x5)] := hl
  have hP : va_P (dC, dI) classes (s_t k a f_t g_t ++ (s_r k a r_r ++ (aw ++ (P)))) H := hP
  have hD : va_D A (s_t k a f_t g_t ++ (s_r k a r_r ++ (aw ++ (P)))) := hD
  show W p l e (z_rm 6 303 1818) s m args below meth c H locs c0 s0 _ (F0 m 107 ls [])
  refine lv_aload_n hx hb d_TR_readKind_107 rfl (lv_at hl 0 rfl) ?_
  refine va_get (D := (dC, dI)) (ci := 1) (v := .ref (a 23)) (C := R_TR) (T := F_TR) (N := 5) hx hb htz i_TR hown hK hP 0 rfl rfl 2 (by decide) (htz _ kf_TR_23) (fun _ h9 => h9) rfl d_TR_readKind_108 ?_
  refine lv_iload_n hx hb d_TR_readKind_111 rfl (lv_at hl 1 rfl) ?_
  refine va_new (ci := 5) (fs := [.int 0, .int 0, .null]) (C := R_Ki) (T := F_Ki) (N := 3) hx hb htz i_Ki t_Ki o_Ki hown (htz _ kc_TR_21) (htz _ mk_Ki) (htz _ ini_Ki) hK hP hD hS hA rfl (by intro j hj; match j, hj with | 0, _ => rfl | 1, _ => rfl | 2, _ => rfl | j + 3, h => exact absurd h (by omega)) b_112.1 b_112.2 d_TR_readKind_112 (fun w112 H hP hD hS => ?_)
  replace hP := zsP hP
  replace hD := zsD hD
  have hP : va_P (dC, dI) classes ([(w112, .inr (5, [.int 0, .int 0, .null]))] ++ (s_t k a f_t g_t ++ (s_r k a r_r ++ (aw ++ (P))))) H := hP
  have hD : va_D A ([(w112, .inr (5, [.int 0, .int 0, .null]))] ++ (s_t k a f_t g_t ++ (s_r k a r_r ++ (aw ++ (P))))) := hD
  refine lv_dup hx hb d_TR_readKind_115 rfl ?_
  refine lv_iload_n hx hb d_TR_readKind_116 rfl (lv_at hl 2 rfl) ?_
  refine lv_iload_n hx hb d_TR_readKind_117 rfl (lv_at hl 3 rfl) ?_
  refine lv_aload hx hb d_TR_readKind_118 (lv_at hl 4 rfl) ?_
  have hPf : va_P (dC, dI) classes (([]) ++ (([(w112, .inr (5, [.int 0, .int 0, .null]))]) ++ (s_t k a f_t g_t ++ (s_r k a r_r ++ (aw ++ (P)))))) H := hP
  have hDf : va_D A (([]) ++ (([(w112, .inr (5, [.int 0, .int 0, .null]))]) ++ (s_t k a f_t g_t ++ (s_r k a r_r ++ (aw ++ (P)))))) := hD
  have hFc := zfree hDf hS hA
  refine va_callv (va_runI (As := [.int x2, .int x3, .ref x4]) (rest := [.ref w112, .int x1, .ref (a 23)]) ⟨hx, hb, hml, hown, htz⟩ ((m_120 w112) H.size) (cwI 3 htz (z_gI (fun _ h => h) m_Ki_init) rfl rfl rfl (htz _ ini_Ki) (htz _ km_TR_114) (htz _ in_Ki_init) rfl (by decide +kernel) ⟨(Nat.le_of_ble_eq_true rfl), (Nat.le_of_ble_eq_true rfl)⟩) ⟨z_blind, fun U hU hW => ⟨rfl, by rw [hU], hE.call hS hFc hU hW, by rw [hU]; exact (zPc hPf), va_K.moved hW.alike hK, (zDc hDf)⟩⟩ rfl rfl hl.1 rfl (lv_room (Nat.le_of_ble_eq_true rfl)) d_TR_readKind_120 (b_120 w112)) hS (fun q _ h => hFc q h) hFc (fun u t H1 locs ht hvm hw hB hz1 hk1 hS => ?_)
  obtain ⟨hP1, hK1, hD1⟩ := hB
  rw [ht] at hP1
  obtain ⟨hP, hD⟩ := zf hPf hDf hk1 hFc hP1 hD1
  exact (k_120 w112) _ hw H1 locs ls (lv_sub hl [0, 1, 2, 3, 4, 5] rfl) hP hD hS
set_option maxHeartbeats 1000000 in
set_option maxRecDepth 100000 in
theorem k_TR_readKind_123 {C : CT} (X : cX C "QuestionText$TextReader" b_TR_readKind 6 none) (Post : va_W → Prop) (PX : String → va_W → Prop) (x1 : Int32) (x2 : Int32) (x3 : Int32) (x4 : Nat) (x5 : Int32) (y0 : Nat) (y1 : Int32) (f_t : FT) (g_t : GT) (r_r : Nat → Nat → Option Nat) (P : va_W) (vs : List Value) (i1 : Nat) (c0 s0 : Nat) (hf : P[i1]? = some (y0, .inr (5, vs)))
    (h_123 : vp_in (y1) 10)
    (b_124 : c0 ≤ 303 ∧ s0 ≤ 1818)
    (q_124 : Post (s_t C.1.2.2.2.1 C.1.2.2.2.2 f_t g_t ++ (s_r C.1.2.2.2.1 C.1.2.2.2.2 (va_up r_r 1 (va_up (r_r 1) (y1 : Int32).toNatClampNeg (some y0))) ++ (P)))) : zc_TR_readKind C Post PX c0 s0 123 [(0, .ref (ad C.1 20)), (1, .int x1), (2, .int x2), (3, .int x3), (4, .ref x4), (5, .int x5)] [.ref y0, .int y1, .ref (ad C.1 23)] (s_t C.1.2.2.2.1 C.1.2.2.2.2 f_t g_t ++ (s_r C.1.2.2.2.1 C.1.2.2.2.2 r_r ++ (P))) := by
  obtain ⟨⟨l, dC, dI, k, a⟩, p, e, s, m, args, below, meth, c, A⟩ := C
  obtain ⟨⟨hx, hb, hr, htz, hown, hlocks, hml, hE, hK, hA⟩, hno, hlt⟩ := X
  intro H locs ls hl hP hD hS
  have hl : lv_has ls 6 [(0, .ref (a 20)), (1, .int x1), (2, .int x2), (3, .int x3), (4, .ref x4), (5, .int x5)] := hl
  have hP : va_P (dC, dI) classes (s_t k a f_t g_t ++ (s_r k a r_r ++ (P))) H := hP
  have hD : va_D A (s_t k a f_t g_t ++ (s_r k a r_r ++ (P))) := hD
  show W p l e (z_rm 6 303 1818) s m args below meth c H locs c0 s0 _ (F0 m 123 ls [.ref y0, .int y1, .ref (a 23)])
  refine va_astq hx hb hK hP hD hS 3 4 (i1 + 4) 5 rfl rfl hf rfl h_123 d_TR_readKind_123 (fun H locs hP hD hS => ?_)
  have hP : va_P (dC, dI) classes (s_t k a f_t g_t ++ (s_r k a (va_up r_r 1 (va_up (r_r 1) (y1 : Int32).toNatClampNeg (some y0))) ++ (P))) H := hP
  have hD : va_D A (s_t k a f_t g_t ++ (s_r k a (va_up r_r 1 (va_up (r_r 1) (y1 : Int32).toNatClampNeg (some y0))) ++ (P))) := hD
  refine W.widen (k := 303) (n := 1818) b_124.1 b_124.2 ?_
  refine vx_ret ?_
  exact W.vret hx hb hr (fun t ht hW => ⟨⟨(s_t k a f_t g_t ++ (s_r k a (va_up r_r 1 (va_up (r_r 1) (y1 : Int32).toNatClampNeg (some y0))) ++ (P))), rfl, q_124, by rw [ht]; exact hP, va_K.moved hW.alike hK, hD⟩, hS.F ht⟩) hS.2.2 d_TR_readKind_124
set_option maxHeartbeats 1000000 in
set_option maxRecDepth 100000 in
theorem e_TR_readKind (T : ST) (hlt : T.1.stackTraces = false) (Post : va_W → Prop) (PX : String → va_W → Prop) (f_t : FT) (g_t : GT) (r_r : Nat → Nat → Option Nat) (P : va_W) (h : ∀ C : CT, C.1 = T → cX C "QuestionText$TextReader" b_TR_readKind 6 none → zc_TR_readKind C Post PX 0 0 0 [(0, .ref (ad C.1 20))] [] (s_t C.1.2.2.2.1 C.1.2.2.2.2 f_t g_t ++ (s_r C.1.2.2.2.1 C.1.2.2.2.2 r_r ++ (P)))) : xV T y_TR_readKind (Cond.code y_TR_readKind b_TR_readKind 6 none) 6 303 1818 [.ref (ad T 20)] (s_t T.2.2.2.1 T.2.2.2.2 f_t g_t ++ (s_r T.2.2.2.1 T.2.2.2.2 r_r ++ (P))) Post PX := by
  obtain ⟨l, dC, dI, k, a⟩ := T
  intro sz
  refine vx_ofW (cc := b_TR_readKind) (maxL := 6) (ret := none) (by decide) rfl ?_
  intro p e s m args below meth c s₁ B hml hno hv
  obtain ⟨rfl, hsz, hE, hP, hK, hD0⟩ := hv
  have hts := atoms_spec (ws := (Cond.code y_TR_readKind b_TR_readKind 6 none) :: z_T) B.pre
  have htz : ∀ w ∈ z_T, w.before _ s = true := fun w h => hts w (z_cons w h)
  subst hsz
  have hD := hD0.self (sz := s.heap.size)
  generalize hAe : va_A (s_t k a f_t g_t ++ (s_r k a r_r ++ (P))) s.heap.size = A at hD hE ⊢
  have hA : ∀ q : Nat, s.heap.size ≤ q → A q := fun q h => by rw [← hAe]; exact Or.inr h
  have hl := lv_entry ([.ref (a 20)]) (n := 6) (Nat.le_of_ble_eq_true rfl)
  rw [lg_entry_eq]
  generalize (lg_sl ([.ref (a 20)]) ++ List.replicate (6 - (lg_sl ([.ref (a 20)])).length) Slot.unset).toArray = ls at hl ⊢
  exact h ((l, dC, dI, k, a), p, e, s, m, ([.ref (a 20)] : List Value).toArray, below, meth, c, A) rfl ⟨⟨B.exec, B.bytes, B.returns, htz, findClass_of_methodNamed B.named, B.notSynchronized, hml, hE, hK, hA⟩, hno, hlt⟩ s.heap [] ls hl hP hD va_S.rf
