def zn_question (C : CT) (Post : FT → GT → Prop) (pc : Nat) (loc : List (Nat × Value)) (st : List Value) (f : FT) (g : GT) : Prop := zW C (z_rm 4 0 0) 5 (qV C Post) 0 0 pc loc st (mM C.1 f g)
set_option maxHeartbeats 1000000 in
set_option maxRecDepth 100000 in
theorem k_Mo_question_0 {C : CT} (X : cM C "QuestionTextModel" b_Mo_question 5 none) (Post : FT → GT → Prop) {P_4 : Int32 → FT → GT → Prop} (f : FT) (g : GT)
    (m_4 : mI C.1 y_Mo_number (Cond.code y_Mo_number b_Mo_number 4 (some .int)) 2 [.ref (ad C.1 0), .int 1, .int 60] f g P_4)
    (k_4 : ∀ (r : Int32) (f1 : FT) (g1 : GT), P_4 r f1 g1 → zn_question C Post 7 [(0, .ref (ad C.1 0))] [.int r] f1 g1) : zn_question C Post 0 [(0, .ref (ad C.1 0))] [] f g := by
  obtain ⟨⟨l, dC, dI, k, a⟩, p, e, s, m, args, below, meth, c, A⟩ := C
  obtain ⟨hx, hb, hr, htz, hown, hlocks, hml, hE, hK, hA⟩ := X
  intro H locs ls hl hP hD hS
  have hl : lv_has ls 5 [(0, .ref (a 0))] := hl
  have hP : va_P (dC, dI) classes (mw k a f g) H := hP
  have hD : va_D A (mw k a f g) := hD
  show W p l e (z_rm 4 0 0) s m args below meth c H locs 0 0 _ (F0 m 0 ls [])
  refine lv_aload_n hx hb d_Mo_question_0 rfl (lv_at hl 0 rfl) ?_
  refine lv_iconst (v := 1) hx hb d_Mo_question_1 (by decide) ?_
  refine lv_bipush (v := 60) hx hb d_Mo_question_2 (by decide) ?_
  have hFc := va_free (wc := mw k a f g) hD hS hA [0, 1, 2, 3, 4, 5, 6, 7, 8, 9, 10, 11, 12, 13, 14, 15, 16, 17, 18] rfl
  refine va_calli (va_runV (As := [.int 1, .int 60]) (rest := []) ⟨hx, hb, hml, hown, htz⟩ (m_4 H.size) (cwV 2 htz (z_gV (fun _ h => h) km_Mo_109 in_Mo_number se_Mo_number ini_Mo m_Mo_number) rfl rfl rfl (by decide +kernel) ⟨(Nat.le_of_ble_eq_true rfl), (Nat.le_of_ble_eq_true rfl)⟩) ⟨z_blind, va_recv hK hP (ci := 4) (q0 := 0) rfl rfl, fun U hU hW => ⟨rfl, by rw [hU], hE.call hS hFc hU hW, by rw [hU]; exact hP, va_K.moved hW.alike hK, hD.weaken (fun _ _ _ _ => trivial)⟩⟩ rfl rfl hl.1 rfl (lv_room (Nat.le_of_ble_eq_true rfl)) d_Mo_question_4 ⟨(Nat.le_of_ble_eq_true rfl), (Nat.le_of_ble_eq_true rfl)⟩) hS (fun q _ h => hFc q h) hFc (fun r u t H1 locs ht hvm hw hB hz1 hk1 hS => ?_)
  obtain ⟨hP1, hK1, hD1⟩ := hB
  rw [ht] at hP1
  exact k_4 r _ _ hw H1 locs ls (lv_sub hl [0] rfl) hP1 (hD1.weaken (fun _ q _ h => hFc _ h)) hS
set_option maxHeartbeats 1000000 in
set_option maxRecDepth 100000 in
theorem k_Mo_question_7 {C : CT} (X : cM C "QuestionTextModel" b_Mo_question 5 none) (Post : FT → GT → Prop) {P_31 : FT → GT → Prop} (y0 : Int32) (f : FT) (g : GT)
    (k_34 : (0 ≤ f 6) → zn_question C Post 34 [(0, .ref (ad C.1 0)), (1, .int y0)] [] f g)
    (h_20 : (¬ 0 ≤ f 6) → vp_in (y0) 61)
    (k_34_1 : (¬ 0 ≤ f 6) → (g 13 (y0 : Int32).toNatClampNeg = 0) → zn_question C Post 34 [(0, .ref (ad C.1 0)), (1, .int y0)] [] f g)
    (m_31 : (¬ 0 ≤ f 6) → (¬ g 13 (y0 : Int32).toNatClampNeg = 0) → mV C.1 y_Mo_fail (Cond.code y_Mo_fail b_Mo_fail 2 none) 0 [.ref (ad C.1 0), .int ((f 5) - 1)] f g P_31)
    (k_31 : (¬ 0 ≤ f 6) → (¬ g 13 (y0 : Int32).toNatClampNeg = 0) → ∀ (f1 : FT) (g1 : GT), P_31 f1 g1 → zn_question C Post 34 [(0, .ref (ad C.1 0)), (1, .int y0)] [] f1 g1) : zn_question C Post 7 [(0, .ref (ad C.1 0))] [.int y0] f g := by
  obtain ⟨⟨l, dC, dI, k, a⟩, p, e, s, m, args, below, meth, c, A⟩ := C
  obtain ⟨hx, hb, hr, htz, hown, hlocks, hml, hE, hK, hA⟩ := X
  intro H locs ls hl hP hD hS
  have hl : lv_has ls 5 [(0, .ref (a 0))] := hl
  have hP : va_P (dC, dI) classes (mw k a f g) H := hP
  have hD : va_D A (mw k a f g) := hD
  show W p l e (z_rm 4 0 0) s m args below meth c H locs 0 0 _ (F0 m 7 ls [.int y0])
  refine lv_istore_n (lv' := [(1, .int y0), (0, .ref (a 0))]) hx hb d_Mo_question_7 rfl hl (by decide) rfl (fun ls hl => ?_)
  refine lv_aload_n hx hb d_Mo_question_8 rfl (lv_at hl 1 rfl) ?_
  refine va_get (D := (dC, dI)) (ci := 4) (v := .int (f 6)) (C := R_Mo) (T := F_Mo) (N := 31) hx hb htz i_Mo hown hK hP 0 rfl rfl 19 (by decide) (htz _ kf_Mo_86) (fun _ h9 => h9) rfl d_Mo_question_9 ?_
  refine lv_if_ge (tgt := 34) hx hb d_Mo_question_12 (by decide) (fun c_12 => ?_) (fun c_12 => ?_)
  · exact (k_34 c_12) H locs ls (lv_sub hl [1, 0] rfl) hP hD hS
  · refine lv_aload_n hx hb d_Mo_question_15 rfl (lv_at hl 1 rfl) ?_
    refine va_get (D := (dC, dI)) (ci := 4) (v := .ref (a 14)) (C := R_Mo) (T := F_Mo) (N := 31) hx hb htz i_Mo hown hK hP 0 rfl rfl 22 (by decide) (htz _ kf_Mo_54) (fun _ h9 => h9) rfl d_Mo_question_16 ?_
    refine lv_iload_n hx hb d_Mo_question_19 rfl (lv_at hl 0 rfl) ?_
    refine va_zald hx hb hK hP 14 2 rfl rfl (h_20 c_12) d_Mo_question_20 ?_
    refine lv_if_eq (tgt := 34) hx hb d_Mo_question_21 (by decide) (fun c_21 => ?_) (fun c_21 => ?_)
    · exact (k_34_1 c_12 c_21) H locs ls (lv_sub hl [1, 0] rfl) hP hD hS
    · refine lv_aload_n hx hb d_Mo_question_24 rfl (lv_at hl 1 rfl) ?_
      refine lv_aload_n hx hb d_Mo_question_25 rfl (lv_at hl 1 rfl) ?_
      refine va_get (D := (dC, dI)) (ci := 4) (v := .int (f 5)) (C := R_Mo) (T := F_Mo) (N := 31) hx hb htz i_Mo hown hK hP 0 rfl rfl 18 (by decide) (htz _ kf_Mo_79) (fun _ h9 => h9) rfl d_Mo_question_26 ?_
      refine lv_iconst (v := 1) hx hb d_Mo_question_29 (by decide) ?_
      refine lv_isub hx hb d_Mo_question_30 ?_
      have hFc := va_free (wc := mw k a f g) hD hS hA [0, 1, 2, 3, 4, 5, 6, 7, 8, 9, 10, 11, 12, 13, 14, 15, 16, 17, 18] rfl
      refine va_callv (va_runV (As := [.int ((f 5) - 1)]) (rest := []) ⟨hx, hb, hml, hown, htz⟩ ((m_31 c_12 c_21) H.size) (cwV 1 htz (z_gV (fun _ h => h) km_Mo_92 in_Mo_fail se_Mo_fail ini_Mo m_Mo_fail) rfl rfl rfl (by decide +kernel) ⟨(Nat.le_of_ble_eq_true rfl), (Nat.le_of_ble_eq_true rfl)⟩) ⟨z_blind, va_recv hK hP (ci := 4) (q0 := 0) rfl rfl, fun U hU hW => ⟨rfl, by rw [hU], hE.call hS hFc hU hW, by rw [hU]; exact hP, va_K.moved hW.alike hK, hD.weaken (fun _ _ _ _ => trivial)⟩⟩ rfl rfl hl.1 rfl (lv_room (Nat.le_of_ble_eq_true rfl)) d_Mo_question_31 ⟨(Nat.le_of_ble_eq_true rfl), (Nat.le_of_ble_eq_true rfl)⟩) hS (fun q _ h => hFc q h) hFc (fun u t H1 locs ht hvm hw hB hz1 hk1 hS => ?_)
      obtain ⟨hP1, hK1, hD1⟩ := hB
      rw [ht] at hP1
      exact (k_31 c_12 c_21) _ _ hw H1 locs ls (lv_sub hl [1, 0] rfl) hP1 (hD1.weaken (fun _ q _ h => hFc _ h)) hS
set_option maxHeartbeats 1000000 in
set_option maxRecDepth 100000 in
theorem k_Mo_question_34 {C : CT} (X : cM C "QuestionTextModel" b_Mo_question 5 none) (Post : FT → GT → Prop) {P_60 : Int32 → FT → GT → Prop} (x1 : Int32) (f : FT) (g : GT)
    (h_48 : (f 6 < 0) → vp_in (x1) 61)
    (m_60 : (f 6 < 0) → mI C.1 y_Mo_see (Cond.code y_Mo_see b_Mo_see 1 (some .int)) 1 [.ref (ad C.1 0)] f (va_up g 13 (upd (g 13) (x1 : Int32).toNatClampNeg (vp_nar .boolean 1))) P_60)
    (k_60 : (f 6 < 0) → ∀ (r : Int32) (f1 : FT) (g1 : GT), P_60 r f1 g1 → zn_question C Post 63 [(0, .ref (ad C.1 0)), (1, .int x1), (2, .int (((f 8) * 61) + x1))] [.int r] f1 g1)
    (q_41 : (¬ f 6 < 0) → Post f g) : zn_question C Post 34 [(0, .ref (ad C.1 0)), (1, .int x1)] [] f g := by
  obtain ⟨⟨l, dC, dI, k, a⟩, p, e, s, m, args, below, meth, c, A⟩ := C
  obtain ⟨hx, hb, hr, htz, hown, hlocks, hml, hE, hK, hA⟩ := X
  intro H locs ls hl hP hD hS
  have hl : lv_has ls 5 [(0, .ref (a 0)), (1, .int x1)] := hl
  have hP : va_P (dC, dI) classes (mw k a f g) H := hP
  have hD : va_D A (mw k a f g) := hD
  show W p l e (z_rm 4 0 0) s m args below meth c H locs 0 0 _ (F0 m 34 ls [])
  refine lv_aload_n hx hb d_Mo_question_34 rfl (lv_at hl 0 rfl) ?_
  refine va_get (D := (dC, dI)) (ci := 4) (v := .int (f 6)) (C := R_Mo) (T := F_Mo) (N := 31) hx hb htz i_Mo hown hK hP 0 rfl rfl 19 (by decide) (htz _ kf_Mo_86) (fun _ h9 => h9) rfl d_Mo_question_35 ?_
  refine lv_if_lt (tgt := 42) hx hb d_Mo_question_38 (by decide) (fun c_38 => ?_) (fun c_38 => ?_)
  · refine lv_aload_n hx hb d_Mo_question_42 rfl (lv_at hl 0 rfl) ?_
    refine va_get (D := (dC, dI)) (ci := 4) (v := .ref (a 14)) (C := R_Mo) (T := F_Mo) (N := 31) hx hb htz i_Mo hown hK hP 0 rfl rfl 22 (by decide) (htz _ kf_Mo_54) (fun _ h9 => h9) rfl d_Mo_question_43 ?_
    refine lv_iload_n hx hb d_Mo_question_46 rfl (lv_at hl 1 rfl) ?_
    refine lv_iconst (v := 1) hx hb d_Mo_question_47 (by decide) ?_
    refine va_zast hx hb hK hP hD hS 14 2 rfl rfl (h_48 c_38) d_Mo_question_48 (fun H locs hP hD hS => ?_)
    replace hP := mg_13 (c := upd (g 13) (x1 : Int32).toNatClampNeg (vp_nar .boolean 1)) hP
    replace hD := mh_13 (c := upd (g 13) (x1 : Int32).toNatClampNeg (vp_nar .boolean 1)) hD
    refine lv_aload_n hx hb d_Mo_question_49 rfl (lv_at hl 0 rfl) ?_
    refine va_get (D := (dC, dI)) (ci := 4) (v := .int (f 8)) (C := R_Mo) (T := F_Mo) (N := 31) hx hb htz i_Mo hown hK hP 0 rfl rfl 21 (by decide) (htz _ kf_Mo_106) (fun _ h9 => h9) rfl d_Mo_question_50 ?_
    refine lv_bipush (v := 61) hx hb d_Mo_question_53 (by decide) ?_
    refine lv_imul hx hb d_Mo_question_55 ?_
    refine lv_iload_n hx hb d_Mo_question_56 rfl (lv_at hl 1 rfl) ?_
    refine lv_iadd hx hb d_Mo_question_57 ?_
    refine lv_istore_n (lv' := [(2, .int (((f 8) * 61) + x1)), (0, .ref (a 0)), (1, .int x1)]) hx hb d_Mo_question_58 rfl hl (by decide) rfl (fun ls hl => ?_)
    refine lv_aload_n hx hb d_Mo_question_59 rfl (lv_at hl 1 rfl) ?_
    have hFc := va_free (wc := mw k a f (va_up g 13 (upd (g 13) (x1 : Int32).toNatClampNeg (vp_nar .boolean 1)))) hD hS hA [0, 1, 2, 3, 4, 5, 6, 7, 8, 9, 10, 11, 12, 13, 14, 15, 16, 17, 18] rfl
    refine va_calli (va_runV (As := []) (rest := []) ⟨hx, hb, hml, hown, htz⟩ ((m_60 c_38) H.size) (cwV 0 htz (z_gV (fun _ h => h) km_Mo_89 in_Mo_see se_Mo_see ini_Mo m_Mo_see) rfl rfl rfl (by decide +kernel) ⟨(Nat.le_of_ble_eq_true rfl), (Nat.le_of_ble_eq_true rfl)⟩) ⟨z_blind, va_recv hK hP (ci := 4) (q0 := 0) rfl rfl, fun U hU hW => ⟨rfl, by rw [hU], hE.call hS hFc hU hW, by rw [hU]; exact hP, va_K.moved hW.alike hK, hD.weaken (fun _ _ _ _ => trivial)⟩⟩ rfl rfl hl.1 rfl (lv_room (Nat.le_of_ble_eq_true rfl)) d_Mo_question_60 ⟨(Nat.le_of_ble_eq_true rfl), (Nat.le_of_ble_eq_true rfl)⟩) hS (fun q _ h => hFc q h) hFc (fun r u t H1 locs ht hvm hw hB hz1 hk1 hS => ?_)
    obtain ⟨hP1, hK1, hD1⟩ := hB
    rw [ht] at hP1
    exact (k_60 c_38) r _ _ hw H1 locs ls (lv_sub hl [1, 2, 0] rfl) hP1 (hD1.weaken (fun _ q _ h => hFc _ h)) hS
  · exact W.vret hx hb hr (fun t ht hW => ⟨⟨(f, g), rfl, (q_41 c_38), by rw [ht]; exact hP, va_K.moved hW.alike hK, hD⟩, hS.F ht⟩) hS.2.2 d_Mo_question_41
set_option maxHeartbeats 1000000 in
set_option maxRecDepth 100000 in
theorem k_Mo_question_63 {C : CT} (X : cM C "QuestionTextModel" b_Mo_question 5 none) (Post : FT → GT → Prop) {P_81 : FT → GT → Prop} (x1 : Int32) (x2 : Int32) (y0 : Int32) (f : FT) (g : GT)
    (k_84 : (y0 = 33) → zn_question C Post 84 [(0, .ref (ad C.1 0)), (1, .int x1), (2, .int x2), (3, .int y0)] [] f g)
    (k_84_1 : (¬ y0 = 33) → (y0 = 63) → zn_question C Post 84 [(0, .ref (ad C.1 0)), (1, .int x1), (2, .int x2), (3, .int y0)] [] f g)
    (m_81 : (¬ y0 = 33) → (¬ y0 = 63) → mV C.1 y_Mo_fail (Cond.code y_Mo_fail b_Mo_fail 2 none) 0 [.ref (ad C.1 0), .int (f 5)] f g P_81)
    (k_81 : (¬ y0 = 33) → (¬ y0 = 63) → ∀ (f1 : FT) (g1 : GT), P_81 f1 g1 → zn_question C Post 84 [(0, .ref (ad C.1 0)), (1, .int x1), (2, .int x2), (3, .int y0)] [] f1 g1) : zn_question C Post 63 [(0, .ref (ad C.1 0)), (1, .int x1), (2, .int x2)] [.int y0] f g := by
  obtain ⟨⟨l, dC, dI, k, a⟩, p, e, s, m, args, below, meth, c, A⟩ := C
  obtain ⟨hx, hb, hr, htz, hown, hlocks, hml, hE, hK, hA⟩ := X
  intro H locs ls hl hP hD hS
  have hl : lv_has ls 5 [(0, .ref (a 0)), (1, .int x1), (2, .int x2)] := hl
  have hP : va_P (dC, dI) classes (mw k a f g) H := hP
  have hD : va_D A (mw k a f g) := hD
  show W p l e (z_rm 4 0 0) s m args below meth c H locs 0 0 _ (F0 m 63 ls [.int y0])
  refine lv_istore_n (lv' := [(3, .int y0), (0, .ref (a 0)), (1, .int x1), (2, .int x2)]) hx hb d_Mo_question_63 rfl hl (by decide) rfl (fun ls hl => ?_)
  refine lv_iload_n hx hb d_Mo_question_64 rfl (lv_at hl 0 rfl) ?_
  refine lv_bipush (v := 33) hx hb d_Mo_question_65 (by decide) ?_
  refine lv_icmp_eq (tgt := 84) hx hb d_Mo_question_67 (by decide) (fun c_67 => ?_) (fun c_67 => ?_)
  · exact (k_84 c_67) H locs ls (lv_sub hl [1, 2, 3, 0] rfl) hP hD hS
  · refine lv_iload_n hx hb d_Mo_question_70 rfl (lv_at hl 0 rfl) ?_
    refine lv_bipush (v := 63) hx hb d_Mo_question_71 (by decide) ?_
    refine lv_icmp_eq (tgt := 84) hx hb d_Mo_question_73 (by decide) (fun c_73 => ?_) (fun c_73 => ?_)
    · exact (k_84_1 c_67 c_73) H locs ls (lv_sub hl [1, 2, 3, 0] rfl) hP hD hS
    · refine lv_aload_n hx hb d_Mo_question_76 rfl (lv_at hl 1 rfl) ?_
      refine lv_aload_n hx hb d_Mo_question_77 rfl (lv_at hl 1 rfl) ?_
      refine va_get (D := (dC, dI)) (ci := 4) (v := .int (f 5)) (C := R_Mo) (T := F_Mo) (N := 31) hx hb htz i_Mo hown hK hP 0 rfl rfl 18 (by decide) (htz _ kf_Mo_79) (fun _ h9 => h9) rfl d_Mo_question_78 ?_
      have hFc := va_free (wc := mw k a f g) hD hS hA [0, 1, 2, 3, 4, 5, 6, 7, 8, 9, 10, 11, 12, 13, 14, 15, 16, 17, 18] rfl
      refine va_callv (va_runV (As := [.int (f 5)]) (rest := []) ⟨hx, hb, hml, hown, htz⟩ ((m_81 c_67 c_73) H.size) (cwV 1 htz (z_gV (fun _ h => h) km_Mo_92 in_Mo_fail se_Mo_fail ini_Mo m_Mo_fail) rfl rfl rfl (by decide +kernel) ⟨(Nat.le_of_ble_eq_true rfl), (Nat.le_of_ble_eq_true rfl)⟩) ⟨z_blind, va_recv hK hP (ci := 4) (q0 := 0) rfl rfl, fun U hU hW => ⟨rfl, by rw [hU], hE.call hS hFc hU hW, by rw [hU]; exact hP, va_K.moved hW.alike hK, hD.weaken (fun _ _ _ _ => trivial)⟩⟩ rfl rfl hl.1 rfl (lv_room (Nat.le_of_ble_eq_true rfl)) d_Mo_question_81 ⟨(Nat.le_of_ble_eq_true rfl), (Nat.le_of_ble_eq_true rfl)⟩) hS (fun q _ h => hFc q h) hFc (fun u t H1 locs ht hvm hw hB hz1 hk1 hS => ?_)
      obtain ⟨hP1, hK1, hD1⟩ := hB
      rw [ht] at hP1
      exact (k_81 c_67 c_73) _ _ hw H1 locs ls (lv_sub hl [1, 2, 3, 0] rfl) hP1 (hD1.weaken (fun _ q _ h => hFc _ h)) hS
set_option maxHeartbeats 1000000 in
set_option maxRecDepth 100000 in
theorem k_Mo_question_84 {C : CT} (X : cM C "QuestionTextModel" b_Mo_question 5 none) (Post : FT → GT → Prop) (x1 : Int32) (x2 : Int32) (x3 : Int32) (f : FT) (g : GT)
    (h_100 : vp_in (x2) 610)
    (k_117 : (¬ x3 = 33) → zn_question C Post 117 [(0, .ref (ad C.1 0)), (1, .int x1), (2, .int x2), (3, .int x3)] [.int 0, .int x2, .ref (ad C.1 3)] (va_up f 5 ((f 5) + 1)) (va_up g 1 (upd (g 1) (x2 : Int32).toNatClampNeg (vp_nar .boolean 1))))
    (k_117_1 : (x3 = 33) → zn_question C Post 117 [(0, .ref (ad C.1 0)), (1, .int x1), (2, .int x2), (3, .int x3)] [.int 1, .int x2, .ref (ad C.1 3)] (va_up f 5 ((f 5) + 1)) (va_up g 1 (upd (g 1) (x2 : Int32).toNatClampNeg (vp_nar .boolean 1)))) : zn_question C Post 84 [(0, .ref (ad C.1 0)), (1, .int x1), (2, .int x2), (3, .int x3)] [] f g := by
  obtain ⟨⟨l, dC, dI, k, a⟩, p, e, s, m, args, below, meth, c, A⟩ := C
  obtain ⟨hx, hb, hr, htz, hown, hlocks, hml, hE, hK, hA⟩ := X
  intro H locs ls hl hP hD hS
  have hl : lv_has ls 5 [(0, .ref (a 0)), (1, .int x1), (2, .int x2), (3, .int x3)] := hl
  have hP : va_P (dC, dI) classes (mw k a f g) H := hP
  have hD : va_D A (mw k a f g) := hD
  show W p l e (z_rm 4 0 0) s m args below meth c H locs 0 0 _ (F0 m 84 ls [])
  refine lv_aload_n hx hb d_Mo_question_84 rfl (lv_at hl 0 rfl) ?_
  refine lv_dup hx hb d_Mo_question_85 rfl ?_
  refine va_get (D := (dC, dI)) (ci := 4) (v := .int (f 5)) (C := R_Mo) (T := F_Mo) (N := 31) hx hb htz i_Mo hown hK hP 0 rfl rfl 18 (by decide) (htz _ kf_Mo_79) (fun _ h9 => h9) rfl d_Mo_question_86 ?_
  refine lv_iconst (v := 1) hx hb d_Mo_question_89 (by decide) ?_
  refine lv_iadd hx hb d_Mo_question_90 ?_
  refine va_put (D := (dC, dI)) (ci := 4) (v := .int ((f 5) + 1)) (ty := .int) (C := R_Mo) (T := F_Mo) (N := 31) hx hb htz i_Mo t_Mo o_Mo n_Mo hown hK hP hD hS 0 rfl rfl 18 (by decide) (htz _ kf_Mo_79) (fun _ h9 => h9) rfl (by decide +kernel) rfl rfl (Nat.le_of_ble_eq_true rfl) d_Mo_question_91 (fun H locs hP hD hS => ?_)
  replace hP := mf_5 (v := (f 5) + 1) hP
  replace hD := md_5 (v := (f 5) + 1) hD
  refine lv_aload_n hx hb d_Mo_question_94 rfl (lv_at hl 0 rfl) ?_
  refine va_get (D := (dC, dI)) (ci := 4) (v := .ref (a 2)) (C := R_Mo) (T := F_Mo) (N := 31) hx hb htz i_Mo hown hK hP 0 rfl rfl 6 (by decide) (htz _ kf_Mo_17) (fun _ h9 => h9) rfl d_Mo_question_95 ?_
  refine lv_iload_n hx hb d_Mo_question_98 rfl (lv_at hl 2 rfl) ?_
  refine lv_iconst (v := 1) hx hb d_Mo_question_99 (by decide) ?_
  refine va_zast hx hb hK hP hD hS 2 2 rfl rfl h_100 d_Mo_question_100 (fun H locs hP hD hS => ?_)
  replace hP := mg_1 (c := upd (g 1) (x2 : Int32).toNatClampNeg (vp_nar .boolean 1)) hP
  replace hD := mh_1 (c := upd (g 1) (x2 : Int32).toNatClampNeg (vp_nar .boolean 1)) hD
  refine lv_aload_n hx hb d_Mo_question_101 rfl (lv_at hl 0 rfl) ?_
  refine va_get (D := (dC, dI)) (ci := 4) (v := .ref (a 3)) (C := R_Mo) (T := F_Mo) (N := 31) hx hb htz i_Mo hown hK hP 0 rfl rfl 7 (by decide) (htz _ kf_Mo_21) (fun _ h9 => h9) rfl d_Mo_question_102 ?_
  refine lv_iload_n hx hb d_Mo_question_105 rfl (lv_at hl 2 rfl) ?_
  refine lv_iload_n hx hb d_Mo_question_106 rfl (lv_at hl 3 rfl) ?_
  refine lv_bipush (v := 33) hx hb d_Mo_question_107 (by decide) ?_
  refine lv_icmp_ne (tgt := 116) hx hb d_Mo_question_109 (by decide) (fun c_109 => ?_) (fun c_109 => ?_)
  · refine lv_iconst (v := 0) hx hb d_Mo_question_116 (by decide) ?_
    exact (k_117 c_109) H locs ls (lv_sub hl [0, 1, 2, 3] rfl) hP hD hS
  · refine lv_iconst (v := 1) hx hb d_Mo_question_112 (by decide) ?_
    refine lv_goto (tgt := 117) hx hb d_Mo_question_113 (by decide) ?_
    exact (k_117_1 c_109) H locs ls (lv_sub hl [0, 1, 2, 3] rfl) hP hD hS
set_option maxHeartbeats 1000000 in
set_option maxRecDepth 100000 in
theorem k_Mo_question_117 {C : CT} (X : cM C "QuestionTextModel" b_Mo_question 5 none) (Post : FT → GT → Prop) {P_128 : Int32 → FT → GT → Prop} (x1 : Int32) (x2 : Int32) (x3 : Int32) (y0 : Int32) (y1 : Int32) (f : FT) (g : GT)
    (h_117 : vp_in (y1) 610)
    (m_128 : mI C.1 y_Mo_number (Cond.code y_Mo_number b_Mo_number 4 (some .int)) 2 [.ref (ad C.1 0), .int 0, .int 9999] f (va_up g 2 (upd (g 2) (y1 : Int32).toNatClampNeg (vp_nar .boolean y0))) P_128)
    (k_128 : ∀ (r : Int32) (f1 : FT) (g1 : GT), P_128 r f1 g1 → zn_question C Post 131 [(0, .ref (ad C.1 0)), (1, .int x1), (2, .int x2), (3, .int x3)] [.int r, .int x2, .ref (ad C.1 4)] f1 g1) : zn_question C Post 117 [(0, .ref (ad C.1 0)), (1, .int x1), (2, .int x2), (3, .int x3)] [.int y0, .int y1, .ref (ad C.1 3)] f g := by
  obtain ⟨⟨l, dC, dI, k, a⟩, p, e, s, m, args, below, meth, c, A⟩ := C
  obtain ⟨hx, hb, hr, htz, hown, hlocks, hml, hE, hK, hA⟩ := X
  intro H locs ls hl hP hD hS
  have hl : lv_has ls 5 [(0, .ref (a 0)), (1, .int x1), (2, .int x2), (3, .int x3)] := hl
  have hP : va_P (dC, dI) classes (mw k a f g) H := hP
  have hD : va_D A (mw k a f g) := hD
  show W p l e (z_rm 4 0 0) s m args below meth c H locs 0 0 _ (F0 m 117 ls [.int y0, .int y1, .ref (a 3)])
  refine va_zast hx hb hK hP hD hS 3 2 rfl rfl h_117 d_Mo_question_117 (fun H locs hP hD hS => ?_)
  replace hP := mg_2 (c := upd (g 2) (y1 : Int32).toNatClampNeg (vp_nar .boolean y0)) hP
  replace hD := mh_2 (c := upd (g 2) (y1 : Int32).toNatClampNeg (vp_nar .boolean y0)) hD
  refine lv_aload_n hx hb d_Mo_question_118 rfl (lv_at hl 0 rfl) ?_
  refine va_get (D := (dC, dI)) (ci := 4) (v := .ref (a 4)) (C := R_Mo) (T := F_Mo) (N := 31) hx hb htz i_Mo hown hK hP 0 rfl rfl 8 (by decide) (htz _ kf_Mo_24) (fun _ h9 => h9) rfl d_Mo_question_119 ?_
  refine lv_iload_n hx hb d_Mo_question_122 rfl (lv_at hl 2 rfl) ?_
  refine lv_aload_n hx hb d_Mo_question_123 rfl (lv_at hl 0 rfl) ?_
  refine lv_iconst (v := 0) hx hb d_Mo_question_124 (by decide) ?_
  refine lv_sipush (v := 9999) hx hb d_Mo_question_125 (by decide) ?_
  have hFc := va_free (wc := mw k a f (va_up g 2 (upd (g 2) (y1 : Int32).toNatClampNeg (vp_nar .boolean y0)))) hD hS hA [0, 1, 2, 3, 4, 5, 6, 7, 8, 9, 10, 11, 12, 13, 14, 15, 16, 17, 18] rfl
  refine va_calli (va_runV (As := [.int 0, .int 9999]) (rest := [.int x2, .ref (a 4)]) ⟨hx, hb, hml, hown, htz⟩ (m_128 H.size) (cwV 2 htz (z_gV (fun _ h => h) km_Mo_109 in_Mo_number se_Mo_number ini_Mo m_Mo_number) rfl rfl rfl (by decide +kernel) ⟨(Nat.le_of_ble_eq_true rfl), (Nat.le_of_ble_eq_true rfl)⟩) ⟨z_blind, va_recv hK hP (ci := 4) (q0 := 0) rfl rfl, fun U hU hW => ⟨rfl, by rw [hU], hE.call hS hFc hU hW, by rw [hU]; exact hP, va_K.moved hW.alike hK, hD.weaken (fun _ _ _ _ => trivial)⟩⟩ rfl rfl hl.1 rfl (lv_room (Nat.le_of_ble_eq_true rfl)) d_Mo_question_128 ⟨(Nat.le_of_ble_eq_true rfl), (Nat.le_of_ble_eq_true rfl)⟩) hS (fun q _ h => hFc q h) hFc (fun r u t H1 locs ht hvm hw hB hz1 hk1 hS => ?_)
  obtain ⟨hP1, hK1, hD1⟩ := hB
  rw [ht] at hP1
  exact k_128 r _ _ hw H1 locs ls (lv_sub hl [0, 1, 2, 3] rfl) hP1 (hD1.weaken (fun _ q _ h => hFc _ h)) hS
set_option maxHeartbeats 1000000 in
set_option maxRecDepth 100000 in
theorem k_Mo_question_131 {C : CT} (X : cM C "QuestionTextModel" b_Mo_question 5 none) (Post : FT → GT → Prop) {P_135 : FT → GT → Prop} (x1 : Int32) (x2 : Int32) (x3 : Int32) (y0 : Int32) (y1 : Int32) (f : FT) (g : GT)
    (h_131 : vp_in (y1) 610)
    (m_135 : mV C.1 y_Mo_take (Cond.code y_Mo_take b_Mo_take 2 none) 2 [.ref (ad C.1 0), .int 45] f (va_up g 3 (upd (g 3) (y1 : Int32).toNatClampNeg y0)) P_135)
    (k_135 : ∀ (f1 : FT) (g1 : GT), P_135 f1 g1 → zn_question C Post 138 [(0, .ref (ad C.1 0)), (1, .int x1), (2, .int x2), (3, .int x3)] [] f1 g1) : zn_question C Post 131 [(0, .ref (ad C.1 0)), (1, .int x1), (2, .int x2), (3, .int x3)] [.int y0, .int y1, .ref (ad C.1 4)] f g := by
  obtain ⟨⟨l, dC, dI, k, a⟩, p, e, s, m, args, below, meth, c, A⟩ := C
  obtain ⟨hx, hb, hr, htz, hown, hlocks, hml, hE, hK, hA⟩ := X
  intro H locs ls hl hP hD hS
  have hl : lv_has ls 5 [(0, .ref (a 0)), (1, .int x1), (2, .int x2), (3, .int x3)] := hl
  have hP : va_P (dC, dI) classes (mw k a f g) H := hP
  have hD : va_D A (mw k a f g) := hD
  show W p l e (z_rm 4 0 0) s m args below meth c H locs 0 0 _ (F0 m 131 ls [.int y0, .int y1, .ref (a 4)])
  refine va_iast hx hb hK hP hD hS 4 0 rfl rfl h_131 d_Mo_question_131 (fun H locs hP hD hS => ?_)
  replace hP := mg_3 (c := upd (g 3) (y1 : Int32).toNatClampNeg y0) hP
  replace hD := mh_3 (c := upd (g 3) (y1 : Int32).toNatClampNeg y0) hD
  refine lv_aload_n hx hb d_Mo_question_132 rfl (lv_at hl 0 rfl) ?_
  refine lv_bipush (v := 45) hx hb d_Mo_question_133 (by decide) ?_
  have hFc := va_free (wc := mw k a f (va_up g 3 (upd (g 3) (y1 : Int32).toNatClampNeg y0))) hD hS hA [0, 1, 2, 3, 4, 5, 6, 7, 8, 9, 10, 11, 12, 13, 14, 15, 16, 17, 18] rfl
  refine va_callv (va_runV (As := [.int 45]) (rest := []) ⟨hx, hb, hml, hown, htz⟩ (m_135 H.size) (cwV 1 htz (z_gV (fun _ h => h) km_Mo_103 in_Mo_take se_Mo_take ini_Mo m_Mo_take) rfl rfl rfl (by decide +kernel) ⟨(Nat.le_of_ble_eq_true rfl), (Nat.le_of_ble_eq_true rfl)⟩) ⟨z_blind, va_recv hK hP (ci := 4) (q0 := 0) rfl rfl, fun U hU hW => ⟨rfl, by rw [hU], hE.call hS hFc hU hW, by rw [hU]; exact hP, va_K.moved hW.alike hK, hD.weaken (fun _ _ _ _ => trivial)⟩⟩ rfl rfl hl.1 rfl (lv_room (Nat.le_of_ble_eq_true rfl)) d_Mo_question_135 ⟨(Nat.le_of_ble_eq_true rfl), (Nat.le_of_ble_eq_true rfl)⟩) hS (fun q _ h => hFc q h) hFc (fun u t H1 locs ht hvm hw hB hz1 hk1 hS => ?_)
  obtain ⟨hP1, hK1, hD1⟩ := hB
  rw [ht] at hP1
  exact k_135 _ _ hw H1 locs ls (lv_sub hl [0, 1, 2, 3] rfl) hP1 (hD1.weaken (fun _ q _ h => hFc _ h)) hS
set_option maxHeartbeats 1000000 in
set_option maxRecDepth 100000 in
theorem k_Mo_question_138 {C : CT} (X : cM C "QuestionTextModel" b_Mo_question 5 none) (Post : FT → GT → Prop) {P_153 : Int32 → FT → GT → Prop} (x1 : Int32) (x2 : Int32) (x3 : Int32) (f : FT) (g : GT)
    (h_149 : vp_in (x2) 610)
    (m_153 : mI C.1 y_Mo_number (Cond.code y_Mo_number b_Mo_number 4 (some .int)) 2 [.ref (ad C.1 0), .int (g 3 (x2 : Int32).toNatClampNeg), .int 9999] f g P_153)
    (k_153 : ∀ (r : Int32) (f1 : FT) (g1 : GT), P_153 r f1 g1 → zn_question C Post 156 [(0, .ref (ad C.1 0)), (1, .int x1), (2, .int x2), (3, .int x3)] [.int r, .int x2, .ref (ad C.1 5)] f1 g1) : zn_question C Post 138 [(0, .ref (ad C.1 0)), (1, .int x1), (2, .int x2), (3, .int x3)] [] f g := by
  obtain ⟨⟨l, dC, dI, k, a⟩, p, e, s, m, args, below, meth, c, A⟩ := C
  obtain ⟨hx, hb, hr, htz, hown, hlocks, hml, hE, hK, hA⟩ := X
  intro H locs ls hl hP hD hS
  have hl : lv_has ls 5 [(0, .ref (a 0)), (1, .int x1), (2, .int x2), (3, .int x3)] := hl
  have hP : va_P (dC, dI) classes (mw k a f g) H := hP
  have hD : va_D A (mw k a f g) := hD
  show W p l e (z_rm 4 0 0) s m args below meth c H locs 0 0 _ (F0 m 138 ls [])
  refine lv_aload_n hx hb d_Mo_question_138 rfl (lv_at hl 0 rfl) ?_
  refine va_get (D := (dC, dI)) (ci := 4) (v := .ref (a 5)) (C := R_Mo) (T := F_Mo) (N := 31) hx hb htz i_Mo hown hK hP 0 rfl rfl 9 (by decide) (htz _ kf_Mo_27) (fun _ h9 => h9) rfl d_Mo_question_139 ?_
  refine lv_iload_n hx hb d_Mo_question_142 rfl (lv_at hl 2 rfl) ?_
  refine lv_aload_n hx hb d_Mo_question_143 rfl (lv_at hl 0 rfl) ?_
  refine lv_aload_n hx hb d_Mo_question_144 rfl (lv_at hl 0 rfl) ?_
  refine va_get (D := (dC, dI)) (ci := 4) (v := .ref (a 4)) (C := R_Mo) (T := F_Mo) (N := 31) hx hb htz i_Mo hown hK hP 0 rfl rfl 8 (by decide) (htz _ kf_Mo_24) (fun _ h9 => h9) rfl d_Mo_question_145 ?_
  refine lv_iload_n hx hb d_Mo_question_148 rfl (lv_at hl 2 rfl) ?_
  refine va_iald hx hb hK hP 4 0 rfl rfl h_149 d_Mo_question_149 ?_
  refine lv_sipush (v := 9999) hx hb d_Mo_question_150 (by decide) ?_
  have hFc := va_free (wc := mw k a f g) hD hS hA [0, 1, 2, 3, 4, 5, 6, 7, 8, 9, 10, 11, 12, 13, 14, 15, 16, 17, 18] rfl
  refine va_calli (va_runV (As := [.int (g 3 (x2 : Int32).toNatClampNeg), .int 9999]) (rest := [.int x2, .ref (a 5)]) ⟨hx, hb, hml, hown, htz⟩ (m_153 H.size) (cwV 2 htz (z_gV (fun _ h => h) km_Mo_109 in_Mo_number se_Mo_number ini_Mo m_Mo_number) rfl rfl rfl (by decide +kernel) ⟨(Nat.le_of_ble_eq_true rfl), (Nat.le_of_ble_eq_true rfl)⟩) ⟨z_blind, va_recv hK hP (ci := 4) (q0 := 0) rfl rfl, fun U hU hW => ⟨rfl, by rw [hU], hE.call hS hFc hU hW, by rw [hU]; exact hP, va_K.moved hW.alike hK, hD.weaken (fun _ _ _ _ => trivial)⟩⟩ rfl rfl hl.1 rfl (lv_room (Nat.le_of_ble_eq_true rfl)) d_Mo_question_153 ⟨(Nat.le_of_ble_eq_true rfl), (Nat.le_of_ble_eq_true rfl)⟩) hS (fun q _ h => hFc q h) hFc (fun r u t H1 locs ht hvm hw hB hz1 hk1 hS => ?_)
  obtain ⟨hP1, hK1, hD1⟩ := hB
  rw [ht] at hP1
  exact k_153 r _ _ hw H1 locs ls (lv_sub hl [0, 1, 2, 3] rfl) hP1 (hD1.weaken (fun _ q _ h => hFc _ h)) hS
set_option maxHeartbeats 1000000 in
set_option maxRecDepth 100000 in
theorem k_Mo_question_156 {C : CT} (X : cM C "QuestionTextModel" b_Mo_question 5 none) (Post : FT → GT → Prop) {P_160 : FT → GT → Prop} (x1 : Int32) (x2 : Int32) (x3 : Int32) (y0 : Int32) (y1 : Int32) (f : FT) (g : GT)
    (h_156 : vp_in (y1) 610)
    (m_160 : mV C.1 y_Mo_words (Cond.code y_Mo_words b_Mo_words 5 none) 3 [.ref (ad C.1 0), .int x1, .int 0] f (va_up g 4 (upd (g 4) (y1 : Int32).toNatClampNeg y0)) P_160)
    (k_160 : ∀ (f1 : FT) (g1 : GT), P_160 f1 g1 → zn_question C Post 163 [(0, .ref (ad C.1 0)), (1, .int x1), (2, .int x2), (3, .int x3)] [] f1 g1) : zn_question C Post 156 [(0, .ref (ad C.1 0)), (1, .int x1), (2, .int x2), (3, .int x3)] [.int y0, .int y1, .ref (ad C.1 5)] f g := by
  obtain ⟨⟨l, dC, dI, k, a⟩, p, e, s, m, args, below, meth, c, A⟩ := C
  obtain ⟨hx, hb, hr, htz, hown, hlocks, hml, hE, hK, hA⟩ := X
  intro H locs ls hl hP hD hS
  have hl : lv_has ls 5 [(0, .ref (a 0)), (1, .int x1), (2, .int x2), (3, .int x3)] := hl
  have hP : va_P (dC, dI) classes (mw k a f g) H := hP
  have hD : va_D A (mw k a f g) := hD
  show W p l e (z_rm 4 0 0) s m args below meth c H locs 0 0 _ (F0 m 156 ls [.int y0, .int y1, .ref (a 5)])
  refine va_iast hx hb hK hP hD hS 5 0 rfl rfl h_156 d_Mo_question_156 (fun H locs hP hD hS => ?_)
  replace hP := mg_4 (c := upd (g 4) (y1 : Int32).toNatClampNeg y0) hP
  replace hD := mh_4 (c := upd (g 4) (y1 : Int32).toNatClampNeg y0) hD
  refine lv_aload_n hx hb d_Mo_question_157 rfl (lv_at hl 0 rfl) ?_
  refine lv_iload_n hx hb d_Mo_question_158 rfl (lv_at hl 1 rfl) ?_
  refine lv_iconst (v := 0) hx hb d_Mo_question_159 (by decide) ?_
  have hFc := va_free (wc := mw k a f (va_up g 4 (upd (g 4) (y1 : Int32).toNatClampNeg y0))) hD hS hA [0, 1, 2, 3, 4, 5, 6, 7, 8, 9, 10, 11, 12, 13, 14, 15, 16, 17, 18] rfl
  refine va_callv (va_runV (As := [.int x1, .int 0]) (rest := []) ⟨hx, hb, hml, hown, htz⟩ (m_160 H.size) (cwV 2 htz (z_gV (fun _ h => h) km_Mo_113 in_Mo_words se_Mo_words ini_Mo m_Mo_words) rfl rfl rfl (by decide +kernel) ⟨(Nat.le_of_ble_eq_true rfl), (Nat.le_of_ble_eq_true rfl)⟩) ⟨z_blind, va_recv hK hP (ci := 4) (q0 := 0) rfl rfl, fun U hU hW => ⟨rfl, by rw [hU], hE.call hS hFc hU hW, by rw [hU]; exact hP, va_K.moved hW.alike hK, hD.weaken (fun _ _ _ _ => trivial)⟩⟩ rfl rfl hl.1 rfl (lv_room (Nat.le_of_ble_eq_true rfl)) d_Mo_question_160 ⟨(Nat.le_of_ble_eq_true rfl), (Nat.le_of_ble_eq_true rfl)⟩) hS (fun q _ h => hFc q h) hFc (fun u t H1 locs ht hvm hw hB hz1 hk1 hS => ?_)
  obtain ⟨hP1, hK1, hD1⟩ := hB
  rw [ht] at hP1
  exact k_160 _ _ hw H1 locs ls (lv_sub hl [0, 1, 2, 3] rfl) hP1 (hD1.weaken (fun _ q _ h => hFc _ h)) hS
set_option maxHeartbeats 1000000 in
set_option maxRecDepth 100000 in
theorem k_Mo_question_163 {C : CT} (X : cM C "QuestionTextModel" b_Mo_question 5 none) (Post : FT → GT → Prop) {P_182 : Int32 → FT → GT → Prop} (x1 : Int32) (x2 : Int32) (x3 : Int32) (f : FT) (g : GT)
    (h_173 : vp_in ((2 * x2) + 1) 1220)
    (k_196 : (0 ≤ f 6) → zn_question C Post 196 [(0, .ref (ad C.1 0)), (1, .int x1), (2, .int x2), (3, .int x3)] [] f (va_up g 5 (upd (g 5) ((2 * x2) + 1 : Int32).toNatClampNeg 0)))
    (m_182 : (¬ 0 ≤ f 6) → mI C.1 y_Mo_see (Cond.code y_Mo_see b_Mo_see 1 (some .int)) 1 [.ref (ad C.1 0)] f (va_up g 5 (upd (g 5) ((2 * x2) + 1 : Int32).toNatClampNeg 0)) P_182)
    (k_182 : (¬ 0 ≤ f 6) → ∀ (r : Int32) (f1 : FT) (g1 : GT), P_182 r f1 g1 → zn_question C Post 185 [(0, .ref (ad C.1 0)), (1, .int x1), (2, .int x2), (3, .int x3)] [.int r] f1 g1) : zn_question C Post 163 [(0, .ref (ad C.1 0)), (1, .int x1), (2, .int x2), (3, .int x3)] [] f g := by
  obtain ⟨⟨l, dC, dI, k, a⟩, p, e, s, m, args, below, meth, c, A⟩ := C
  obtain ⟨hx, hb, hr, htz, hown, hlocks, hml, hE, hK, hA⟩ := X
  intro H locs ls hl hP hD hS
  have hl : lv_has ls 5 [(0, .ref (a 0)), (1, .int x1), (2, .int x2), (3, .int x3)] := hl
  have hP : va_P (dC, dI) classes (mw k a f g) H := hP
  have hD : va_D A (mw k a f g) := hD
  show W p l e (z_rm 4 0 0) s m args below meth c H locs 0 0 _ (F0 m 163 ls [])
  refine lv_aload_n hx hb d_Mo_question_163 rfl (lv_at hl 0 rfl) ?_
  refine va_get (D := (dC, dI)) (ci := 4) (v := .ref (a 6)) (C := R_Mo) (T := F_Mo) (N := 31) hx hb htz i_Mo hown hK hP 0 rfl rfl 10 (by decide) (htz _ kf_Mo_30) (fun _ h9 => h9) rfl d_Mo_question_164 ?_
  refine lv_iconst (v := 2) hx hb d_Mo_question_167 (by decide) ?_
  refine lv_iload_n hx hb d_Mo_question_168 rfl (lv_at hl 2 rfl) ?_
  refine lv_imul hx hb d_Mo_question_169 ?_
  refine lv_iconst (v := 1) hx hb d_Mo_question_170 (by decide) ?_
  refine lv_iadd hx hb d_Mo_question_171 ?_
  refine lv_iconst (v := 0) hx hb d_Mo_question_172 (by decide) ?_
  refine va_iast hx hb hK hP hD hS 6 0 rfl rfl h_173 d_Mo_question_173 (fun H locs hP hD hS => ?_)
  replace hP := mg_5 (c := upd (g 5) ((2 * x2) + 1 : Int32).toNatClampNeg 0) hP
  replace hD := mh_5 (c := upd (g 5) ((2 * x2) + 1 : Int32).toNatClampNeg 0) hD
  refine lv_aload_n hx hb d_Mo_question_174 rfl (lv_at hl 0 rfl) ?_
  refine va_get (D := (dC, dI)) (ci := 4) (v := .int (f 6)) (C := R_Mo) (T := F_Mo) (N := 31) hx hb htz i_Mo hown hK hP 0 rfl rfl 19 (by decide) (htz _ kf_Mo_86) (fun _ h9 => h9) rfl d_Mo_question_175 ?_
  refine lv_if_ge (tgt := 196) hx hb d_Mo_question_178 (by decide) (fun c_178 => ?_) (fun c_178 => ?_)
  · exact (k_196 c_178) H locs ls (lv_sub hl [0, 1, 2, 3] rfl) hP hD hS
  · refine lv_aload_n hx hb d_Mo_question_181 rfl (lv_at hl 0 rfl) ?_
    have hFc := va_free (wc := mw k a f (va_up g 5 (upd (g 5) ((2 * x2) + 1 : Int32).toNatClampNeg 0))) hD hS hA [0, 1, 2, 3, 4, 5, 6, 7, 8, 9, 10, 11, 12, 13, 14, 15, 16, 17, 18] rfl
    refine va_calli (va_runV (As := []) (rest := []) ⟨hx, hb, hml, hown, htz⟩ ((m_182 c_178) H.size) (cwV 0 htz (z_gV (fun _ h => h) km_Mo_89 in_Mo_see se_Mo_see ini_Mo m_Mo_see) rfl rfl rfl (by decide +kernel) ⟨(Nat.le_of_ble_eq_true rfl), (Nat.le_of_ble_eq_true rfl)⟩) ⟨z_blind, va_recv hK hP (ci := 4) (q0 := 0) rfl rfl, fun U hU hW => ⟨rfl, by rw [hU], hE.call hS hFc hU hW, by rw [hU]; exact hP, va_K.moved hW.alike hK, hD.weaken (fun _ _ _ _ => trivial)⟩⟩ rfl rfl hl.1 rfl (lv_room (Nat.le_of_ble_eq_true rfl)) d_Mo_question_182 ⟨(Nat.le_of_ble_eq_true rfl), (Nat.le_of_ble_eq_true rfl)⟩) hS (fun q _ h => hFc q h) hFc (fun r u t H1 locs ht hvm hw hB hz1 hk1 hS => ?_)
    obtain ⟨hP1, hK1, hD1⟩ := hB
    rw [ht] at hP1
    exact (k_182 c_178) r _ _ hw H1 locs ls (lv_sub hl [0, 1, 2, 3] rfl) hP1 (hD1.weaken (fun _ q _ h => hFc _ h)) hS
set_option maxHeartbeats 1000000 in
set_option maxRecDepth 100000 in
theorem k_Mo_question_185 {C : CT} (X : cM C "QuestionTextModel" b_Mo_question 5 none) (Post : FT → GT → Prop) {P_193 : FT → GT → Prop} (x1 : Int32) (x2 : Int32) (x3 : Int32) (y0 : Int32) (f : FT) (g : GT)
    (k_196 : (¬ y0 = 34) → zn_question C Post 196 [(0, .ref (ad C.1 0)), (1, .int x1), (2, .int x2), (3, .int x3)] [] f g)
    (m_193 : (y0 = 34) → mV C.1 y_Mo_words (Cond.code y_Mo_words b_Mo_words 5 none) 3 [.ref (ad C.1 0), .int x1, .int 1] f g P_193)
    (k_193 : (y0 = 34) → ∀ (f1 : FT) (g1 : GT), P_193 f1 g1 → zn_question C Post 196 [(0, .ref (ad C.1 0)), (1, .int x1), (2, .int x2), (3, .int x3)] [] f1 g1) : zn_question C Post 185 [(0, .ref (ad C.1 0)), (1, .int x1), (2, .int x2), (3, .int x3)] [.int y0] f g := by
  obtain ⟨⟨l, dC, dI, k, a⟩, p, e, s, m, args, below, meth, c, A⟩ := C
  obtain ⟨hx, hb, hr, htz, hown, hlocks, hml, hE, hK, hA⟩ := X
  intro H locs ls hl hP hD hS
  have hl : lv_has ls 5 [(0, .ref (a 0)), (1, .int x1), (2, .int x2), (3, .int x3)] := hl
  have hP : va_P (dC, dI) classes (mw k a f g) H := hP
  have hD : va_D A (mw k a f g) := hD
  show W p l e (z_rm 4 0 0) s m args below meth c H locs 0 0 _ (F0 m 185 ls [.int y0])
  refine lv_bipush (v := 34) hx hb d_Mo_question_185 (by decide) ?_
  refine lv_icmp_ne (tgt := 196) hx hb d_Mo_question_187 (by decide) (fun c_187 => ?_) (fun c_187 => ?_)
  · exact (k_196 c_187) H locs ls (lv_sub hl [0, 1, 2, 3] rfl) hP hD hS
  · refine lv_aload_n hx hb d_Mo_question_190 rfl (lv_at hl 0 rfl) ?_
    refine lv_iload_n hx hb d_Mo_question_191 rfl (lv_at hl 1 rfl) ?_
    refine lv_iconst (v := 1) hx hb d_Mo_question_192 (by decide) ?_
    have hFc := va_free (wc := mw k a f g) hD hS hA [0, 1, 2, 3, 4, 5, 6, 7, 8, 9, 10, 11, 12, 13, 14, 15, 16, 17, 18] rfl
    refine va_callv (va_runV (As := [.int x1, .int 1]) (rest := []) ⟨hx, hb, hml, hown, htz⟩ ((m_193 c_187) H.size) (cwV 2 htz (z_gV (fun _ h => h) km_Mo_113 in_Mo_words se_Mo_words ini_Mo m_Mo_words) rfl rfl rfl (by decide +kernel) ⟨(Nat.le_of_ble_eq_true rfl), (Nat.le_of_ble_eq_true rfl)⟩) ⟨z_blind, va_recv hK hP (ci := 4) (q0 := 0) rfl rfl, fun U hU hW => ⟨rfl, by rw [hU], hE.call hS hFc hU hW, by rw [hU]; exact hP, va_K.moved hW.alike hK, hD.weaken (fun _ _ _ _ => trivial)⟩⟩ rfl rfl hl.1 rfl (lv_room (Nat.le_of_ble_eq_true rfl)) d_Mo_question_193 ⟨(Nat.le_of_ble_eq_true rfl), (Nat.le_of_ble_eq_true rfl)⟩) hS (fun q _ h => hFc q h) hFc (fun u t H1 locs ht hvm hw hB hz1 hk1 hS => ?_)
    obtain ⟨hP1, hK1, hD1⟩ := hB
    rw [ht] at hP1
    exact (k_193 c_187) _ _ hw H1 locs ls (lv_sub hl [0, 1, 2, 3] rfl) hP1 (hD1.weaken (fun _ q _ h => hFc _ h)) hS
set_option maxHeartbeats 1000000 in
set_option maxRecDepth 100000 in
theorem k_Mo_question_196 {C : CT} (X : cM C "QuestionTextModel" b_Mo_question 5 none) (Post : FT → GT → Prop) {P_199 : FT → GT → Prop} (x1 : Int32) (x2 : Int32) (x3 : Int32) (f : FT) (g : GT)
    (m_199 : mV C.1 y_Mo_take (Cond.code y_Mo_take b_Mo_take 2 none) 2 [.ref (ad C.1 0), .int 58] f g P_199)
    (k_199 : ∀ (f1 : FT) (g1 : GT), P_199 f1 g1 → zn_question C Post 202 [(0, .ref (ad C.1 0)), (1, .int x1), (2, .int x2), (3, .int x3)] [] f1 g1) : zn_question C Post 196 [(0, .ref (ad C.1 0)), (1, .int x1), (2, .int x2), (3, .int x3)] [] f g := by
  obtain ⟨⟨l, dC, dI, k, a⟩, p, e, s, m, args, below, meth, c, A⟩ := C
  obtain ⟨hx, hb, hr, htz, hown, hlocks, hml, hE, hK, hA⟩ := X
  intro H locs ls hl hP hD hS
  have hl : lv_has ls 5 [(0, .ref (a 0)), (1, .int x1), (2, .int x2), (3, .int x3)] := hl
  have hP : va_P (dC, dI) classes (mw k a f g) H := hP
  have hD : va_D A (mw k a f g) := hD
  show W p l e (z_rm 4 0 0) s m args below meth c H locs 0 0 _ (F0 m 196 ls [])
  refine lv_aload_n hx hb d_Mo_question_196 rfl (lv_at hl 0 rfl) ?_
  refine lv_bipush (v := 58) hx hb d_Mo_question_197 (by decide) ?_
  have hFc := va_free (wc := mw k a f g) hD hS hA [0, 1, 2, 3, 4, 5, 6, 7, 8, 9, 10, 11, 12, 13, 14, 15, 16, 17, 18] rfl
  refine va_callv (va_runV (As := [.int 58]) (rest := []) ⟨hx, hb, hml, hown, htz⟩ (m_199 H.size) (cwV 1 htz (z_gV (fun _ h => h) km_Mo_103 in_Mo_take se_Mo_take ini_Mo m_Mo_take) rfl rfl rfl (by decide +kernel) ⟨(Nat.le_of_ble_eq_true rfl), (Nat.le_of_ble_eq_true rfl)⟩) ⟨z_blind, va_recv hK hP (ci := 4) (q0 := 0) rfl rfl, fun U hU hW => ⟨rfl, by rw [hU], hE.call hS hFc hU hW, by rw [hU]; exact hP, va_K.moved hW.alike hK, hD.weaken (fun _ _ _ _ => trivial)⟩⟩ rfl rfl hl.1 rfl (lv_room (Nat.le_of_ble_eq_true rfl)) d_Mo_question_199 ⟨(Nat.le_of_ble_eq_true rfl), (Nat.le_of_ble_eq_true rfl)⟩) hS (fun q _ h => hFc q h) hFc (fun u t H1 locs ht hvm hw hB hz1 hk1 hS => ?_)
  obtain ⟨hP1, hK1, hD1⟩ := hB
  rw [ht] at hP1
  exact k_199 _ _ hw H1 locs ls (lv_sub hl [0, 1, 2, 3] rfl) hP1 (hD1.weaken (fun _ q _ h => hFc _ h)) hS
set_option maxHeartbeats 1000000 in
set_option maxRecDepth 100000 in
theorem k_Mo_question_202 {C : CT} (X : cM C "QuestionTextModel" b_Mo_question 5 none) (Post : FT → GT → Prop) (x1 : Int32) (x2 : Int32) (x3 : Int32) (f : FT) (g : GT)
    (h_208 : vp_in (x2) 610)
    (k_212 : zn_question C Post 212 [(0, .ref (ad C.1 0)), (1, .int x1), (2, .int x2), (3, .int x3), (4, .int 1)] [] f (va_up g 7 (upd (g 7) (x2 : Int32).toNatClampNeg 0))) : zn_question C Post 202 [(0, .ref (ad C.1 0)), (1, .int x1), (2, .int x2), (3, .int x3)] [] f g := by
  obtain ⟨⟨l, dC, dI, k, a⟩, p, e, s, m, args, below, meth, c, A⟩ := C
  obtain ⟨hx, hb, hr, htz, hown, hlocks, hml, hE, hK, hA⟩ := X
  intro H locs ls hl hP hD hS
  have hl : lv_has ls 5 [(0, .ref (a 0)), (1, .int x1), (2, .int x2), (3, .int x3)] := hl
  have hP : va_P (dC, dI) classes (mw k a f g) H := hP
  have hD : va_D A (mw k a f g) := hD
  show W p l e (z_rm 4 0 0) s m args below meth c H locs 0 0 _ (F0 m 202 ls [])
  refine lv_aload_n hx hb d_Mo_question_202 rfl (lv_at hl 0 rfl) ?_
  refine va_get (D := (dC, dI)) (ci := 4) (v := .ref (a 8)) (C := R_Mo) (T := F_Mo) (N := 31) hx hb htz i_Mo hown hK hP 0 rfl rfl 12 (by decide) (htz _ kf_Mo_36) (fun _ h9 => h9) rfl d_Mo_question_203 ?_
  refine lv_iload_n hx hb d_Mo_question_206 rfl (lv_at hl 2 rfl) ?_
  refine lv_iconst (v := 0) hx hb d_Mo_question_207 (by decide) ?_
  refine va_iast hx hb hK hP hD hS 8 0 rfl rfl h_208 d_Mo_question_208 (fun H locs hP hD hS => ?_)
  replace hP := mg_7 (c := upd (g 7) (x2 : Int32).toNatClampNeg 0) hP
  replace hD := mh_7 (c := upd (g 7) (x2 : Int32).toNatClampNeg 0) hD
  refine lv_iconst (v := 1) hx hb d_Mo_question_209 (by decide) ?_
  refine lv_istore (lv' := [(4, .int 1), (0, .ref (a 0)), (1, .int x1), (2, .int x2), (3, .int x3)]) hx hb d_Mo_question_210 hl (by decide) rfl (fun ls hl => ?_)
  exact k_212 H locs ls (lv_sub hl [1, 2, 3, 4, 0] rfl) hP hD hS
set_option maxHeartbeats 1000000 in
set_option maxRecDepth 100000 in
theorem k_Mo_question_212 {C : CT} (X : cM C "QuestionTextModel" b_Mo_question 5 none) (Post : FT → GT → Prop) {P_232 : Int32 → FT → GT → Prop} (x1 : Int32) (x2 : Int32) (x3 : Int32) (x4 : Int32) (f : FT) (g : GT)
    (k_261 : (x4 = 0) → zn_question C Post 261 [(0, .ref (ad C.1 0)), (1, .int x1), (2, .int x2), (3, .int x3), (4, .int x4)] [] f g)
    (k_261_1 : (¬ x4 = 0) → (0 ≤ f 6) → zn_question C Post 261 [(0, .ref (ad C.1 0)), (1, .int x1), (2, .int x2), (3, .int x3), (4, .int x4)] [] f g)
    (h_231 : (¬ x4 = 0) → (¬ 0 ≤ f 6) → vp_in (x2) 610)
    (m_232 : (¬ x4 = 0) → (¬ 0 ≤ f 6) → mI C.1 y_Mo_jump (Cond.code y_Mo_jump b_Mo_jump 5 (some .boolean)) 3 [.ref (ad C.1 0), .int x2, .int (g 7 (x2 : Int32).toNatClampNeg)] f g P_232)
    (k_232 : (¬ x4 = 0) → (¬ 0 ≤ f 6) → ∀ (r : Int32) (f1 : FT) (g1 : GT), P_232 r f1 g1 → zn_question C Post 235 [(0, .ref (ad C.1 0)), (1, .int x1), (2, .int x2), (3, .int x3), (4, .int x4)] [.int r] f1 g1) : zn_question C Post 212 [(0, .ref (ad C.1 0)), (1, .int x1), (2, .int x2), (3, .int x3), (4, .int x4)] [] f g := by
  obtain ⟨⟨l, dC, dI, k, a⟩, p, e, s, m, args, below, meth, c, A⟩ := C
  obtain ⟨hx, hb, hr, htz, hown, hlocks, hml, hE, hK, hA⟩ := X
  intro H locs ls hl hP hD hS
  have hl : lv_has ls 5 [(0, .ref (a 0)), (1, .int x1), (2, .int x2), (3, .int x3), (4, .int x4)] := hl
  have hP : va_P (dC, dI) classes (mw k a f g) H := hP
  have hD : va_D A (mw k a f g) := hD
  show W p l e (z_rm 4 0 0) s m args below meth c H locs 0 0 _ (F0 m 212 ls [])
  refine lv_iload hx hb d_Mo_question_212 (lv_at hl 4 rfl) ?_
  refine lv_if_eq (tgt := 261) hx hb d_Mo_question_214 (by decide) (fun c_214 => ?_) (fun c_214 => ?_)
  · exact (k_261 c_214) H locs ls (lv_sub hl [0, 1, 2, 3, 4] rfl) hP hD hS
  · refine lv_aload_n hx hb d_Mo_question_217 rfl (lv_at hl 0 rfl) ?_
    refine va_get (D := (dC, dI)) (ci := 4) (v := .int (f 6)) (C := R_Mo) (T := F_Mo) (N := 31) hx hb htz i_Mo hown hK hP 0 rfl rfl 19 (by decide) (htz _ kf_Mo_86) (fun _ h9 => h9) rfl d_Mo_question_218 ?_
    refine lv_if_ge (tgt := 261) hx hb d_Mo_question_221 (by decide) (fun c_221 => ?_) (fun c_221 => ?_)
    · exact (k_261_1 c_214 c_221) H locs ls (lv_sub hl [0, 1, 2, 3, 4] rfl) hP hD hS
    · refine lv_aload_n hx hb d_Mo_question_224 rfl (lv_at hl 0 rfl) ?_
      refine lv_iload_n hx hb d_Mo_question_225 rfl (lv_at hl 2 rfl) ?_
      refine lv_aload_n hx hb d_Mo_question_226 rfl (lv_at hl 0 rfl) ?_
      refine va_get (D := (dC, dI)) (ci := 4) (v := .ref (a 8)) (C := R_Mo) (T := F_Mo) (N := 31) hx hb htz i_Mo hown hK hP 0 rfl rfl 12 (by decide) (htz _ kf_Mo_36) (fun _ h9 => h9) rfl d_Mo_question_227 ?_
      refine lv_iload_n hx hb d_Mo_question_230 rfl (lv_at hl 2 rfl) ?_
      refine va_iald hx hb hK hP 8 0 rfl rfl (h_231 c_214 c_221) d_Mo_question_231 ?_
      have hFc := va_free (wc := mw k a f g) hD hS hA [0, 1, 2, 3, 4, 5, 6, 7, 8, 9, 10, 11, 12, 13, 14, 15, 16, 17, 18] rfl
      refine va_calli (va_runV (As := [.int x2, .int (g 7 (x2 : Int32).toNatClampNeg)]) (rest := []) ⟨hx, hb, hml, hown, htz⟩ ((m_232 c_214 c_221) H.size) (cwV 2 htz (z_gV (fun _ h => h) km_Mo_117 in_Mo_jump se_Mo_jump ini_Mo m_Mo_jump) rfl rfl rfl (by decide +kernel) ⟨(Nat.le_of_ble_eq_true rfl), (Nat.le_of_ble_eq_true rfl)⟩) ⟨z_blind, va_recv hK hP (ci := 4) (q0 := 0) rfl rfl, fun U hU hW => ⟨rfl, by rw [hU], hE.call hS hFc hU hW, by rw [hU]; exact hP, va_K.moved hW.alike hK, hD.weaken (fun _ _ _ _ => trivial)⟩⟩ rfl rfl hl.1 rfl (lv_room (Nat.le_of_ble_eq_true rfl)) d_Mo_question_232 ⟨(Nat.le_of_ble_eq_true rfl), (Nat.le_of_ble_eq_true rfl)⟩) hS (fun q _ h => hFc q h) hFc (fun r u t H1 locs ht hvm hw hB hz1 hk1 hS => ?_)
      obtain ⟨hP1, hK1, hD1⟩ := hB
      rw [ht] at hP1
      exact (k_232 c_214 c_221) r _ _ hw H1 locs ls (lv_sub hl [0, 1, 2, 3, 4] rfl) hP1 (hD1.weaken (fun _ q _ h => hFc _ h)) hS
set_option maxHeartbeats 1000000 in
set_option maxRecDepth 100000 in
theorem k_Mo_question_235 {C : CT} (X : cM C "QuestionTextModel" b_Mo_question 5 none) (Post : FT → GT → Prop) {P_255 : FT → GT → Prop} (x1 : Int32) (x2 : Int32) (x3 : Int32) (x4 : Int32) (y0 : Int32) (f : FT) (g : GT)
    (h_243 : vp_in (x2) 610)
    (h_246 : vp_in (x2) 610)
    (k_212 : (y0 = 0) → zn_question C Post 212 [(0, .ref (ad C.1 0)), (1, .int x1), (2, .int x2), (3, .int x3), (4, .int y0)] [] f (va_up g 7 (upd (g 7) (x2 : Int32).toNatClampNeg ((g 7 (x2 : Int32).toNatClampNeg) + 1))))
    (m_255 : (¬ y0 = 0) → mV C.1 y_Mo_take (Cond.code y_Mo_take b_Mo_take 2 none) 2 [.ref (ad C.1 0), .int 44] f (va_up g 7 (upd (g 7) (x2 : Int32).toNatClampNeg ((g 7 (x2 : Int32).toNatClampNeg) + 1))) P_255)
    (k_255 : (¬ y0 = 0) → ∀ (f1 : FT) (g1 : GT), P_255 f1 g1 → zn_question C Post 258 [(0, .ref (ad C.1 0)), (1, .int x1), (2, .int x2), (3, .int x3), (4, .int y0)] [] f1 g1) : zn_question C Post 235 [(0, .ref (ad C.1 0)), (1, .int x1), (2, .int x2), (3, .int x3), (4, .int x4)] [.int y0] f g := by
  obtain ⟨⟨l, dC, dI, k, a⟩, p, e, s, m, args, below, meth, c, A⟩ := C
  obtain ⟨hx, hb, hr, htz, hown, hlocks, hml, hE, hK, hA⟩ := X
  intro H locs ls hl hP hD hS
  have hl : lv_has ls 5 [(0, .ref (a 0)), (1, .int x1), (2, .int x2), (3, .int x3), (4, .int x4)] := hl
  have hP : va_P (dC, dI) classes (mw k a f g) H := hP
  have hD : va_D A (mw k a f g) := hD
  show W p l e (z_rm 4 0 0) s m args below meth c H locs 0 0 _ (F0 m 235 ls [.int y0])
  refine lv_istore (lv' := [(4, .int y0), (0, .ref (a 0)), (1, .int x1), (2, .int x2), (3, .int x3)]) hx hb d_Mo_question_235 hl (by decide) rfl (fun ls hl => ?_)
  refine lv_aload_n hx hb d_Mo_question_237 rfl (lv_at hl 1 rfl) ?_
  refine va_get (D := (dC, dI)) (ci := 4) (v := .ref (a 8)) (C := R_Mo) (T := F_Mo) (N := 31) hx hb htz i_Mo hown hK hP 0 rfl rfl 12 (by decide) (htz _ kf_Mo_36) (fun _ h9 => h9) rfl d_Mo_question_238 ?_
  refine lv_iload_n hx hb d_Mo_question_241 rfl (lv_at hl 3 rfl) ?_
  refine lv_dup2_11 hx hb d_Mo_question_242 rfl rfl ?_
  refine va_iald hx hb hK hP 8 0 rfl rfl h_243 d_Mo_question_243 ?_
  refine lv_iconst (v := 1) hx hb d_Mo_question_244 (by decide) ?_
  refine lv_iadd hx hb d_Mo_question_245 ?_
  refine va_iast hx hb hK hP hD hS 8 0 rfl rfl h_246 d_Mo_question_246 (fun H locs hP hD hS => ?_)
  replace hP := mg_7 (c := upd (g 7) (x2 : Int32).toNatClampNeg ((g 7 (x2 : Int32).toNatClampNeg) + 1)) hP
  replace hD := mh_7 (c := upd (g 7) (x2 : Int32).toNatClampNeg ((g 7 (x2 : Int32).toNatClampNeg) + 1)) hD
  refine lv_iload hx hb d_Mo_question_247 (lv_at hl 0 rfl) ?_
  refine lv_if_eq (tgt := 212) hx hb d_Mo_question_249 (by decide) (fun c_249 => ?_) (fun c_249 => ?_)
  · exact (k_212 c_249) H locs ls (lv_sub hl [1, 2, 3, 4, 0] rfl) hP hD hS
  · refine lv_aload_n hx hb d_Mo_question_252 rfl (lv_at hl 1 rfl) ?_
    refine lv_bipush (v := 44) hx hb d_Mo_question_253 (by decide) ?_
    have hFc := va_free (wc := mw k a f (va_up g 7 (upd (g 7) (x2 : Int32).toNatClampNeg ((g 7 (x2 : Int32).toNatClampNeg) + 1)))) hD hS hA [0, 1, 2, 3, 4, 5, 6, 7, 8, 9, 10, 11, 12, 13, 14, 15, 16, 17, 18] rfl
    refine va_callv (va_runV (As := [.int 44]) (rest := []) ⟨hx, hb, hml, hown, htz⟩ ((m_255 c_249) H.size) (cwV 1 htz (z_gV (fun _ h => h) km_Mo_103 in_Mo_take se_Mo_take ini_Mo m_Mo_take) rfl rfl rfl (by decide +kernel) ⟨(Nat.le_of_ble_eq_true rfl), (Nat.le_of_ble_eq_true rfl)⟩) ⟨z_blind, va_recv hK hP (ci := 4) (q0 := 0) rfl rfl, fun U hU hW => ⟨rfl, by rw [hU], hE.call hS hFc hU hW, by rw [hU]; exact hP, va_K.moved hW.alike hK, hD.weaken (fun _ _ _ _ => trivial)⟩⟩ rfl rfl hl.1 rfl (lv_room (Nat.le_of_ble_eq_true rfl)) d_Mo_question_255 ⟨(Nat.le_of_ble_eq_true rfl), (Nat.le_of_ble_eq_true rfl)⟩) hS (fun q _ h => hFc q h) hFc (fun u t H1 locs ht hvm hw hB hz1 hk1 hS => ?_)
    obtain ⟨hP1, hK1, hD1⟩ := hB
    rw [ht] at hP1
    exact (k_255 c_249) _ _ hw H1 locs ls (lv_sub hl [1, 2, 3, 4, 0] rfl) hP1 (hD1.weaken (fun _ q _ h => hFc _ h)) hS
set_option maxHeartbeats 1000000 in
set_option maxRecDepth 100000 in
theorem k_Mo_question_258 {C : CT} (X : cM C "QuestionTextModel" b_Mo_question 5 none) (Post : FT → GT → Prop) (x1 : Int32) (x2 : Int32) (x3 : Int32) (x4 : Int32) (f : FT) (g : GT)
    (k_212 : zn_question C Post 212 [(0, .ref (ad C.1 0)), (1, .int x1), (2, .int x2), (3, .int x3), (4, .int x4)] [] f g) : zn_question C Post 258 [(0, .ref (ad C.1 0)), (1, .int x1), (2, .int x2), (3, .int x3), (4, .int x4)] [] f g := by
  obtain ⟨⟨l, dC, dI, k, a⟩, p, e, s, m, args, below, meth, c, A⟩ := C
  obtain ⟨hx, hb, hr, htz, hown, hlocks, hml, hE, hK, hA⟩ := X
  intro H locs ls hl hP hD hS
  have hl : lv_has ls 5 [(0, .ref (a 0)), (1, .int x1), (2, .int x2), (3, .int x3), (4, .int x4)] := hl
  have hP : va_P (dC, dI) classes (mw k a f g) H := hP
  have hD : va_D A (mw k a f g) := hD
  show W p l e (z_rm 4 0 0) s m args below meth c H locs 0 0 _ (F0 m 258 ls [])
  refine lv_goto (tgt := 212) hx hb d_Mo_question_258 (by decide) ?_
  exact k_212 H locs ls (lv_sub hl [0, 1, 2, 3, 4] rfl) hP hD hS
set_option maxHeartbeats 1000000 in
set_option maxRecDepth 100000 in
theorem k_Mo_question_261 {C : CT} (X : cM C "QuestionTextModel" b_Mo_question 5 none) (Post : FT → GT → Prop) {P_264 : FT → GT → Prop} (x1 : Int32) (x2 : Int32) (x3 : Int32) (x4 : Int32) (f : FT) (g : GT)
    (m_264 : mV C.1 y_Mo_take (Cond.code y_Mo_take b_Mo_take 2 none) 2 [.ref (ad C.1 0), .int 59] f g P_264)
    (k_264 : ∀ (f1 : FT) (g1 : GT), P_264 f1 g1 → zn_question C Post 267 [(0, .ref (ad C.1 0)), (1, .int x1), (2, .int x2), (3, .int x3), (4, .int x4)] [] f1 g1) : zn_question C Post 261 [(0, .ref (ad C.1 0)), (1, .int x1), (2, .int x2), (3, .int x3), (4, .int x4)] [] f g := by
  obtain ⟨⟨l, dC, dI, k, a⟩, p, e, s, m, args, below, meth, c, A⟩ := C
  obtain ⟨hx, hb, hr, htz, hown, hlocks, hml, hE, hK, hA⟩ := X
  intro H locs ls hl hP hD hS
  have hl : lv_has ls 5 [(0, .ref (a 0)), (1, .int x1), (2, .int x2), (3, .int x3), (4, .int x4)] := hl
  have hP : va_P (dC, dI) classes (mw k a f g) H := hP
  have hD : va_D A (mw k a f g) := hD
  show W p l e (z_rm 4 0 0) s m args below meth c H locs 0 0 _ (F0 m 261 ls [])
  refine lv_aload_n hx hb d_Mo_question_261 rfl (lv_at hl 0 rfl) ?_
  refine lv_bipush (v := 59) hx hb d_Mo_question_262 (by decide) ?_
  have hFc := va_free (wc := mw k a f g) hD hS hA [0, 1, 2, 3, 4, 5, 6, 7, 8, 9, 10, 11, 12, 13, 14, 15, 16, 17, 18] rfl
  refine va_callv (va_runV (As := [.int 59]) (rest := []) ⟨hx, hb, hml, hown, htz⟩ (m_264 H.size) (cwV 1 htz (z_gV (fun _ h => h) km_Mo_103 in_Mo_take se_Mo_take ini_Mo m_Mo_take) rfl rfl rfl (by decide +kernel) ⟨(Nat.le_of_ble_eq_true rfl), (Nat.le_of_ble_eq_true rfl)⟩) ⟨z_blind, va_recv hK hP (ci := 4) (q0 := 0) rfl rfl, fun U hU hW => ⟨rfl, by rw [hU], hE.call hS hFc hU hW, by rw [hU]; exact hP, va_K.moved hW.alike hK, hD.weaken (fun _ _ _ _ => trivial)⟩⟩ rfl rfl hl.1 rfl (lv_room (Nat.le_of_ble_eq_true rfl)) d_Mo_question_264 ⟨(Nat.le_of_ble_eq_true rfl), (Nat.le_of_ble_eq_true rfl)⟩) hS (fun q _ h => hFc q h) hFc (fun u t H1 locs ht hvm hw hB hz1 hk1 hS => ?_)
  obtain ⟨hP1, hK1, hD1⟩ := hB
  rw [ht] at hP1
  exact k_264 _ _ hw H1 locs ls (lv_sub hl [0, 1, 2, 3, 4] rfl) hP1 (hD1.weaken (fun _ q _ h => hFc _ h)) hS
set_option maxHeartbeats 1000000 in
set_option maxRecDepth 100000 in
theorem k_Mo_question_267 {C : CT} (X : cM C "QuestionTextModel" b_Mo_question 5 none) (Post : FT → GT → Prop) (x1 : Int32) (x2 : Int32) (x3 : Int32) (x4 : Int32) (f : FT) (g : GT)
    (q_267 : Post f g) : zn_question C Post 267 [(0, .ref (ad C.1 0)), (1, .int x1), (2, .int x2), (3, .int x3), (4, .int x4)] [] f g := by
  obtain ⟨⟨l, dC, dI, k, a⟩, p, e, s, m, args, below, meth, c, A⟩ := C
  obtain ⟨hx, hb, hr, htz, hown, hlocks, hml, hE, hK, hA⟩ := X
  intro H locs ls hl hP hD hS
  have hl : lv_has ls 5 [(0, .ref (a 0)), (1, .int x1), (2, .int x2), (3, .int x3), (4, .int x4)] := hl
  have hP : va_P (dC, dI) classes (mw k a f g) H := hP
  have hD : va_D A (mw k a f g) := hD
  show W p l e (z_rm 4 0 0) s m args below meth c H locs 0 0 _ (F0 m 267 ls [])
  exact W.vret hx hb hr (fun t ht hW => ⟨⟨(f, g), rfl, q_267, by rw [ht]; exact hP, va_K.moved hW.alike hK, hD⟩, hS.F ht⟩) hS.2.2 d_Mo_question_267
set_option maxHeartbeats 1000000 in
set_option maxRecDepth 100000 in
theorem e_Mo_question (T : ST) (Post : FT → GT → Prop) (f : FT) (g : GT) (h : ∀ C : CT, C.1 = T → cM C "QuestionTextModel" b_Mo_question 5 none → zn_question C Post 0 [(0, .ref (ad C.1 0))] [] f g) : mV T y_Mo_question (Cond.code y_Mo_question b_Mo_question 5 none) 4 [.ref (ad T 0)] f g Post := by
  obtain ⟨l, dC, dI, k, a⟩ := T
  intro sz
  refine Met.ofW (cc := b_Mo_question) (maxL := 5) (ret := none) (by decide) rfl ?_
  intro p e s m args below meth c s₁ B hml hv
  obtain ⟨rfl, hsz, hE, hP, hK, hD0⟩ := hv
  have hts := atoms_spec (ws := (Cond.code y_Mo_question b_Mo_question 5 none) :: z_T) B.pre
  have htz : ∀ w ∈ z_T, w.before _ s = true := fun w h => hts w (z_cons w h)
  subst hsz
  have hD := hD0.self (sz := s.heap.size)
  generalize hAe : va_A (mw k a f g) s.heap.size = A at hD hE ⊢
  have hA : ∀ q : Nat, s.heap.size ≤ q → A q := fun q h => by rw [← hAe]; exact Or.inr h
  have hl := lv_entry ([.ref (a 0)]) (n := 5) (Nat.le_of_ble_eq_true rfl)
  rw [lg_entry_eq]
  generalize (lg_sl ([.ref (a 0)]) ++ List.replicate (5 - (lg_sl ([.ref (a 0)])).length) Slot.unset).toArray = ls at hl ⊢
  exact h ((l, dC, dI, k, a), p, e, s, m, ([.ref (a 0)] : List Value).toArray, below, meth, c, A) rfl ⟨B.exec, B.bytes, B.returns, htz, findClass_of_methodNamed B.named, B.notSynchronized, hml, hE, hK, hA⟩ s.heap [] ls hl hP hD va_S.rf
def zn_jump (C : CT) (Post : Int32 → FT → GT → Prop) (pc : Nat) (loc : List (Nat × Value)) (st : List Value) (f : FT) (g : GT) : Prop := zW C (z_rm 3 0 0) 5 (qI C Post) 0 0 pc loc st (mM C.1 f g)
set_option maxHeartbeats 1000000 in
set_option maxRecDepth 100000 in
theorem k_Mo_jump_0 {C : CT} (X : cM C "QuestionTextModel" b_Mo_jump 5 (some .boolean)) (Post : Int32 → FT → GT → Prop) {P_10 : Int32 → FT → GT → Prop} (x1 : Int32) (x2 : Int32) (f : FT) (g : GT)
    (m_10 : mI C.1 y_Mo_see (Cond.code y_Mo_see b_Mo_see 1 (some .int)) 1 [.ref (ad C.1 0)] f g P_10)
    (k_10 : ∀ (r : Int32) (f1 : FT) (g1 : GT), P_10 r f1 g1 → zn_jump C Post 13 [(0, .ref (ad C.1 0)), (1, .int x1), (2, .int x2), (3, .int (((x1 * 6) + x2) * 4))] [.int r] f1 g1) : zn_jump C Post 0 [(0, .ref (ad C.1 0)), (1, .int x1), (2, .int x2)] [] f g := by
  obtain ⟨⟨l, dC, dI, k, a⟩, p, e, s, m, args, below, meth, c, A⟩ := C
  obtain ⟨hx, hb, hr, htz, hown, hlocks, hml, hE, hK, hA⟩ := X
  intro H locs ls hl hP hD hS
  have hl : lv_has ls 5 [(0, .ref (a 0)), (1, .int x1), (2, .int x2)] := hl
  have hP : va_P (dC, dI) classes (mw k a f g) H := hP
  have hD : va_D A (mw k a f g) := hD
  show W p l e (z_rm 3 0 0) s m args below meth c H locs 0 0 _ (F0 m 0 ls [])
  refine lv_iload_n hx hb d_Mo_jump_0 rfl (lv_at hl 1 rfl) ?_
  refine lv_bipush (v := 6) hx hb d_Mo_jump_1 (by decide) ?_
  refine lv_imul hx hb d_Mo_jump_3 ?_
  refine lv_iload_n hx hb d_Mo_jump_4 rfl (lv_at hl 2 rfl) ?_
  refine lv_iadd hx hb d_Mo_jump_5 ?_
  refine lv_iconst (v := 4) hx hb d_Mo_jump_6 (by decide) ?_
  refine lv_imul hx hb d_Mo_jump_7 ?_
  refine lv_istore_n (lv' := [(3, .int (((x1 * 6) + x2) * 4)), (0, .ref (a 0)), (1, .int x1), (2, .int x2)]) hx hb d_Mo_jump_8 rfl hl (by decide) rfl (fun ls hl => ?_)
  refine lv_aload_n hx hb d_Mo_jump_9 rfl (lv_at hl 1 rfl) ?_
  have hFc := va_free (wc := mw k a f g) hD hS hA [0, 1, 2, 3, 4, 5, 6, 7, 8, 9, 10, 11, 12, 13, 14, 15, 16, 17, 18] rfl
  refine va_calli (va_runV (As := []) (rest := []) ⟨hx, hb, hml, hown, htz⟩ (m_10 H.size) (cwV 0 htz (z_gV (fun _ h => h) km_Mo_89 in_Mo_see se_Mo_see ini_Mo m_Mo_see) rfl rfl rfl (by decide +kernel) ⟨(Nat.le_of_ble_eq_true rfl), (Nat.le_of_ble_eq_true rfl)⟩) ⟨z_blind, va_recv hK hP (ci := 4) (q0 := 0) rfl rfl, fun U hU hW => ⟨rfl, by rw [hU], hE.call hS hFc hU hW, by rw [hU]; exact hP, va_K.moved hW.alike hK, hD.weaken (fun _ _ _ _ => trivial)⟩⟩ rfl rfl hl.1 rfl (lv_room (Nat.le_of_ble_eq_true rfl)) d_Mo_jump_10 ⟨(Nat.le_of_ble_eq_true rfl), (Nat.le_of_ble_eq_true rfl)⟩) hS (fun q _ h => hFc q h) hFc (fun r u t H1 locs ht hvm hw hB hz1 hk1 hS => ?_)
  obtain ⟨hP1, hK1, hD1⟩ := hB
  rw [ht] at hP1
  exact k_10 r _ _ hw H1 locs ls (lv_sub hl [1, 2, 3, 0] rfl) hP1 (hD1.weaken (fun _ q _ h => hFc _ h)) hS
set_option maxHeartbeats 1000000 in
set_option maxRecDepth 100000 in
theorem k_Mo_jump_13 {C : CT} (X : cM C "QuestionTextModel" b_Mo_jump 5 (some .boolean)) (Post : Int32 → FT → GT → Prop) {P_15 : Int32 → FT → GT → Prop} (x1 : Int32) (x2 : Int32) (x3 : Int32) (y0 : Int32) (f : FT) (g : GT)
    (m_15 : mI C.1 y_Mo_isDigit (Cond.code y_Mo_isDigit b_Mo_isDigit 1 (some .boolean)) 1 [.ref (ad C.1 0)] f g P_15)
    (k_15 : ∀ (r : Int32) (f1 : FT) (g1 : GT), P_15 r f1 g1 → zn_jump C Post 18 [(0, .ref (ad C.1 0)), (1, .int x1), (2, .int x2), (3, .int x3)] [.int r] f1 g1) : zn_jump C Post 13 [(0, .ref (ad C.1 0)), (1, .int x1), (2, .int x2), (3, .int x3)] [.int y0] f g := by
  obtain ⟨⟨l, dC, dI, k, a⟩, p, e, s, m, args, below, meth, c, A⟩ := C
  obtain ⟨hx, hb, hr, htz, hown, hlocks, hml, hE, hK, hA⟩ := X
  intro H locs ls hl hP hD hS
  have hl : lv_has ls 5 [(0, .ref (a 0)), (1, .int x1), (2, .int x2), (3, .int x3)] := hl
  have hP : va_P (dC, dI) classes (mw k a f g) H := hP
  have hD : va_D A (mw k a f g) := hD
  show W p l e (z_rm 3 0 0) s m args below meth c H locs 0 0 _ (F0 m 13 ls [.int y0])
  refine lv_pop hx hb d_Mo_jump_13 rfl ?_
  refine lv_aload_n hx hb d_Mo_jump_14 rfl (lv_at hl 0 rfl) ?_
  have hFc := va_free (wc := mw k a f g) hD hS hA [0, 1, 2, 3, 4, 5, 6, 7, 8, 9, 10, 11, 12, 13, 14, 15, 16, 17, 18] rfl
  refine va_calli (va_runV (As := []) (rest := []) ⟨hx, hb, hml, hown, htz⟩ (m_15 H.size) (cwV 0 htz (z_gV (fun _ h => h) km_Mo_96 in_Mo_isDigit se_Mo_isDigit ini_Mo m_Mo_isDigit) rfl rfl rfl (by decide +kernel) ⟨(Nat.le_of_ble_eq_true rfl), (Nat.le_of_ble_eq_true rfl)⟩) ⟨z_blind, va_recv hK hP (ci := 4) (q0 := 0) rfl rfl, fun U hU hW => ⟨rfl, by rw [hU], hE.call hS hFc hU hW, by rw [hU]; exact hP, va_K.moved hW.alike hK, hD.weaken (fun _ _ _ _ => trivial)⟩⟩ rfl rfl hl.1 rfl (lv_room (Nat.le_of_ble_eq_true rfl)) d_Mo_jump_15 ⟨(Nat.le_of_ble_eq_true rfl), (Nat.le_of_ble_eq_true rfl)⟩) hS (fun q _ h => hFc q h) hFc (fun r u t H1 locs ht hvm hw hB hz1 hk1 hS => ?_)
  obtain ⟨hP1, hK1, hD1⟩ := hB
  rw [ht] at hP1
  exact k_15 r _ _ hw H1 locs ls (lv_sub hl [0, 1, 2, 3] rfl) hP1 (hD1.weaken (fun _ q _ h => hFc _ h)) hS
set_option maxHeartbeats 1000000 in
set_option maxRecDepth 100000 in
theorem k_Mo_jump_18 {C : CT} (X : cM C "QuestionTextModel" b_Mo_jump 5 (some .boolean)) (Post : Int32 → FT → GT → Prop) (x1 : Int32) (x2 : Int32) (x3 : Int32) (y0 : Int32) (f : FT) (g : GT)
    (k_30 : (y0 = 0) → zn_jump C Post 30 [(0, .ref (ad C.1 0)), (1, .int x1), (2, .int x2), (3, .int x3)] [] f g)
    (k_30_1 : (¬ y0 = 0) → (5 ≤ x2) → zn_jump C Post 30 [(0, .ref (ad C.1 0)), (1, .int x1), (2, .int x2), (3, .int x3)] [] f g)
    (k_31 : (¬ y0 = 0) → (¬ 5 ≤ x2) → zn_jump C Post 31 [(0, .ref (ad C.1 0)), (1, .int x1), (2, .int x2), (3, .int x3)] [.int 1] f g) : zn_jump C Post 18 [(0, .ref (ad C.1 0)), (1, .int x1), (2, .int x2), (3, .int x3)] [.int y0] f g := by
  obtain ⟨⟨l, dC, dI, k, a⟩, p, e, s, m, args, below, meth, c, A⟩ := C
  obtain ⟨hx, hb, hr, htz, hown, hlocks, hml, hE, hK, hA⟩ := X
  intro H locs ls hl hP hD hS
  have hl : lv_has ls 5 [(0, .ref (a 0)), (1, .int x1), (2, .int x2), (3, .int x3)] := hl
  have hP : va_P (dC, dI) classes (mw k a f g) H := hP
  have hD : va_D A (mw k a f g) := hD
  show W p l e (z_rm 3 0 0) s m args below meth c H locs 0 0 _ (F0 m 18 ls [.int y0])
  refine lv_if_eq (tgt := 30) hx hb d_Mo_jump_18 (by decide) (fun c_18 => ?_) (fun c_18 => ?_)
  · exact (k_30 c_18) H locs ls (lv_sub hl [0, 1, 2, 3] rfl) hP hD hS
  · refine lv_iload_n hx hb d_Mo_jump_21 rfl (lv_at hl 2 rfl) ?_
    refine lv_iconst (v := 5) hx hb d_Mo_jump_22 (by decide) ?_
    refine lv_icmp_ge (tgt := 30) hx hb d_Mo_jump_23 (by decide) (fun c_23 => ?_) (fun c_23 => ?_)
    · exact (k_30_1 c_18 c_23) H locs ls (lv_sub hl [0, 1, 2, 3] rfl) hP hD hS
    · refine lv_iconst (v := 1) hx hb d_Mo_jump_26 (by decide) ?_
      refine lv_goto (tgt := 31) hx hb d_Mo_jump_27 (by decide) ?_
      exact (k_31 c_18 c_23) H locs ls (lv_sub hl [0, 1, 2, 3] rfl) hP hD hS
set_option maxHeartbeats 1000000 in
set_option maxRecDepth 100000 in
theorem k_Mo_jump_30 {C : CT} (X : cM C "QuestionTextModel" b_Mo_jump 5 (some .boolean)) (Post : Int32 → FT → GT → Prop) (x1 : Int32) (x2 : Int32) (x3 : Int32) (f : FT) (g : GT)
    (k_31 : zn_jump C Post 31 [(0, .ref (ad C.1 0)), (1, .int x1), (2, .int x2), (3, .int x3)] [.int 0] f g) : zn_jump C Post 30 [(0, .ref (ad C.1 0)), (1, .int x1), (2, .int x2), (3, .int x3)] [] f g := by
  obtain ⟨⟨l, dC, dI, k, a⟩, p, e, s, m, args, below, meth, c, A⟩ := C
  obtain ⟨hx, hb, hr, htz, hown, hlocks, hml, hE, hK, hA⟩ := X
  intro H locs ls hl hP hD hS
  have hl : lv_has ls 5 [(0, .ref (a 0)), (1, .int x1), (2, .int x2), (3, .int x3)] := hl
  have hP : va_P (dC, dI) classes (mw k a f g) H := hP
  have hD : va_D A (mw k a f g) := hD
  show W p l e (z_rm 3 0 0) s m args below meth c H locs 0 0 _ (F0 m 30 ls [])
  refine lv_iconst (v := 0) hx hb d_Mo_jump_30 (by decide) ?_
  exact k_31 H locs ls (lv_sub hl [0, 1, 2, 3] rfl) hP hD hS
set_option maxHeartbeats 1000000 in
set_option maxRecDepth 100000 in
theorem k_Mo_jump_31 {C : CT} (X : cM C "QuestionTextModel" b_Mo_jump 5 (some .boolean)) (Post : Int32 → FT → GT → Prop) {P_55 : Int32 → FT → GT → Prop} (x1 : Int32) (x2 : Int32) (x3 : Int32) (y0 : Int32) (f : FT) (g : GT)
    (h_39 : vp_in (x3) 14640)
    (k_86 : (y0 = 0) → zn_jump C Post 86 [(0, .ref (ad C.1 0)), (1, .int x1), (2, .int x2), (3, .int x3), (4, .int y0)] [] f (va_up g 8 (upd (g 8) (x3 : Int32).toNatClampNeg (-1))))
    (m_55 : (¬ y0 = 0) → mI C.1 y_Mo_number (Cond.code y_Mo_number b_Mo_number 4 (some .int)) 2 [.ref (ad C.1 0), .int 0, .int 9999] f (va_up g 8 (upd (g 8) (x3 : Int32).toNatClampNeg (-1))) P_55)
    (k_55 : (¬ y0 = 0) → ∀ (r : Int32) (f1 : FT) (g1 : GT), P_55 r f1 g1 → zn_jump C Post 58 [(0, .ref (ad C.1 0)), (1, .int x1), (2, .int x2), (3, .int x3), (4, .int y0)] [.int r, .int x3, .ref (ad C.1 9)] f1 g1) : zn_jump C Post 31 [(0, .ref (ad C.1 0)), (1, .int x1), (2, .int x2), (3, .int x3)] [.int y0] f g := by
  obtain ⟨⟨l, dC, dI, k, a⟩, p, e, s, m, args, below, meth, c, A⟩ := C
  obtain ⟨hx, hb, hr, htz, hown, hlocks, hml, hE, hK, hA⟩ := X
  intro H locs ls hl hP hD hS
  have hl : lv_has ls 5 [(0, .ref (a 0)), (1, .int x1), (2, .int x2), (3, .int x3)] := hl
  have hP : va_P (dC, dI) classes (mw k a f g) H := hP
  have hD : va_D A (mw k a f g) := hD
  show W p l e (z_rm 3 0 0) s m args below meth c H locs 0 0 _ (F0 m 31 ls [.int y0])
  refine lv_istore (lv' := [(4, .int y0), (0, .ref (a 0)), (1, .int x1), (2, .int x2), (3, .int x3)]) hx hb d_Mo_jump_31 hl (by decide) rfl (fun ls hl => ?_)
  refine lv_aload_n hx hb d_Mo_jump_33 rfl (lv_at hl 1 rfl) ?_
  refine va_get (D := (dC, dI)) (ci := 4) (v := .ref (a 9)) (C := R_Mo) (T := F_Mo) (N := 31) hx hb htz i_Mo hown hK hP 0 rfl rfl 13 (by decide) (htz _ kf_Mo_39) (fun _ h9 => h9) rfl d_Mo_jump_34 ?_
  refine lv_iload_n hx hb d_Mo_jump_37 rfl (lv_at hl 4 rfl) ?_
  refine lv_iconst (v := -1) hx hb d_Mo_jump_38 (by decide) ?_
  refine va_iast hx hb hK hP hD hS 9 0 rfl rfl h_39 d_Mo_jump_39 (fun H locs hP hD hS => ?_)
  replace hP := mg_8 (c := upd (g 8) (x3 : Int32).toNatClampNeg (-1)) hP
  replace hD := mh_8 (c := upd (g 8) (x3 : Int32).toNatClampNeg (-1)) hD
  refine lv_iload hx hb d_Mo_jump_40 (lv_at hl 0 rfl) ?_
  refine lv_if_eq (tgt := 86) hx hb d_Mo_jump_42 (by decide) (fun c_42 => ?_) (fun c_42 => ?_)
  · exact (k_86 c_42) H locs ls (lv_sub hl [1, 2, 3, 4, 0] rfl) hP hD hS
  · refine lv_aload_n hx hb d_Mo_jump_45 rfl (lv_at hl 1 rfl) ?_
    refine va_get (D := (dC, dI)) (ci := 4) (v := .ref (a 9)) (C := R_Mo) (T := F_Mo) (N := 31) hx hb htz i_Mo hown hK hP 0 rfl rfl 13 (by decide) (htz _ kf_Mo_39) (fun _ h9 => h9) rfl d_Mo_jump_46 ?_
    refine lv_iload_n hx hb d_Mo_jump_49 rfl (lv_at hl 4 rfl) ?_
    refine lv_aload_n hx hb d_Mo_jump_50 rfl (lv_at hl 1 rfl) ?_
    refine lv_iconst (v := 0) hx hb d_Mo_jump_51 (by decide) ?_
    refine lv_sipush (v := 9999) hx hb d_Mo_jump_52 (by decide) ?_
    have hFc := va_free (wc := mw k a f (va_up g 8 (upd (g 8) (x3 : Int32).toNatClampNeg (-1)))) hD hS hA [0, 1, 2, 3, 4, 5, 6, 7, 8, 9, 10, 11, 12, 13, 14, 15, 16, 17, 18] rfl
    refine va_calli (va_runV (As := [.int 0, .int 9999]) (rest := [.int x3, .ref (a 9)]) ⟨hx, hb, hml, hown, htz⟩ ((m_55 c_42) H.size) (cwV 2 htz (z_gV (fun _ h => h) km_Mo_109 in_Mo_number se_Mo_number ini_Mo m_Mo_number) rfl rfl rfl (by decide +kernel) ⟨(Nat.le_of_ble_eq_true rfl), (Nat.le_of_ble_eq_true rfl)⟩) ⟨z_blind, va_recv hK hP (ci := 4) (q0 := 0) rfl rfl, fun U hU hW => ⟨rfl, by rw [hU], hE.call hS hFc hU hW, by rw [hU]; exact hP, va_K.moved hW.alike hK, hD.weaken (fun _ _ _ _ => trivial)⟩⟩ rfl rfl hl.1 rfl (lv_room (Nat.le_of_ble_eq_true rfl)) d_Mo_jump_55 ⟨(Nat.le_of_ble_eq_true rfl), (Nat.le_of_ble_eq_true rfl)⟩) hS (fun q _ h => hFc q h) hFc (fun r u t H1 locs ht hvm hw hB hz1 hk1 hS => ?_)
    obtain ⟨hP1, hK1, hD1⟩ := hB
    rw [ht] at hP1
    exact (k_55 c_42) r _ _ hw H1 locs ls (lv_sub hl [1, 2, 3, 4, 0] rfl) hP1 (hD1.weaken (fun _ q _ h => hFc _ h)) hS
set_option maxHeartbeats 1000000 in
set_option maxRecDepth 100000 in
theorem k_Mo_jump_58 {C : CT} (X : cM C "QuestionTextModel" b_Mo_jump 5 (some .boolean)) (Post : Int32 → FT → GT → Prop) {P_62 : FT → GT → Prop} (x1 : Int32) (x2 : Int32) (x3 : Int32) (x4 : Int32) (y0 : Int32) (y1 : Int32) (f : FT) (g : GT)
    (h_58 : vp_in (y1) 14640)
    (m_62 : mV C.1 y_Mo_take (Cond.code y_Mo_take b_Mo_take 2 none) 2 [.ref (ad C.1 0), .int 45] f (va_up g 8 (upd (g 8) (y1 : Int32).toNatClampNeg y0)) P_62)
    (k_62 : ∀ (f1 : FT) (g1 : GT), P_62 f1 g1 → zn_jump C Post 65 [(0, .ref (ad C.1 0)), (1, .int x1), (2, .int x2), (3, .int x3), (4, .int x4)] [] f1 g1) : zn_jump C Post 58 [(0, .ref (ad C.1 0)), (1, .int x1), (2, .int x2), (3, .int x3), (4, .int x4)] [.int y0, .int y1, .ref (ad C.1 9)] f g := by
  obtain ⟨⟨l, dC, dI, k, a⟩, p, e, s, m, args, below, meth, c, A⟩ := C
  obtain ⟨hx, hb, hr, htz, hown, hlocks, hml, hE, hK, hA⟩ := X
  intro H locs ls hl hP hD hS
  have hl : lv_has ls 5 [(0, .ref (a 0)), (1, .int x1), (2, .int x2), (3, .int x3), (4, .int x4)] := hl
  have hP : va_P (dC, dI) classes (mw k a f g) H := hP
  have hD : va_D A (mw k a f g) := hD
  show W p l e (z_rm 3 0 0) s m args below meth c H locs 0 0 _ (F0 m 58 ls [.int y0, .int y1, .ref (a 9)])
  refine va_iast hx hb hK hP hD hS 9 0 rfl rfl h_58 d_Mo_jump_58 (fun H locs hP hD hS => ?_)
  replace hP := mg_8 (c := upd (g 8) (y1 : Int32).toNatClampNeg y0) hP
  replace hD := mh_8 (c := upd (g 8) (y1 : Int32).toNatClampNeg y0) hD
  refine lv_aload_n hx hb d_Mo_jump_59 rfl (lv_at hl 0 rfl) ?_
  refine lv_bipush (v := 45) hx hb d_Mo_jump_60 (by decide) ?_
  have hFc := va_free (wc := mw k a f (va_up g 8 (upd (g 8) (y1 : Int32).toNatClampNeg y0))) hD hS hA [0, 1, 2, 3, 4, 5, 6, 7, 8, 9, 10, 11, 12, 13, 14, 15, 16, 17, 18] rfl
  refine va_callv (va_runV (As := [.int 45]) (rest := []) ⟨hx, hb, hml, hown, htz⟩ (m_62 H.size) (cwV 1 htz (z_gV (fun _ h => h) km_Mo_103 in_Mo_take se_Mo_take ini_Mo m_Mo_take) rfl rfl rfl (by decide +kernel) ⟨(Nat.le_of_ble_eq_true rfl), (Nat.le_of_ble_eq_true rfl)⟩) ⟨z_blind, va_recv hK hP (ci := 4) (q0 := 0) rfl rfl, fun U hU hW => ⟨rfl, by rw [hU], hE.call hS hFc hU hW, by rw [hU]; exact hP, va_K.moved hW.alike hK, hD.weaken (fun _ _ _ _ => trivial)⟩⟩ rfl rfl hl.1 rfl (lv_room (Nat.le_of_ble_eq_true rfl)) d_Mo_jump_62 ⟨(Nat.le_of_ble_eq_true rfl), (Nat.le_of_ble_eq_true rfl)⟩) hS (fun q _ h => hFc q h) hFc (fun u t H1 locs ht hvm hw hB hz1 hk1 hS => ?_)
  obtain ⟨hP1, hK1, hD1⟩ := hB
  rw [ht] at hP1
  exact k_62 _ _ hw H1 locs ls (lv_sub hl [0, 1, 2, 3, 4] rfl) hP1 (hD1.weaken (fun _ q _ h => hFc _ h)) hS
set_option maxHeartbeats 1000000 in
set_option maxRecDepth 100000 in
theorem k_Mo_jump_65 {C : CT} (X : cM C "QuestionTextModel" b_Mo_jump 5 (some .boolean)) (Post : Int32 → FT → GT → Prop) {P_82 : Int32 → FT → GT → Prop} (x1 : Int32) (x2 : Int32) (x3 : Int32) (x4 : Int32) (f : FT) (g : GT)
    (h_78 : vp_in (x3) 14640)
    (m_82 : mI C.1 y_Mo_number (Cond.code y_Mo_number b_Mo_number 4 (some .int)) 2 [.ref (ad C.1 0), .int (g 8 (x3 : Int32).toNatClampNeg), .int 9999] f g P_82)
    (k_82 : ∀ (r : Int32) (f1 : FT) (g1 : GT), P_82 r f1 g1 → zn_jump C Post 85 [(0, .ref (ad C.1 0)), (1, .int x1), (2, .int x2), (3, .int x3), (4, .int x4)] [.int r, .int (x3 + 1), .ref (ad C.1 9)] f1 g1) : zn_jump C Post 65 [(0, .ref (ad C.1 0)), (1, .int x1), (2, .int x2), (3, .int x3), (4, .int x4)] [] f g := by
  obtain ⟨⟨l, dC, dI, k, a⟩, p, e, s, m, args, below, meth, c, A⟩ := C
  obtain ⟨hx, hb, hr, htz, hown, hlocks, hml, hE, hK, hA⟩ := X
  intro H locs ls hl hP hD hS
  have hl : lv_has ls 5 [(0, .ref (a 0)), (1, .int x1), (2, .int x2), (3, .int x3), (4, .int x4)] := hl
  have hP : va_P (dC, dI) classes (mw k a f g) H := hP
  have hD : va_D A (mw k a f g) := hD
  show W p l e (z_rm 3 0 0) s m args below meth c H locs 0 0 _ (F0 m 65 ls [])
  refine lv_aload_n hx hb d_Mo_jump_65 rfl (lv_at hl 0 rfl) ?_
  refine va_get (D := (dC, dI)) (ci := 4) (v := .ref (a 9)) (C := R_Mo) (T := F_Mo) (N := 31) hx hb htz i_Mo hown hK hP 0 rfl rfl 13 (by decide) (htz _ kf_Mo_39) (fun _ h9 => h9) rfl d_Mo_jump_66 ?_
  refine lv_iload_n hx hb d_Mo_jump_69 rfl (lv_at hl 3 rfl) ?_
  refine lv_iconst (v := 1) hx hb d_Mo_jump_70 (by decide) ?_
  refine lv_iadd hx hb d_Mo_jump_71 ?_
  refine lv_aload_n hx hb d_Mo_jump_72 rfl (lv_at hl 0 rfl) ?_
  refine lv_aload_n hx hb d_Mo_jump_73 rfl (lv_at hl 0 rfl) ?_
  refine va_get (D := (dC, dI)) (ci := 4) (v := .ref (a 9)) (C := R_Mo) (T := F_Mo) (N := 31) hx hb htz i_Mo hown hK hP 0 rfl rfl 13 (by decide) (htz _ kf_Mo_39) (fun _ h9 => h9) rfl d_Mo_jump_74 ?_
  refine lv_iload_n hx hb d_Mo_jump_77 rfl (lv_at hl 3 rfl) ?_
  refine va_iald hx hb hK hP 9 0 rfl rfl h_78 d_Mo_jump_78 ?_
  refine lv_sipush (v := 9999) hx hb d_Mo_jump_79 (by decide) ?_
  have hFc := va_free (wc := mw k a f g) hD hS hA [0, 1, 2, 3, 4, 5, 6, 7, 8, 9, 10, 11, 12, 13, 14, 15, 16, 17, 18] rfl
  refine va_calli (va_runV (As := [.int (g 8 (x3 : Int32).toNatClampNeg), .int 9999]) (rest := [.int (x3 + 1), .ref (a 9)]) ⟨hx, hb, hml, hown, htz⟩ (m_82 H.size) (cwV 2 htz (z_gV (fun _ h => h) km_Mo_109 in_Mo_number se_Mo_number ini_Mo m_Mo_number) rfl rfl rfl (by decide +kernel) ⟨(Nat.le_of_ble_eq_true rfl), (Nat.le_of_ble_eq_true rfl)⟩) ⟨z_blind, va_recv hK hP (ci := 4) (q0 := 0) rfl rfl, fun U hU hW => ⟨rfl, by rw [hU], hE.call hS hFc hU hW, by rw [hU]; exact hP, va_K.moved hW.alike hK, hD.weaken (fun _ _ _ _ => trivial)⟩⟩ rfl rfl hl.1 rfl (lv_room (Nat.le_of_ble_eq_true rfl)) d_Mo_jump_82 ⟨(Nat.le_of_ble_eq_true rfl), (Nat.le_of_ble_eq_true rfl)⟩) hS (fun q _ h => hFc q h) hFc (fun r u t H1 locs ht hvm hw hB hz1 hk1 hS => ?_)
  obtain ⟨hP1, hK1, hD1⟩ := hB
  rw [ht] at hP1
  exact k_82 r _ _ hw H1 locs ls (lv_sub hl [0, 1, 2, 3, 4] rfl) hP1 (hD1.weaken (fun _ q _ h => hFc _ h)) hS
set_option maxHeartbeats 1000000 in
set_option maxRecDepth 100000 in
theorem k_Mo_jump_85 {C : CT} (X : cM C "QuestionTextModel" b_Mo_jump 5 (some .boolean)) (Post : Int32 → FT → GT → Prop) (x1 : Int32) (x2 : Int32) (x3 : Int32) (x4 : Int32) (y0 : Int32) (y1 : Int32) (f : FT) (g : GT)
    (h_85 : vp_in (y1) 14640)
    (k_86 : zn_jump C Post 86 [(0, .ref (ad C.1 0)), (1, .int x1), (2, .int x2), (3, .int x3), (4, .int x4)] [] f (va_up g 8 (upd (g 8) (y1 : Int32).toNatClampNeg y0))) : zn_jump C Post 85 [(0, .ref (ad C.1 0)), (1, .int x1), (2, .int x2), (3, .int x3), (4, .int x4)] [.int y0, .int y1, .ref (ad C.1 9)] f g := by
  obtain ⟨⟨l, dC, dI, k, a⟩, p, e, s, m, args, below, meth, c, A⟩ := C
  obtain ⟨hx, hb, hr, htz, hown, hlocks, hml, hE, hK, hA⟩ := X
  intro H locs ls hl hP hD hS
  have hl : lv_has ls 5 [(0, .ref (a 0)), (1, .int x1), (2, .int x2), (3, .int x3), (4, .int x4)] := hl
  have hP : va_P (dC, dI) classes (mw k a f g) H := hP
  have hD : va_D A (mw k a f g) := hD
  show W p l e (z_rm 3 0 0) s m args below meth c H locs 0 0 _ (F0 m 85 ls [.int y0, .int y1, .ref (a 9)])
  refine va_iast hx hb hK hP hD hS 9 0 rfl rfl h_85 d_Mo_jump_85 (fun H locs hP hD hS => ?_)
  replace hP := mg_8 (c := upd (g 8) (y1 : Int32).toNatClampNeg y0) hP
  replace hD := mh_8 (c := upd (g 8) (y1 : Int32).toNatClampNeg y0) hD
  exact k_86 H locs ls (lv_sub hl [0, 1, 2, 3, 4] rfl) hP hD hS
set_option maxHeartbeats 1000000 in
set_option maxRecDepth 100000 in
theorem k_Mo_jump_86 {C : CT} (X : cM C "QuestionTextModel" b_Mo_jump 5 (some .boolean)) (Post : Int32 → FT → GT → Prop) {P_89 : FT → GT → Prop} (x1 : Int32) (x2 : Int32) (x3 : Int32) (x4 : Int32) (f : FT) (g : GT)
    (m_89 : mV C.1 y_Mo_take (Cond.code y_Mo_take b_Mo_take 2 none) 2 [.ref (ad C.1 0), .int 62] f g P_89)
    (k_89 : ∀ (f1 : FT) (g1 : GT), P_89 f1 g1 → zn_jump C Post 92 [(0, .ref (ad C.1 0)), (1, .int x1), (2, .int x2), (3, .int x3), (4, .int x4)] [] f1 g1) : zn_jump C Post 86 [(0, .ref (ad C.1 0)), (1, .int x1), (2, .int x2), (3, .int x3), (4, .int x4)] [] f g := by
  obtain ⟨⟨l, dC, dI, k, a⟩, p, e, s, m, args, below, meth, c, A⟩ := C
  obtain ⟨hx, hb, hr, htz, hown, hlocks, hml, hE, hK, hA⟩ := X
  intro H locs ls hl hP hD hS
  have hl : lv_has ls 5 [(0, .ref (a 0)), (1, .int x1), (2, .int x2), (3, .int x3), (4, .int x4)] := hl
  have hP : va_P (dC, dI) classes (mw k a f g) H := hP
  have hD : va_D A (mw k a f g) := hD
  show W p l e (z_rm 3 0 0) s m args below meth c H locs 0 0 _ (F0 m 86 ls [])
  refine lv_aload_n hx hb d_Mo_jump_86 rfl (lv_at hl 0 rfl) ?_
  refine lv_bipush (v := 62) hx hb d_Mo_jump_87 (by decide) ?_
  have hFc := va_free (wc := mw k a f g) hD hS hA [0, 1, 2, 3, 4, 5, 6, 7, 8, 9, 10, 11, 12, 13, 14, 15, 16, 17, 18] rfl
  refine va_callv (va_runV (As := [.int 62]) (rest := []) ⟨hx, hb, hml, hown, htz⟩ (m_89 H.size) (cwV 1 htz (z_gV (fun _ h => h) km_Mo_103 in_Mo_take se_Mo_take ini_Mo m_Mo_take) rfl rfl rfl (by decide +kernel) ⟨(Nat.le_of_ble_eq_true rfl), (Nat.le_of_ble_eq_true rfl)⟩) ⟨z_blind, va_recv hK hP (ci := 4) (q0 := 0) rfl rfl, fun U hU hW => ⟨rfl, by rw [hU], hE.call hS hFc hU hW, by rw [hU]; exact hP, va_K.moved hW.alike hK, hD.weaken (fun _ _ _ _ => trivial)⟩⟩ rfl rfl hl.1 rfl (lv_room (Nat.le_of_ble_eq_true rfl)) d_Mo_jump_89 ⟨(Nat.le_of_ble_eq_true rfl), (Nat.le_of_ble_eq_true rfl)⟩) hS (fun q _ h => hFc q h) hFc (fun u t H1 locs ht hvm hw hB hz1 hk1 hS => ?_)
  obtain ⟨hP1, hK1, hD1⟩ := hB
  rw [ht] at hP1
  exact k_89 _ _ hw H1 locs ls (lv_sub hl [0, 1, 2, 3, 4] rfl) hP1 (hD1.weaken (fun _ q _ h => hFc _ h)) hS
set_option maxHeartbeats 1000000 in
set_option maxRecDepth 100000 in
theorem k_Mo_jump_92 {C : CT} (X : cM C "QuestionTextModel" b_Mo_jump 5 (some .boolean)) (Post : Int32 → FT → GT → Prop) {P_103 : Int32 → FT → GT → Prop} (x1 : Int32) (x2 : Int32) (x3 : Int32) (x4 : Int32) (f : FT) (g : GT)
    (m_103 : mI C.1 y_Mo_number (Cond.code y_Mo_number b_Mo_number 4 (some .int)) 2 [.ref (ad C.1 0), .int 0, .int 60] f g P_103)
    (k_103 : ∀ (r : Int32) (f1 : FT) (g1 : GT), P_103 r f1 g1 → zn_jump C Post 106 [(0, .ref (ad C.1 0)), (1, .int x1), (2, .int x2), (3, .int x3), (4, .int x4)] [.int r, .int (x3 + 2), .ref (ad C.1 9)] f1 g1) : zn_jump C Post 92 [(0, .ref (ad C.1 0)), (1, .int x1), (2, .int x2), (3, .int x3), (4, .int x4)] [] f g := by
  obtain ⟨⟨l, dC, dI, k, a⟩, p, e, s, m, args, below, meth, c, A⟩ := C
  obtain ⟨hx, hb, hr, htz, hown, hlocks, hml, hE, hK, hA⟩ := X
  intro H locs ls hl hP hD hS
  have hl : lv_has ls 5 [(0, .ref (a 0)), (1, .int x1), (2, .int x2), (3, .int x3), (4, .int x4)] := hl
  have hP : va_P (dC, dI) classes (mw k a f g) H := hP
  have hD : va_D A (mw k a f g) := hD
  show W p l e (z_rm 3 0 0) s m args below meth c H locs 0 0 _ (F0 m 92 ls [])
  refine lv_aload_n hx hb d_Mo_jump_92 rfl (lv_at hl 0 rfl) ?_
  refine va_get (D := (dC, dI)) (ci := 4) (v := .ref (a 9)) (C := R_Mo) (T := F_Mo) (N := 31) hx hb htz i_Mo hown hK hP 0 rfl rfl 13 (by decide) (htz _ kf_Mo_39) (fun _ h9 => h9) rfl d_Mo_jump_93 ?_
  refine lv_iload_n hx hb d_Mo_jump_96 rfl (lv_at hl 3 rfl) ?_
  refine lv_iconst (v := 2) hx hb d_Mo_jump_97 (by decide) ?_
  refine lv_iadd hx hb d_Mo_jump_98 ?_
  refine lv_aload_n hx hb d_Mo_jump_99 rfl (lv_at hl 0 rfl) ?_
  refine lv_iconst (v := 0) hx hb d_Mo_jump_100 (by decide) ?_
  refine lv_bipush (v := 60) hx hb d_Mo_jump_101 (by decide) ?_
  have hFc := va_free (wc := mw k a f g) hD hS hA [0, 1, 2, 3, 4, 5, 6, 7, 8, 9, 10, 11, 12, 13, 14, 15, 16, 17, 18] rfl
  refine va_calli (va_runV (As := [.int 0, .int 60]) (rest := [.int (x3 + 2), .ref (a 9)]) ⟨hx, hb, hml, hown, htz⟩ (m_103 H.size) (cwV 2 htz (z_gV (fun _ h => h) km_Mo_109 in_Mo_number se_Mo_number ini_Mo m_Mo_number) rfl rfl rfl (by decide +kernel) ⟨(Nat.le_of_ble_eq_true rfl), (Nat.le_of_ble_eq_true rfl)⟩) ⟨z_blind, va_recv hK hP (ci := 4) (q0 := 0) rfl rfl, fun U hU hW => ⟨rfl, by rw [hU], hE.call hS hFc hU hW, by rw [hU]; exact hP, va_K.moved hW.alike hK, hD.weaken (fun _ _ _ _ => trivial)⟩⟩ rfl rfl hl.1 rfl (lv_room (Nat.le_of_ble_eq_true rfl)) d_Mo_jump_103 ⟨(Nat.le_of_ble_eq_true rfl), (Nat.le_of_ble_eq_true rfl)⟩) hS (fun q _ h => hFc q h) hFc (fun r u t H1 locs ht hvm hw hB hz1 hk1 hS => ?_)
  obtain ⟨hP1, hK1, hD1⟩ := hB
  rw [ht] at hP1
  exact k_103 r _ _ hw H1 locs ls (lv_sub hl [0, 1, 2, 3, 4] rfl) hP1 (hD1.weaken (fun _ q _ h => hFc _ h)) hS
set_option maxHeartbeats 1000000 in
set_option maxRecDepth 100000 in
theorem k_Mo_jump_106 {C : CT} (X : cM C "QuestionTextModel" b_Mo_jump 5 (some .boolean)) (Post : Int32 → FT → GT → Prop) {P_124 : Int32 → FT → GT → Prop} (x1 : Int32) (x2 : Int32) (x3 : Int32) (x4 : Int32) (y0 : Int32) (y1 : Int32) (f : FT) (g : GT)
    (h_106 : vp_in (y1) 14640)
    (h_115 : vp_in (x3 + 3) 14640)
    (k_158 : (0 ≤ f 6) → zn_jump C Post 158 [(0, .ref (ad C.1 0)), (1, .int x1), (2, .int x2), (3, .int x3), (4, .int x4)] [] f (va_up (va_up g 8 (upd (g 8) (y1 : Int32).toNatClampNeg y0)) 8 (upd (upd (g 8) (y1 : Int32).toNatClampNeg y0) (x3 + 3 : Int32).toNatClampNeg 0)))
    (m_124 : (¬ 0 ≤ f 6) → mI C.1 y_Mo_see (Cond.code y_Mo_see b_Mo_see 1 (some .int)) 1 [.ref (ad C.1 0)] f (va_up (va_up g 8 (upd (g 8) (y1 : Int32).toNatClampNeg y0)) 8 (upd (upd (g 8) (y1 : Int32).toNatClampNeg y0) (x3 + 3 : Int32).toNatClampNeg 0)) P_124)
    (k_124 : (¬ 0 ≤ f 6) → ∀ (r : Int32) (f1 : FT) (g1 : GT), P_124 r f1 g1 → zn_jump C Post 127 [(0, .ref (ad C.1 0)), (1, .int x1), (2, .int x2), (3, .int x3), (4, .int x4)] [.int r] f1 g1) : zn_jump C Post 106 [(0, .ref (ad C.1 0)), (1, .int x1), (2, .int x2), (3, .int x3), (4, .int x4)] [.int y0, .int y1, .ref (ad C.1 9)] f g := by
  obtain ⟨⟨l, dC, dI, k, a⟩, p, e, s, m, args, below, meth, c, A⟩ := C
  obtain ⟨hx, hb, hr, htz, hown, hlocks, hml, hE, hK, hA⟩ := X
  intro H locs ls hl hP hD hS
  have hl : lv_has ls 5 [(0, .ref (a 0)), (1, .int x1), (2, .int x2), (3, .int x3), (4, .int x4)] := hl
  have hP : va_P (dC, dI) classes (mw k a f g) H := hP
  have hD : va_D A (mw k a f g) := hD
  show W p l e (z_rm 3 0 0) s m args below meth c H locs 0 0 _ (F0 m 106 ls [.int y0, .int y1, .ref (a 9)])
  refine va_iast hx hb hK hP hD hS 9 0 rfl rfl h_106 d_Mo_jump_106 (fun H locs hP hD hS => ?_)
  replace hP := mg_8 (c := upd (g 8) (y1 : Int32).toNatClampNeg y0) hP
  replace hD := mh_8 (c := upd (g 8) (y1 : Int32).toNatClampNeg y0) hD
  refine lv_aload_n hx hb d_Mo_jump_107 rfl (lv_at hl 0 rfl) ?_
  refine va_get (D := (dC, dI)) (ci := 4) (v := .ref (a 9)) (C := R_Mo) (T := F_Mo) (N := 31) hx hb htz i_Mo hown hK hP 0 rfl rfl 13 (by decide) (htz _ kf_Mo_39) (fun _ h9 => h9) rfl d_Mo_jump_108 ?_
  refine lv_iload_n hx hb d_Mo_jump_111 rfl (lv_at hl 3 rfl) ?_
  refine lv_iconst (v := 3) hx hb d_Mo_jump_112 (by decide) ?_
  refine lv_iadd hx hb d_Mo_jump_113 ?_
  refine lv_iconst (v := 0) hx hb d_Mo_jump_114 (by decide) ?_
  refine va_iast hx hb hK hP hD hS 9 0 rfl rfl h_115 d_Mo_jump_115 (fun H locs hP hD hS => ?_)
  replace hP := mg_8 (c := upd (upd (g 8) (y1 : Int32).toNatClampNeg y0) (x3 + 3 : Int32).toNatClampNeg 0) hP
  replace hD := mh_8 (c := upd (upd (g 8) (y1 : Int32).toNatClampNeg y0) (x3 + 3 : Int32).toNatClampNeg 0) hD
  refine lv_aload_n hx hb d_Mo_jump_116 rfl (lv_at hl 0 rfl) ?_
  refine va_get (D := (dC, dI)) (ci := 4) (v := .int (f 6)) (C := R_Mo) (T := F_Mo) (N := 31) hx hb htz i_Mo hown hK hP 0 rfl rfl 19 (by decide) (htz _ kf_Mo_86) (fun _ h9 => h9) rfl d_Mo_jump_117 ?_
  refine lv_if_ge (tgt := 158) hx hb d_Mo_jump_120 (by decide) (fun c_120 => ?_) (fun c_120 => ?_)
  · exact (k_158 c_120) H locs ls (lv_sub hl [0, 1, 2, 3, 4] rfl) hP hD hS
  · refine lv_aload_n hx hb d_Mo_jump_123 rfl (lv_at hl 0 rfl) ?_
    have hFc := va_free (wc := mw k a f (va_up (va_up g 8 (upd (g 8) (y1 : Int32).toNatClampNeg y0)) 8 (upd (upd (g 8) (y1 : Int32).toNatClampNeg y0) (x3 + 3 : Int32).toNatClampNeg 0))) hD hS hA [0, 1, 2, 3, 4, 5, 6, 7, 8, 9, 10, 11, 12, 13, 14, 15, 16, 17, 18] rfl
    refine va_calli (va_runV (As := []) (rest := []) ⟨hx, hb, hml, hown, htz⟩ ((m_124 c_120) H.size) (cwV 0 htz (z_gV (fun _ h => h) km_Mo_89 in_Mo_see se_Mo_see ini_Mo m_Mo_see) rfl rfl rfl (by decide +kernel) ⟨(Nat.le_of_ble_eq_true rfl), (Nat.le_of_ble_eq_true rfl)⟩) ⟨z_blind, va_recv hK hP (ci := 4) (q0 := 0) rfl rfl, fun U hU hW => ⟨rfl, by rw [hU], hE.call hS hFc hU hW, by rw [hU]; exact hP, va_K.moved hW.alike hK, hD.weaken (fun _ _ _ _ => trivial)⟩⟩ rfl rfl hl.1 rfl (lv_room (Nat.le_of_ble_eq_true rfl)) d_Mo_jump_124 ⟨(Nat.le_of_ble_eq_true rfl), (Nat.le_of_ble_eq_true rfl)⟩) hS (fun q _ h => hFc q h) hFc (fun r u t H1 locs ht hvm hw hB hz1 hk1 hS => ?_)
    obtain ⟨hP1, hK1, hD1⟩ := hB
    rw [ht] at hP1
    exact (k_124 c_120) r _ _ hw H1 locs ls (lv_sub hl [0, 1, 2, 3, 4] rfl) hP1 (hD1.weaken (fun _ q _ h => hFc _ h)) hS
set_option maxHeartbeats 1000000 in
set_option maxRecDepth 100000 in
theorem k_Mo_jump_127 {C : CT} (X : cM C "QuestionTextModel" b_Mo_jump 5 (some .boolean)) (Post : Int32 → FT → GT → Prop) {P_154 : Int32 → FT → GT → Prop} (x1 : Int32) (x2 : Int32) (x3 : Int32) (x4 : Int32) (y0 : Int32) (f : FT) (g : GT)
    (k_158 : (¬ y0 = 43) → zn_jump C Post 158 [(0, .ref (ad C.1 0)), (1, .int x1), (2, .int x2), (3, .int x3), (4, .int x4)] [] f g)
    (m_154 : (y0 = 43) → mI C.1 y_Mo_number (Cond.code y_Mo_number b_Mo_number 4 (some .int)) 2 [.ref (ad C.1 0), .int 0, .int 999] (va_up f 5 ((f 5) + 1)) g P_154)
    (k_154 : (y0 = 43) → ∀ (r : Int32) (f1 : FT) (g1 : GT), P_154 r f1 g1 → zn_jump C Post 157 [(0, .ref (ad C.1 0)), (1, .int x1), (2, .int x2), (3, .int x3), (4, .int x4)] [.int r, .int (x3 + 3), .ref (ad C.1 9)] f1 g1) : zn_jump C Post 127 [(0, .ref (ad C.1 0)), (1, .int x1), (2, .int x2), (3, .int x3), (4, .int x4)] [.int y0] f g := by
  obtain ⟨⟨l, dC, dI, k, a⟩, p, e, s, m, args, below, meth, c, A⟩ := C
  obtain ⟨hx, hb, hr, htz, hown, hlocks, hml, hE, hK, hA⟩ := X
  intro H locs ls hl hP hD hS
  have hl : lv_has ls 5 [(0, .ref (a 0)), (1, .int x1), (2, .int x2), (3, .int x3), (4, .int x4)] := hl
  have hP : va_P (dC, dI) classes (mw k a f g) H := hP
  have hD : va_D A (mw k a f g) := hD
  show W p l e (z_rm 3 0 0) s m args below meth c H locs 0 0 _ (F0 m 127 ls [.int y0])
  refine lv_bipush (v := 43) hx hb d_Mo_jump_127 (by decide) ?_
  refine lv_icmp_ne (tgt := 158) hx hb d_Mo_jump_129 (by decide) (fun c_129 => ?_) (fun c_129 => ?_)
  · exact (k_158 c_129) H locs ls (lv_sub hl [0, 1, 2, 3, 4] rfl) hP hD hS
  · refine lv_aload_n hx hb d_Mo_jump_132 rfl (lv_at hl 0 rfl) ?_
    refine lv_dup hx hb d_Mo_jump_133 rfl ?_
    refine va_get (D := (dC, dI)) (ci := 4) (v := .int (f 5)) (C := R_Mo) (T := F_Mo) (N := 31) hx hb htz i_Mo hown hK hP 0 rfl rfl 18 (by decide) (htz _ kf_Mo_79) (fun _ h9 => h9) rfl d_Mo_jump_134 ?_
    refine lv_iconst (v := 1) hx hb d_Mo_jump_137 (by decide) ?_
    refine lv_iadd hx hb d_Mo_jump_138 ?_
    refine va_put (D := (dC, dI)) (ci := 4) (v := .int ((f 5) + 1)) (ty := .int) (C := R_Mo) (T := F_Mo) (N := 31) hx hb htz i_Mo t_Mo o_Mo n_Mo hown hK hP hD hS 0 rfl rfl 18 (by decide) (htz _ kf_Mo_79) (fun _ h9 => h9) rfl (by decide +kernel) rfl rfl (Nat.le_of_ble_eq_true rfl) d_Mo_jump_139 (fun H locs hP hD hS => ?_)
    replace hP := mf_5 (v := (f 5) + 1) hP
    replace hD := md_5 (v := (f 5) + 1) hD
    refine lv_aload_n hx hb d_Mo_jump_142 rfl (lv_at hl 0 rfl) ?_
    refine va_get (D := (dC, dI)) (ci := 4) (v := .ref (a 9)) (C := R_Mo) (T := F_Mo) (N := 31) hx hb htz i_Mo hown hK hP 0 rfl rfl 13 (by decide) (htz _ kf_Mo_39) (fun _ h9 => h9) rfl d_Mo_jump_143 ?_
    refine lv_iload_n hx hb d_Mo_jump_146 rfl (lv_at hl 3 rfl) ?_
    refine lv_iconst (v := 3) hx hb d_Mo_jump_147 (by decide) ?_
    refine lv_iadd hx hb d_Mo_jump_148 ?_
    refine lv_aload_n hx hb d_Mo_jump_149 rfl (lv_at hl 0 rfl) ?_
    refine lv_iconst (v := 0) hx hb d_Mo_jump_150 (by decide) ?_
    refine lv_sipush (v := 999) hx hb d_Mo_jump_151 (by decide) ?_
    have hFc := va_free (wc := mw k a (va_up f 5 ((f 5) + 1)) g) hD hS hA [0, 1, 2, 3, 4, 5, 6, 7, 8, 9, 10, 11, 12, 13, 14, 15, 16, 17, 18] rfl
    refine va_calli (va_runV (As := [.int 0, .int 999]) (rest := [.int (x3 + 3), .ref (a 9)]) ⟨hx, hb, hml, hown, htz⟩ ((m_154 c_129) H.size) (cwV 2 htz (z_gV (fun _ h => h) km_Mo_109 in_Mo_number se_Mo_number ini_Mo m_Mo_number) rfl rfl rfl (by decide +kernel) ⟨(Nat.le_of_ble_eq_true rfl), (Nat.le_of_ble_eq_true rfl)⟩) ⟨z_blind, va_recv hK hP (ci := 4) (q0 := 0) rfl rfl, fun U hU hW => ⟨rfl, by rw [hU], hE.call hS hFc hU hW, by rw [hU]; exact hP, va_K.moved hW.alike hK, hD.weaken (fun _ _ _ _ => trivial)⟩⟩ rfl rfl hl.1 rfl (lv_room (Nat.le_of_ble_eq_true rfl)) d_Mo_jump_154 ⟨(Nat.le_of_ble_eq_true rfl), (Nat.le_of_ble_eq_true rfl)⟩) hS (fun q _ h => hFc q h) hFc (fun r u t H1 locs ht hvm hw hB hz1 hk1 hS => ?_)
    obtain ⟨hP1, hK1, hD1⟩ := hB
    rw [ht] at hP1
    exact (k_154 c_129) r _ _ hw H1 locs ls (lv_sub hl [0, 1, 2, 3, 4] rfl) hP1 (hD1.weaken (fun _ q _ h => hFc _ h)) hS
set_option maxHeartbeats 1000000 in
set_option maxRecDepth 100000 in
theorem k_Mo_jump_157 {C : CT} (X : cM C "QuestionTextModel" b_Mo_jump 5 (some .boolean)) (Post : Int32 → FT → GT → Prop) (x1 : Int32) (x2 : Int32) (x3 : Int32) (x4 : Int32) (y0 : Int32) (y1 : Int32) (f : FT) (g : GT)
    (h_157 : vp_in (y1) 14640)
    (k_158 : zn_jump C Post 158 [(0, .ref (ad C.1 0)), (1, .int x1), (2, .int x2), (3, .int x3), (4, .int x4)] [] f (va_up g 8 (upd (g 8) (y1 : Int32).toNatClampNeg y0))) : zn_jump C Post 157 [(0, .ref (ad C.1 0)), (1, .int x1), (2, .int x2), (3, .int x3), (4, .int x4)] [.int y0, .int y1, .ref (ad C.1 9)] f g := by
  obtain ⟨⟨l, dC, dI, k, a⟩, p, e, s, m, args, below, meth, c, A⟩ := C
  obtain ⟨hx, hb, hr, htz, hown, hlocks, hml, hE, hK, hA⟩ := X
  intro H locs ls hl hP hD hS
  have hl : lv_has ls 5 [(0, .ref (a 0)), (1, .int x1), (2, .int x2), (3, .int x3), (4, .int x4)] := hl
  have hP : va_P (dC, dI) classes (mw k a f g) H := hP
  have hD : va_D A (mw k a f g) := hD
  show W p l e (z_rm 3 0 0) s m args below meth c H locs 0 0 _ (F0 m 157 ls [.int y0, .int y1, .ref (a 9)])
  refine va_iast hx hb hK hP hD hS 9 0 rfl rfl h_157 d_Mo_jump_157 (fun H locs hP hD hS => ?_)
  replace hP := mg_8 (c := upd (g 8) (y1 : Int32).toNatClampNeg y0) hP
  replace hD := mh_8 (c := upd (g 8) (y1 : Int32).toNatClampNeg y0) hD
  exact k_158 H locs ls (lv_sub hl [0, 1, 2, 3, 4] rfl) hP hD hS
set_option maxHeartbeats 1000000 in
set_option maxRecDepth 100000 in
theorem k_Mo_jump_158 {C : CT} (X : cM C "QuestionTextModel" b_Mo_jump 5 (some .boolean)) (Post : Int32 → FT → GT → Prop) (x1 : Int32) (x2 : Int32) (x3 : Int32) (x4 : Int32) (f : FT) (g : GT)
    (q_160 : Post (x4) f g)
    (z_160 : narrow .boolean (.int (x4)) = .int (x4)) : zn_jump C Post 158 [(0, .ref (ad C.1 0)), (1, .int x1), (2, .int x2), (3, .int x3), (4, .int x4)] [] f g := by
  obtain ⟨⟨l, dC, dI, k, a⟩, p, e, s, m, args, below, meth, c, A⟩ := C
  obtain ⟨hx, hb, hr, htz, hown, hlocks, hml, hE, hK, hA⟩ := X
  intro H locs ls hl hP hD hS
  have hl : lv_has ls 5 [(0, .ref (a 0)), (1, .int x1), (2, .int x2), (3, .int x3), (4, .int x4)] := hl
  have hP : va_P (dC, dI) classes (mw k a f g) H := hP
  have hD : va_D A (mw k a f g) := hD
  show W p l e (z_rm 3 0 0) s m args below meth c H locs 0 0 _ (F0 m 158 ls [])
  refine lv_iload hx hb d_Mo_jump_158 (lv_at hl 4 rfl) ?_
  exact W.zret (v := x4) (ty := .boolean) hx hb hr z_160 (fun t ht hW => ⟨⟨_, (f, g), rfl, q_160, by rw [ht]; exact hP, va_K.moved hW.alike hK, hD⟩, hS.F ht⟩) hS.2.2 d_Mo_jump_160
set_option maxHeartbeats 1000000 in
set_option maxRecDepth 100000 in
theorem e_Mo_jump (T : ST) (Post : Int32 → FT → GT → Prop) (x1 : Int32) (x2 : Int32) (f : FT) (g : GT) (h : ∀ C : CT, C.1 = T → cM C "QuestionTextModel" b_Mo_jump 5 (some .boolean) → zn_jump C Post 0 [(0, .ref (ad C.1 0)), (1, .int x1), (2, .int x2)] [] f g) : mI T y_Mo_jump (Cond.code y_Mo_jump b_Mo_jump 5 (some .boolean)) 3 [.ref (ad T 0), .int x1, .int x2] f g Post := by
  obtain ⟨l, dC, dI, k, a⟩ := T
  intro sz
  refine Met.ofW (cc := b_Mo_jump) (maxL := 5) (ret := (some .boolean)) (by decide) rfl ?_
  intro p e s m args below meth c s₁ B hml hv
  obtain ⟨rfl, hsz, hE, hP, hK, hD0⟩ := hv
  have hts := atoms_spec (ws := (Cond.code y_Mo_jump b_Mo_jump 5 (some .boolean)) :: z_T) B.pre
  have htz : ∀ w ∈ z_T, w.before _ s = true := fun w h => hts w (z_cons w h)
  subst hsz
  have hD := hD0.self (sz := s.heap.size)
  generalize hAe : va_A (mw k a f g) s.heap.size = A at hD hE ⊢
  have hA : ∀ q : Nat, s.heap.size ≤ q → A q := fun q h => by rw [← hAe]; exact Or.inr h
  have hl := lv_entry ([.ref (a 0), .int x1, .int x2]) (n := 5) (Nat.le_of_ble_eq_true rfl)
  rw [lg_entry_eq]
  generalize (lg_sl ([.ref (a 0), .int x1, .int x2]) ++ List.replicate (5 - (lg_sl ([.ref (a 0), .int x1, .int x2])).length) Slot.unset).toArray = ls at hl ⊢
  exact h ((l, dC, dI, k, a), p, e, s, m, ([.ref (a 0), .int x1, .int x2] : List Value).toArray, below, meth, c, A) rfl ⟨B.exec, B.bytes, B.returns, htz, findClass_of_methodNamed B.named, B.notSynchronized, hml, hE, hK, hA⟩ s.heap [] ls hl hP hD va_S.rf
def zn_kindRow (C : CT) (Post : FT → GT → Prop) (pc : Nat) (loc : List (Nat × Value)) (st : List Value) (f : FT) (g : GT) : Prop := zW C (z_rm 5 0 0) 3 (qV C Post) 0 0 pc loc st (mM C.1 f g)
set_option maxHeartbeats 1000000 in
set_option maxRecDepth 100000 in
theorem k_Mo_kindRow_0 {C : CT} (X : cM C "QuestionTextModel" b_Mo_kindRow 3 none) (Post : FT → GT → Prop) {P_4 : Int32 → FT → GT → Prop} (f : FT) (g : GT)
    (m_4 : mI C.1 y_Mo_number (Cond.code y_Mo_number b_Mo_number 4 (some .int)) 2 [.ref (ad C.1 0), .int 1, .int 9] f g P_4)
    (k_4 : ∀ (r : Int32) (f1 : FT) (g1 : GT), P_4 r f1 g1 → zn_kindRow C Post 7 [(0, .ref (ad C.1 0))] [.int r] f1 g1) : zn_kindRow C Post 0 [(0, .ref (ad C.1 0))] [] f g := by
  obtain ⟨⟨l, dC, dI, k, a⟩, p, e, s, m, args, below, meth, c, A⟩ := C
  obtain ⟨hx, hb, hr, htz, hown, hlocks, hml, hE, hK, hA⟩ := X
  intro H locs ls hl hP hD hS
  have hl : lv_has ls 3 [(0, .ref (a 0))] := hl
  have hP : va_P (dC, dI) classes (mw k a f g) H := hP
  have hD : va_D A (mw k a f g) := hD
  show W p l e (z_rm 5 0 0) s m args below meth c H locs 0 0 _ (F0 m 0 ls [])
  refine lv_aload_n hx hb d_Mo_kindRow_0 rfl (lv_at hl 0 rfl) ?_
  refine lv_iconst (v := 1) hx hb d_Mo_kindRow_1 (by decide) ?_
  refine lv_bipush (v := 9) hx hb d_Mo_kindRow_2 (by decide) ?_
  have hFc := va_free (wc := mw k a f g) hD hS hA [0, 1, 2, 3, 4, 5, 6, 7, 8, 9, 10, 11, 12, 13, 14, 15, 16, 17, 18] rfl
  refine va_calli (va_runV (As := [.int 1, .int 9]) (rest := []) ⟨hx, hb, hml, hown, htz⟩ (m_4 H.size) (cwV 2 htz (z_gV (fun _ h => h) km_Mo_109 in_Mo_number se_Mo_number ini_Mo m_Mo_number) rfl rfl rfl (by decide +kernel) ⟨(Nat.le_of_ble_eq_true rfl), (Nat.le_of_ble_eq_true rfl)⟩) ⟨z_blind, va_recv hK hP (ci := 4) (q0 := 0) rfl rfl, fun U hU hW => ⟨rfl, by rw [hU], hE.call hS hFc hU hW, by rw [hU]; exact hP, va_K.moved hW.alike hK, hD.weaken (fun _ _ _ _ => trivial)⟩⟩ rfl rfl hl.1 rfl (lv_room (Nat.le_of_ble_eq_true rfl)) d_Mo_kindRow_4 ⟨(Nat.le_of_ble_eq_true rfl), (Nat.le_of_ble_eq_true rfl)⟩) hS (fun q _ h => hFc q h) hFc (fun r u t H1 locs ht hvm hw hB hz1 hk1 hS => ?_)
  obtain ⟨hP1, hK1, hD1⟩ := hB
  rw [ht] at hP1
  exact k_4 r _ _ hw H1 locs ls (lv_sub hl [0] rfl) hP1 (hD1.weaken (fun _ q _ h => hFc _ h)) hS
set_option maxHeartbeats 1000000 in
set_option maxRecDepth 100000 in
theorem k_Mo_kindRow_7 {C : CT} (X : cM C "QuestionTextModel" b_Mo_kindRow 3 none) (Post : FT → GT → Prop) {P_31 : FT → GT → Prop} (y0 : Int32) (f : FT) (g : GT)
    (k_34 : (0 ≤ f 6) → zn_kindRow C Post 34 [(0, .ref (ad C.1 0)), (1, .int y0)] [] f g)
    (h_20 : (¬ 0 ≤ f 6) → vp_in (y0) 10)
    (k_34_1 : (¬ 0 ≤ f 6) → (g 14 (y0 : Int32).toNatClampNeg = 0) → zn_kindRow C Post 34 [(0, .ref (ad C.1 0)), (1, .int y0)] [] f g)
    (m_31 : (¬ 0 ≤ f 6) → (¬ g 14 (y0 : Int32).toNatClampNeg = 0) → mV C.1 y_Mo_fail (Cond.code y_Mo_fail b_Mo_fail 2 none) 0 [.ref (ad C.1 0), .int ((f 5) - 1)] f g P_31)
    (k_31 : (¬ 0 ≤ f 6) → (¬ g 14 (y0 : Int32).toNatClampNeg = 0) → ∀ (f1 : FT) (g1 : GT), P_31 f1 g1 → zn_kindRow C Post 34 [(0, .ref (ad C.1 0)), (1, .int y0)] [] f1 g1) : zn_kindRow C Post 7 [(0, .ref (ad C.1 0))] [.int y0] f g := by
  obtain ⟨⟨l, dC, dI, k, a⟩, p, e, s, m, args, below, meth, c, A⟩ := C
  obtain ⟨hx, hb, hr, htz, hown, hlocks, hml, hE, hK, hA⟩ := X
  intro H locs ls hl hP hD hS
  have hl : lv_has ls 3 [(0, .ref (a 0))] := hl
  have hP : va_P (dC, dI) classes (mw k a f g) H := hP
  have hD : va_D A (mw k a f g) := hD
  show W p l e (z_rm 5 0 0) s m args below meth c H locs 0 0 _ (F0 m 7 ls [.int y0])
  refine lv_istore_n (lv' := [(1, .int y0), (0, .ref (a 0))]) hx hb d_Mo_kindRow_7 rfl hl (by decide) rfl (fun ls hl => ?_)
  refine lv_aload_n hx hb d_Mo_kindRow_8 rfl (lv_at hl 1 rfl) ?_
  refine va_get (D := (dC, dI)) (ci := 4) (v := .int (f 6)) (C := R_Mo) (T := F_Mo) (N := 31) hx hb htz i_Mo hown hK hP 0 rfl rfl 19 (by decide) (htz _ kf_Mo_86) (fun _ h9 => h9) rfl d_Mo_kindRow_9 ?_
  refine lv_if_ge (tgt := 34) hx hb d_Mo_kindRow_12 (by decide) (fun c_12 => ?_) (fun c_12 => ?_)
  · exact (k_34 c_12) H locs ls (lv_sub hl [1, 0] rfl) hP hD hS
  · refine lv_aload_n hx hb d_Mo_kindRow_15 rfl (lv_at hl 1 rfl) ?_
    refine va_get (D := (dC, dI)) (ci := 4) (v := .ref (a 15)) (C := R_Mo) (T := F_Mo) (N := 31) hx hb htz i_Mo hown hK hP 0 rfl rfl 23 (by decide) (htz _ kf_Mo_57) (fun _ h9 => h9) rfl d_Mo_kindRow_16 ?_
    refine lv_iload_n hx hb d_Mo_kindRow_19 rfl (lv_at hl 0 rfl) ?_
    refine va_zald hx hb hK hP 15 2 rfl rfl (h_20 c_12) d_Mo_kindRow_20 ?_
    refine lv_if_eq (tgt := 34) hx hb d_Mo_kindRow_21 (by decide) (fun c_21 => ?_) (fun c_21 => ?_)
    · exact (k_34_1 c_12 c_21) H locs ls (lv_sub hl [1, 0] rfl) hP hD hS
    · refine lv_aload_n hx hb d_Mo_kindRow_24 rfl (lv_at hl 1 rfl) ?_
      refine lv_aload_n hx hb d_Mo_kindRow_25 rfl (lv_at hl 1 rfl) ?_
      refine va_get (D := (dC, dI)) (ci := 4) (v := .int (f 5)) (C := R_Mo) (T := F_Mo) (N := 31) hx hb htz i_Mo hown hK hP 0 rfl rfl 18 (by decide) (htz _ kf_Mo_79) (fun _ h9 => h9) rfl d_Mo_kindRow_26 ?_
      refine lv_iconst (v := 1) hx hb d_Mo_kindRow_29 (by decide) ?_
      refine lv_isub hx hb d_Mo_kindRow_30 ?_
      have hFc := va_free (wc := mw k a f g) hD hS hA [0, 1, 2, 3, 4, 5, 6, 7, 8, 9, 10, 11, 12, 13, 14, 15, 16, 17, 18] rfl
      refine va_callv (va_runV (As := [.int ((f 5) - 1)]) (rest := []) ⟨hx, hb, hml, hown, htz⟩ ((m_31 c_12 c_21) H.size) (cwV 1 htz (z_gV (fun _ h => h) km_Mo_92 in_Mo_fail se_Mo_fail ini_Mo m_Mo_fail) rfl rfl rfl (by decide +kernel) ⟨(Nat.le_of_ble_eq_true rfl), (Nat.le_of_ble_eq_true rfl)⟩) ⟨z_blind, va_recv hK hP (ci := 4) (q0 := 0) rfl rfl, fun U hU hW => ⟨rfl, by rw [hU], hE.call hS hFc hU hW, by rw [hU]; exact hP, va_K.moved hW.alike hK, hD.weaken (fun _ _ _ _ => trivial)⟩⟩ rfl rfl hl.1 rfl (lv_room (Nat.le_of_ble_eq_true rfl)) d_Mo_kindRow_31 ⟨(Nat.le_of_ble_eq_true rfl), (Nat.le_of_ble_eq_true rfl)⟩) hS (fun q _ h => hFc q h) hFc (fun u t H1 locs ht hvm hw hB hz1 hk1 hS => ?_)
      obtain ⟨hP1, hK1, hD1⟩ := hB
      rw [ht] at hP1
      exact (k_31 c_12 c_21) _ _ hw H1 locs ls (lv_sub hl [1, 0] rfl) hP1 (hD1.weaken (fun _ q _ h => hFc _ h)) hS
set_option maxHeartbeats 1000000 in
set_option maxRecDepth 100000 in
theorem k_Mo_kindRow_34 {C : CT} (X : cM C "QuestionTextModel" b_Mo_kindRow 3 none) (Post : FT → GT → Prop) {P_62 : FT → GT → Prop} (x1 : Int32) (f : FT) (g : GT)
    (h_48 : (f 6 < 0) → vp_in (x1) 10)
    (m_62 : (f 6 < 0) → mV C.1 y_Mo_take (Cond.code y_Mo_take b_Mo_take 2 none) 2 [.ref (ad C.1 0), .int 61] f (va_up g 14 (upd (g 14) (x1 : Int32).toNatClampNeg (vp_nar .boolean 1))) P_62)
    (k_62 : (f 6 < 0) → ∀ (f1 : FT) (g1 : GT), P_62 f1 g1 → zn_kindRow C Post 65 [(0, .ref (ad C.1 0)), (1, .int x1), (2, .int (((f 8) * 10) + x1))] [] f1 g1)
    (q_41 : (¬ f 6 < 0) → Post f g) : zn_kindRow C Post 34 [(0, .ref (ad C.1 0)), (1, .int x1)] [] f g := by
  obtain ⟨⟨l, dC, dI, k, a⟩, p, e, s, m, args, below, meth, c, A⟩ := C
  obtain ⟨hx, hb, hr, htz, hown, hlocks, hml, hE, hK, hA⟩ := X
  intro H locs ls hl hP hD hS
  have hl : lv_has ls 3 [(0, .ref (a 0)), (1, .int x1)] := hl
  have hP : va_P (dC, dI) classes (mw k a f g) H := hP
  have hD : va_D A (mw k a f g) := hD
  show W p l e (z_rm 5 0 0) s m args below meth c H locs 0 0 _ (F0 m 34 ls [])
  refine lv_aload_n hx hb d_Mo_kindRow_34 rfl (lv_at hl 0 rfl) ?_
  refine va_get (D := (dC, dI)) (ci := 4) (v := .int (f 6)) (C := R_Mo) (T := F_Mo) (N := 31) hx hb htz i_Mo hown hK hP 0 rfl rfl 19 (by decide) (htz _ kf_Mo_86) (fun _ h9 => h9) rfl d_Mo_kindRow_35 ?_
  refine lv_if_lt (tgt := 42) hx hb d_Mo_kindRow_38 (by decide) (fun c_38 => ?_) (fun c_38 => ?_)
  · refine lv_aload_n hx hb d_Mo_kindRow_42 rfl (lv_at hl 0 rfl) ?_
    refine va_get (D := (dC, dI)) (ci := 4) (v := .ref (a 15)) (C := R_Mo) (T := F_Mo) (N := 31) hx hb htz i_Mo hown hK hP 0 rfl rfl 23 (by decide) (htz _ kf_Mo_57) (fun _ h9 => h9) rfl d_Mo_kindRow_43 ?_
    refine lv_iload_n hx hb d_Mo_kindRow_46 rfl (lv_at hl 1 rfl) ?_
    refine lv_iconst (v := 1) hx hb d_Mo_kindRow_47 (by decide) ?_
    refine va_zast hx hb hK hP hD hS 15 2 rfl rfl (h_48 c_38) d_Mo_kindRow_48 (fun H locs hP hD hS => ?_)
    replace hP := mg_14 (c := upd (g 14) (x1 : Int32).toNatClampNeg (vp_nar .boolean 1)) hP
    replace hD := mh_14 (c := upd (g 14) (x1 : Int32).toNatClampNeg (vp_nar .boolean 1)) hD
    refine lv_aload_n hx hb d_Mo_kindRow_49 rfl (lv_at hl 0 rfl) ?_
    refine va_get (D := (dC, dI)) (ci := 4) (v := .int (f 8)) (C := R_Mo) (T := F_Mo) (N := 31) hx hb htz i_Mo hown hK hP 0 rfl rfl 21 (by decide) (htz _ kf_Mo_106) (fun _ h9 => h9) rfl d_Mo_kindRow_50 ?_
    refine lv_bipush (v := 10) hx hb d_Mo_kindRow_53 (by decide) ?_
    refine lv_imul hx hb d_Mo_kindRow_55 ?_
    refine lv_iload_n hx hb d_Mo_kindRow_56 rfl (lv_at hl 1 rfl) ?_
    refine lv_iadd hx hb d_Mo_kindRow_57 ?_
    refine lv_istore_n (lv' := [(2, .int (((f 8) * 10) + x1)), (0, .ref (a 0)), (1, .int x1)]) hx hb d_Mo_kindRow_58 rfl hl (by decide) rfl (fun ls hl => ?_)
    refine lv_aload_n hx hb d_Mo_kindRow_59 rfl (lv_at hl 1 rfl) ?_
    refine lv_bipush (v := 61) hx hb d_Mo_kindRow_60 (by decide) ?_
    have hFc := va_free (wc := mw k a f (va_up g 14 (upd (g 14) (x1 : Int32).toNatClampNeg (vp_nar .boolean 1)))) hD hS hA [0, 1, 2, 3, 4, 5, 6, 7, 8, 9, 10, 11, 12, 13, 14, 15, 16, 17, 18] rfl
    refine va_callv (va_runV (As := [.int 61]) (rest := []) ⟨hx, hb, hml, hown, htz⟩ ((m_62 c_38) H.size) (cwV 1 htz (z_gV (fun _ h => h) km_Mo_103 in_Mo_take se_Mo_take ini_Mo m_Mo_take) rfl rfl rfl (by decide +kernel) ⟨(Nat.le_of_ble_eq_true rfl), (Nat.le_of_ble_eq_true rfl)⟩) ⟨z_blind, va_recv hK hP (ci := 4) (q0 := 0) rfl rfl, fun U hU hW => ⟨rfl, by rw [hU], hE.call hS hFc hU hW, by rw [hU]; exact hP, va_K.moved hW.alike hK, hD.weaken (fun _ _ _ _ => trivial)⟩⟩ rfl rfl hl.1 rfl (lv_room (Nat.le_of_ble_eq_true rfl)) d_Mo_kindRow_62 ⟨(Nat.le_of_ble_eq_true rfl), (Nat.le_of_ble_eq_true rfl)⟩) hS (fun q _ h => hFc q h) hFc (fun u t H1 locs ht hvm hw hB hz1 hk1 hS => ?_)
    obtain ⟨hP1, hK1, hD1⟩ := hB
    rw [ht] at hP1
    exact (k_62 c_38) _ _ hw H1 locs ls (lv_sub hl [1, 2, 0] rfl) hP1 (hD1.weaken (fun _ q _ h => hFc _ h)) hS
  · exact W.vret hx hb hr (fun t ht hW => ⟨⟨(f, g), rfl, (q_41 c_38), by rw [ht]; exact hP, va_K.moved hW.alike hK, hD⟩, hS.F ht⟩) hS.2.2 d_Mo_kindRow_41
set_option maxHeartbeats 1000000 in
set_option maxRecDepth 100000 in
theorem k_Mo_kindRow_65 {C : CT} (X : cM C "QuestionTextModel" b_Mo_kindRow 3 none) (Post : FT → GT → Prop) {P_74 : Int32 → FT → GT → Prop} (x1 : Int32) (x2 : Int32) (f : FT) (g : GT)
    (m_74 : mI C.1 y_Mo_number (Cond.code y_Mo_number b_Mo_number 4 (some .int)) 2 [.ref (ad C.1 0), .int 1, .int 60] f g P_74)
    (k_74 : ∀ (r : Int32) (f1 : FT) (g1 : GT), P_74 r f1 g1 → zn_kindRow C Post 77 [(0, .ref (ad C.1 0)), (1, .int x1), (2, .int x2)] [.int r, .int x2, .ref (ad C.1 10)] f1 g1) : zn_kindRow C Post 65 [(0, .ref (ad C.1 0)), (1, .int x1), (2, .int x2)] [] f g := by
  obtain ⟨⟨l, dC, dI, k, a⟩, p, e, s, m, args, below, meth, c, A⟩ := C
  obtain ⟨hx, hb, hr, htz, hown, hlocks, hml, hE, hK, hA⟩ := X
  intro H locs ls hl hP hD hS
  have hl : lv_has ls 3 [(0, .ref (a 0)), (1, .int x1), (2, .int x2)] := hl
  have hP : va_P (dC, dI) classes (mw k a f g) H := hP
  have hD : va_D A (mw k a f g) := hD
  show W p l e (z_rm 5 0 0) s m args below meth c H locs 0 0 _ (F0 m 65 ls [])
  refine lv_aload_n hx hb d_Mo_kindRow_65 rfl (lv_at hl 0 rfl) ?_
  refine va_get (D := (dC, dI)) (ci := 4) (v := .ref (a 10)) (C := R_Mo) (T := F_Mo) (N := 31) hx hb htz i_Mo hown hK hP 0 rfl rfl 14 (by decide) (htz _ kf_Mo_42) (fun _ h9 => h9) rfl d_Mo_kindRow_66 ?_
  refine lv_iload_n hx hb d_Mo_kindRow_69 rfl (lv_at hl 2 rfl) ?_
  refine lv_aload_n hx hb d_Mo_kindRow_70 rfl (lv_at hl 0 rfl) ?_
  refine lv_iconst (v := 1) hx hb d_Mo_kindRow_71 (by decide) ?_
  refine lv_bipush (v := 60) hx hb d_Mo_kindRow_72 (by decide) ?_
  have hFc := va_free (wc := mw k a f g) hD hS hA [0, 1, 2, 3, 4, 5, 6, 7, 8, 9, 10, 11, 12, 13, 14, 15, 16, 17, 18] rfl
  refine va_calli (va_runV (As := [.int 1, .int 60]) (rest := [.int x2, .ref (a 10)]) ⟨hx, hb, hml, hown, htz⟩ (m_74 H.size) (cwV 2 htz (z_gV (fun _ h => h) km_Mo_109 in_Mo_number se_Mo_number ini_Mo m_Mo_number) rfl rfl rfl (by decide +kernel) ⟨(Nat.le_of_ble_eq_true rfl), (Nat.le_of_ble_eq_true rfl)⟩) ⟨z_blind, va_recv hK hP (ci := 4) (q0 := 0) rfl rfl, fun U hU hW => ⟨rfl, by rw [hU], hE.call hS hFc hU hW, by rw [hU]; exact hP, va_K.moved hW.alike hK, hD.weaken (fun _ _ _ _ => trivial)⟩⟩ rfl rfl hl.1 rfl (lv_room (Nat.le_of_ble_eq_true rfl)) d_Mo_kindRow_74 ⟨(Nat.le_of_ble_eq_true rfl), (Nat.le_of_ble_eq_true rfl)⟩) hS (fun q _ h => hFc q h) hFc (fun r u t H1 locs ht hvm hw hB hz1 hk1 hS => ?_)
  obtain ⟨hP1, hK1, hD1⟩ := hB
  rw [ht] at hP1
  exact k_74 r _ _ hw H1 locs ls (lv_sub hl [0, 1, 2] rfl) hP1 (hD1.weaken (fun _ q _ h => hFc _ h)) hS
set_option maxHeartbeats 1000000 in
set_option maxRecDepth 100000 in
theorem k_Mo_kindRow_77 {C : CT} (X : cM C "QuestionTextModel" b_Mo_kindRow 3 none) (Post : FT → GT → Prop) {P_81 : FT → GT → Prop} (x1 : Int32) (x2 : Int32) (y0 : Int32) (y1 : Int32) (f : FT) (g : GT)
    (h_77 : vp_in (y1) 100)
    (m_81 : mV C.1 y_Mo_take (Cond.code y_Mo_take b_Mo_take 2 none) 2 [.ref (ad C.1 0), .int 58] f (va_up g 9 (upd (g 9) (y1 : Int32).toNatClampNeg y0)) P_81)
    (k_81 : ∀ (f1 : FT) (g1 : GT), P_81 f1 g1 → zn_kindRow C Post 84 [(0, .ref (ad C.1 0)), (1, .int x1), (2, .int x2)] [] f1 g1) : zn_kindRow C Post 77 [(0, .ref (ad C.1 0)), (1, .int x1), (2, .int x2)] [.int y0, .int y1, .ref (ad C.1 10)] f g := by
  obtain ⟨⟨l, dC, dI, k, a⟩, p, e, s, m, args, below, meth, c, A⟩ := C
  obtain ⟨hx, hb, hr, htz, hown, hlocks, hml, hE, hK, hA⟩ := X
  intro H locs ls hl hP hD hS
  have hl : lv_has ls 3 [(0, .ref (a 0)), (1, .int x1), (2, .int x2)] := hl
  have hP : va_P (dC, dI) classes (mw k a f g) H := hP
  have hD : va_D A (mw k a f g) := hD
  show W p l e (z_rm 5 0 0) s m args below meth c H locs 0 0 _ (F0 m 77 ls [.int y0, .int y1, .ref (a 10)])
  refine va_iast hx hb hK hP hD hS 10 0 rfl rfl h_77 d_Mo_kindRow_77 (fun H locs hP hD hS => ?_)
  replace hP := mg_9 (c := upd (g 9) (y1 : Int32).toNatClampNeg y0) hP
  replace hD := mh_9 (c := upd (g 9) (y1 : Int32).toNatClampNeg y0) hD
  refine lv_aload_n hx hb d_Mo_kindRow_78 rfl (lv_at hl 0 rfl) ?_
  refine lv_bipush (v := 58) hx hb d_Mo_kindRow_79 (by decide) ?_
  have hFc := va_free (wc := mw k a f (va_up g 9 (upd (g 9) (y1 : Int32).toNatClampNeg y0))) hD hS hA [0, 1, 2, 3, 4, 5, 6, 7, 8, 9, 10, 11, 12, 13, 14, 15, 16, 17, 18] rfl
  refine va_callv (va_runV (As := [.int 58]) (rest := []) ⟨hx, hb, hml, hown, htz⟩ (m_81 H.size) (cwV 1 htz (z_gV (fun _ h => h) km_Mo_103 in_Mo_take se_Mo_take ini_Mo m_Mo_take) rfl rfl rfl (by decide +kernel) ⟨(Nat.le_of_ble_eq_true rfl), (Nat.le_of_ble_eq_true rfl)⟩) ⟨z_blind, va_recv hK hP (ci := 4) (q0 := 0) rfl rfl, fun U hU hW => ⟨rfl, by rw [hU], hE.call hS hFc hU hW, by rw [hU]; exact hP, va_K.moved hW.alike hK, hD.weaken (fun _ _ _ _ => trivial)⟩⟩ rfl rfl hl.1 rfl (lv_room (Nat.le_of_ble_eq_true rfl)) d_Mo_kindRow_81 ⟨(Nat.le_of_ble_eq_true rfl), (Nat.le_of_ble_eq_true rfl)⟩) hS (fun q _ h => hFc q h) hFc (fun u t H1 locs ht hvm hw hB hz1 hk1 hS => ?_)
  obtain ⟨hP1, hK1, hD1⟩ := hB
  rw [ht] at hP1
  exact k_81 _ _ hw H1 locs ls (lv_sub hl [0, 1, 2] rfl) hP1 (hD1.weaken (fun _ q _ h => hFc _ h)) hS
set_option maxHeartbeats 1000000 in
set_option maxRecDepth 100000 in
theorem k_Mo_kindRow_84 {C : CT} (X : cM C "QuestionTextModel" b_Mo_kindRow 3 none) (Post : FT → GT → Prop) {P_93 : Int32 → FT → GT → Prop} (x1 : Int32) (x2 : Int32) (f : FT) (g : GT)
    (m_93 : mI C.1 y_Mo_number (Cond.code y_Mo_number b_Mo_number 4 (some .int)) 2 [.ref (ad C.1 0), .int 0, .int 9] f g P_93)
    (k_93 : ∀ (r : Int32) (f1 : FT) (g1 : GT), P_93 r f1 g1 → zn_kindRow C Post 96 [(0, .ref (ad C.1 0)), (1, .int x1), (2, .int x2)] [.int r, .int x2, .ref (ad C.1 11)] f1 g1) : zn_kindRow C Post 84 [(0, .ref (ad C.1 0)), (1, .int x1), (2, .int x2)] [] f g := by
  obtain ⟨⟨l, dC, dI, k, a⟩, p, e, s, m, args, below, meth, c, A⟩ := C
  obtain ⟨hx, hb, hr, htz, hown, hlocks, hml, hE, hK, hA⟩ := X
  intro H locs ls hl hP hD hS
  have hl : lv_has ls 3 [(0, .ref (a 0)), (1, .int x1), (2, .int x2)] := hl
  have hP : va_P (dC, dI) classes (mw k a f g) H := hP
  have hD : va_D A (mw k a f g) := hD
  show W p l e (z_rm 5 0 0) s m args below meth c H locs 0 0 _ (F0 m 84 ls [])
  refine lv_aload_n hx hb d_Mo_kindRow_84 rfl (lv_at hl 0 rfl) ?_
  refine va_get (D := (dC, dI)) (ci := 4) (v := .ref (a 11)) (C := R_Mo) (T := F_Mo) (N := 31) hx hb htz i_Mo hown hK hP 0 rfl rfl 15 (by decide) (htz _ kf_Mo_45) (fun _ h9 => h9) rfl d_Mo_kindRow_85 ?_
  refine lv_iload_n hx hb d_Mo_kindRow_88 rfl (lv_at hl 2 rfl) ?_
  refine lv_aload_n hx hb d_Mo_kindRow_89 rfl (lv_at hl 0 rfl) ?_
  refine lv_iconst (v := 0) hx hb d_Mo_kindRow_90 (by decide) ?_
  refine lv_bipush (v := 9) hx hb d_Mo_kindRow_91 (by decide) ?_
  have hFc := va_free (wc := mw k a f g) hD hS hA [0, 1, 2, 3, 4, 5, 6, 7, 8, 9, 10, 11, 12, 13, 14, 15, 16, 17, 18] rfl
  refine va_calli (va_runV (As := [.int 0, .int 9]) (rest := [.int x2, .ref (a 11)]) ⟨hx, hb, hml, hown, htz⟩ (m_93 H.size) (cwV 2 htz (z_gV (fun _ h => h) km_Mo_109 in_Mo_number se_Mo_number ini_Mo m_Mo_number) rfl rfl rfl (by decide +kernel) ⟨(Nat.le_of_ble_eq_true rfl), (Nat.le_of_ble_eq_true rfl)⟩) ⟨z_blind, va_recv hK hP (ci := 4) (q0 := 0) rfl rfl, fun U hU hW => ⟨rfl, by rw [hU], hE.call hS hFc hU hW, by rw [hU]; exact hP, va_K.moved hW.alike hK, hD.weaken (fun _ _ _ _ => trivial)⟩⟩ rfl rfl hl.1 rfl (lv_room (Nat.le_of_ble_eq_true rfl)) d_Mo_kindRow_93 ⟨(Nat.le_of_ble_eq_true rfl), (Nat.le_of_ble_eq_true rfl)⟩) hS (fun q _ h => hFc q h) hFc (fun r u t H1 locs ht hvm hw hB hz1 hk1 hS => ?_)
  obtain ⟨hP1, hK1, hD1⟩ := hB
  rw [ht] at hP1
  exact k_93 r _ _ hw H1 locs ls (lv_sub hl [0, 1, 2] rfl) hP1 (hD1.weaken (fun _ q _ h => hFc _ h)) hS
set_option maxHeartbeats 1000000 in
set_option maxRecDepth 100000 in
theorem k_Mo_kindRow_96 {C : CT} (X : cM C "QuestionTextModel" b_Mo_kindRow 3 none) (Post : FT → GT → Prop) (x1 : Int32) (x2 : Int32) (y0 : Int32) (y1 : Int32) (f : FT) (g : GT)
    (h_96 : vp_in (y1) 100)
    (h_103 : vp_in (x2) 100)
    (k_104 : zn_kindRow C Post 104 [(0, .ref (ad C.1 0)), (1, .int x1), (2, .int x2)] [] f (va_up (va_up g 10 (upd (g 10) (y1 : Int32).toNatClampNeg y0)) 11 (upd (g 11) (x2 : Int32).toNatClampNeg 0))) : zn_kindRow C Post 96 [(0, .ref (ad C.1 0)), (1, .int x1), (2, .int x2)] [.int y0, .int y1, .ref (ad C.1 11)] f g := by
  obtain ⟨⟨l, dC, dI, k, a⟩, p, e, s, m, args, below, meth, c, A⟩ := C
  obtain ⟨hx, hb, hr, htz, hown, hlocks, hml, hE, hK, hA⟩ := X
  intro H locs ls hl hP hD hS
  have hl : lv_has ls 3 [(0, .ref (a 0)), (1, .int x1), (2, .int x2)] := hl
  have hP : va_P (dC, dI) classes (mw k a f g) H := hP
  have hD : va_D A (mw k a f g) := hD
  show W p l e (z_rm 5 0 0) s m args below meth c H locs 0 0 _ (F0 m 96 ls [.int y0, .int y1, .ref (a 11)])
  refine va_iast hx hb hK hP hD hS 11 0 rfl rfl h_96 d_Mo_kindRow_96 (fun H locs hP hD hS => ?_)
  replace hP := mg_10 (c := upd (g 10) (y1 : Int32).toNatClampNeg y0) hP
  replace hD := mh_10 (c := upd (g 10) (y1 : Int32).toNatClampNeg y0) hD
  refine lv_aload_n hx hb d_Mo_kindRow_97 rfl (lv_at hl 0 rfl) ?_
  refine va_get (D := (dC, dI)) (ci := 4) (v := .ref (a 12)) (C := R_Mo) (T := F_Mo) (N := 31) hx hb htz i_Mo hown hK hP 0 rfl rfl 16 (by decide) (htz _ kf_Mo_48) (fun _ h9 => h9) rfl d_Mo_kindRow_98 ?_
  refine lv_iload_n hx hb d_Mo_kindRow_101 rfl (lv_at hl 2 rfl) ?_
  refine lv_iconst (v := 0) hx hb d_Mo_kindRow_102 (by decide) ?_
  refine va_iast hx hb hK hP hD hS 12 0 rfl rfl h_103 d_Mo_kindRow_103 (fun H locs hP hD hS => ?_)
  replace hP := mg_11 (c := upd (g 11) (x2 : Int32).toNatClampNeg 0) hP
  replace hD := mh_11 (c := upd (g 11) (x2 : Int32).toNatClampNeg 0) hD
  exact k_104 H locs ls (lv_sub hl [0, 1, 2] rfl) hP hD hS
set_option maxHeartbeats 1000000 in
set_option maxRecDepth 100000 in
theorem k_Mo_kindRow_104 {C : CT} (X : cM C "QuestionTextModel" b_Mo_kindRow 3 none) (Post : FT → GT → Prop) {P_123 : Int32 → FT → GT → Prop} (x1 : Int32) (x2 : Int32) (f : FT) (g : GT)
    (k_172 : (0 ≤ f 6) → zn_kindRow C Post 172 [(0, .ref (ad C.1 0)), (1, .int x1), (2, .int x2)] [] f g)
    (h_116 : (¬ 0 ≤ f 6) → vp_in (x2) 100)
    (k_172_1 : (¬ 0 ≤ f 6) → (6 ≤ g 11 (x2 : Int32).toNatClampNeg) → zn_kindRow C Post 172 [(0, .ref (ad C.1 0)), (1, .int x1), (2, .int x2)] [] f g)
    (m_123 : (¬ 0 ≤ f 6) → (¬ 6 ≤ g 11 (x2 : Int32).toNatClampNeg) → mI C.1 y_Mo_see (Cond.code y_Mo_see b_Mo_see 1 (some .int)) 1 [.ref (ad C.1 0)] f g P_123)
    (k_123 : (¬ 0 ≤ f 6) → (¬ 6 ≤ g 11 (x2 : Int32).toNatClampNeg) → ∀ (r : Int32) (f1 : FT) (g1 : GT), P_123 r f1 g1 → zn_kindRow C Post 126 [(0, .ref (ad C.1 0)), (1, .int x1), (2, .int x2)] [.int r] f1 g1) : zn_kindRow C Post 104 [(0, .ref (ad C.1 0)), (1, .int x1), (2, .int x2)] [] f g := by
  obtain ⟨⟨l, dC, dI, k, a⟩, p, e, s, m, args, below, meth, c, A⟩ := C
  obtain ⟨hx, hb, hr, htz, hown, hlocks, hml, hE, hK, hA⟩ := X
  intro H locs ls hl hP hD hS
  have hl : lv_has ls 3 [(0, .ref (a 0)), (1, .int x1), (2, .int x2)] := hl
  have hP : va_P (dC, dI) classes (mw k a f g) H := hP
  have hD : va_D A (mw k a f g) := hD
  show W p l e (z_rm 5 0 0) s m args below meth c H locs 0 0 _ (F0 m 104 ls [])
  refine lv_aload_n hx hb d_Mo_kindRow_104 rfl (lv_at hl 0 rfl) ?_
  refine va_get (D := (dC, dI)) (ci := 4) (v := .int (f 6)) (C := R_Mo) (T := F_Mo) (N := 31) hx hb htz i_Mo hown hK hP 0 rfl rfl 19 (by decide) (htz _ kf_Mo_86) (fun _ h9 => h9) rfl d_Mo_kindRow_105 ?_
  refine lv_if_ge (tgt := 172) hx hb d_Mo_kindRow_108 (by decide) (fun c_108 => ?_) (fun c_108 => ?_)
  · exact (k_172 c_108) H locs ls (lv_sub hl [0, 1, 2] rfl) hP hD hS
  · refine lv_aload_n hx hb d_Mo_kindRow_111 rfl (lv_at hl 0 rfl) ?_
    refine va_get (D := (dC, dI)) (ci := 4) (v := .ref (a 12)) (C := R_Mo) (T := F_Mo) (N := 31) hx hb htz i_Mo hown hK hP 0 rfl rfl 16 (by decide) (htz _ kf_Mo_48) (fun _ h9 => h9) rfl d_Mo_kindRow_112 ?_
    refine lv_iload_n hx hb d_Mo_kindRow_115 rfl (lv_at hl 2 rfl) ?_
    refine va_iald hx hb hK hP 12 0 rfl rfl (h_116 c_108) d_Mo_kindRow_116 ?_
    refine lv_bipush (v := 6) hx hb d_Mo_kindRow_117 (by decide) ?_
    refine lv_icmp_ge (tgt := 172) hx hb d_Mo_kindRow_119 (by decide) (fun c_119 => ?_) (fun c_119 => ?_)
    · exact (k_172_1 c_108 c_119) H locs ls (lv_sub hl [0, 1, 2] rfl) hP hD hS
    · refine lv_aload_n hx hb d_Mo_kindRow_122 rfl (lv_at hl 0 rfl) ?_
      have hFc := va_free (wc := mw k a f g) hD hS hA [0, 1, 2, 3, 4, 5, 6, 7, 8, 9, 10, 11, 12, 13, 14, 15, 16, 17, 18] rfl
      refine va_calli (va_runV (As := []) (rest := []) ⟨hx, hb, hml, hown, htz⟩ ((m_123 c_108 c_119) H.size) (cwV 0 htz (z_gV (fun _ h => h) km_Mo_89 in_Mo_see se_Mo_see ini_Mo m_Mo_see) rfl rfl rfl (by decide +kernel) ⟨(Nat.le_of_ble_eq_true rfl), (Nat.le_of_ble_eq_true rfl)⟩) ⟨z_blind, va_recv hK hP (ci := 4) (q0 := 0) rfl rfl, fun U hU hW => ⟨rfl, by rw [hU], hE.call hS hFc hU hW, by rw [hU]; exact hP, va_K.moved hW.alike hK, hD.weaken (fun _ _ _ _ => trivial)⟩⟩ rfl rfl hl.1 rfl (lv_room (Nat.le_of_ble_eq_true rfl)) d_Mo_kindRow_123 ⟨(Nat.le_of_ble_eq_true rfl), (Nat.le_of_ble_eq_true rfl)⟩) hS (fun q _ h => hFc q h) hFc (fun r u t H1 locs ht hvm hw hB hz1 hk1 hS => ?_)
      obtain ⟨hP1, hK1, hD1⟩ := hB
      rw [ht] at hP1
      exact (k_123 c_108 c_119) r _ _ hw H1 locs ls (lv_sub hl [0, 1, 2] rfl) hP1 (hD1.weaken (fun _ q _ h => hFc _ h)) hS
set_option maxHeartbeats 1000000 in
set_option maxRecDepth 100000 in
theorem k_Mo_kindRow_126 {C : CT} (X : cM C "QuestionTextModel" b_Mo_kindRow 3 none) (Post : FT → GT → Prop) {P_156 : FT → GT → Prop} (x1 : Int32) (x2 : Int32) (y0 : Int32) (f : FT) (g : GT)
    (k_172 : (¬ y0 = 40) → zn_kindRow C Post 172 [(0, .ref (ad C.1 0)), (1, .int x1), (2, .int x2)] [] f g)
    (h_151 : (y0 = 40) → vp_in (x2) 100)
    (m_156 : (y0 = 40) → mV C.1 y_Mo_conditionRow (Cond.code y_Mo_conditionRow b_Mo_conditionRow 4 none) 4 [.ref (ad C.1 0), .int (((x2 * 6) + (g 11 (x2 : Int32).toNatClampNeg)) * 14)] (va_up f 5 ((f 5) + 1)) g P_156)
    (k_156 : (y0 = 40) → ∀ (f1 : FT) (g1 : GT), P_156 f1 g1 → zn_kindRow C Post 159 [(0, .ref (ad C.1 0)), (1, .int x1), (2, .int x2)] [] f1 g1) : zn_kindRow C Post 126 [(0, .ref (ad C.1 0)), (1, .int x1), (2, .int x2)] [.int y0] f g := by
  obtain ⟨⟨l, dC, dI, k, a⟩, p, e, s, m, args, below, meth, c, A⟩ := C
  obtain ⟨hx, hb, hr, htz, hown, hlocks, hml, hE, hK, hA⟩ := X
  intro H locs ls hl hP hD hS
  have hl : lv_has ls 3 [(0, .ref (a 0)), (1, .int x1), (2, .int x2)] := hl
  have hP : va_P (dC, dI) classes (mw k a f g) H := hP
  have hD : va_D A (mw k a f g) := hD
  show W p l e (z_rm 5 0 0) s m args below meth c H locs 0 0 _ (F0 m 126 ls [.int y0])
  refine lv_bipush (v := 40) hx hb d_Mo_kindRow_126 (by decide) ?_
  refine lv_icmp_ne (tgt := 172) hx hb d_Mo_kindRow_128 (by decide) (fun c_128 => ?_) (fun c_128 => ?_)
  · exact (k_172 c_128) H locs ls (lv_sub hl [0, 1, 2] rfl) hP hD hS
  · refine lv_aload_n hx hb d_Mo_kindRow_131 rfl (lv_at hl 0 rfl) ?_
    refine lv_dup hx hb d_Mo_kindRow_132 rfl ?_
    refine va_get (D := (dC, dI)) (ci := 4) (v := .int (f 5)) (C := R_Mo) (T := F_Mo) (N := 31) hx hb htz i_Mo hown hK hP 0 rfl rfl 18 (by decide) (htz _ kf_Mo_79) (fun _ h9 => h9) rfl d_Mo_kindRow_133 ?_
    refine lv_iconst (v := 1) hx hb d_Mo_kindRow_136 (by decide) ?_
    refine lv_iadd hx hb d_Mo_kindRow_137 ?_
    refine va_put (D := (dC, dI)) (ci := 4) (v := .int ((f 5) + 1)) (ty := .int) (C := R_Mo) (T := F_Mo) (N := 31) hx hb htz i_Mo t_Mo o_Mo n_Mo hown hK hP hD hS 0 rfl rfl 18 (by decide) (htz _ kf_Mo_79) (fun _ h9 => h9) rfl (by decide +kernel) rfl rfl (Nat.le_of_ble_eq_true rfl) d_Mo_kindRow_138 (fun H locs hP hD hS => ?_)
    replace hP := mf_5 (v := (f 5) + 1) hP
    replace hD := md_5 (v := (f 5) + 1) hD
    refine lv_aload_n hx hb d_Mo_kindRow_141 rfl (lv_at hl 0 rfl) ?_
    refine lv_iload_n hx hb d_Mo_kindRow_142 rfl (lv_at hl 2 rfl) ?_
    refine lv_bipush (v := 6) hx hb d_Mo_kindRow_143 (by decide) ?_
    refine lv_imul hx hb d_Mo_kindRow_145 ?_
    refine lv_aload_n hx hb d_Mo_kindRow_146 rfl (lv_at hl 0 rfl) ?_
    refine va_get (D := (dC, dI)) (ci := 4) (v := .ref (a 12)) (C := R_Mo) (T := F_Mo) (N := 31) hx hb htz i_Mo hown hK hP 0 rfl rfl 16 (by decide) (htz _ kf_Mo_48) (fun _ h9 => h9) rfl d_Mo_kindRow_147 ?_
    refine lv_iload_n hx hb d_Mo_kindRow_150 rfl (lv_at hl 2 rfl) ?_
    refine va_iald hx hb hK hP 12 0 rfl rfl (h_151 c_128) d_Mo_kindRow_151 ?_
    refine lv_iadd hx hb d_Mo_kindRow_152 ?_
    refine lv_bipush (v := 14) hx hb d_Mo_kindRow_153 (by decide) ?_
    refine lv_imul hx hb d_Mo_kindRow_155 ?_
    have hFc := va_free (wc := mw k a (va_up f 5 ((f 5) + 1)) g) hD hS hA [0, 1, 2, 3, 4, 5, 6, 7, 8, 9, 10, 11, 12, 13, 14, 15, 16, 17, 18] rfl
    refine va_callv (va_runV (As := [.int (((x2 * 6) + (g 11 (x2 : Int32).toNatClampNeg)) * 14)]) (rest := []) ⟨hx, hb, hml, hown, htz⟩ ((m_156 c_128) H.size) (cwV 1 htz (z_gV (fun _ h => h) km_Mo_120 in_Mo_conditionRow se_Mo_conditionRow ini_Mo m_Mo_conditionRow) rfl rfl rfl (by decide +kernel) ⟨(Nat.le_of_ble_eq_true rfl), (Nat.le_of_ble_eq_true rfl)⟩) ⟨z_blind, va_recv hK hP (ci := 4) (q0 := 0) rfl rfl, fun U hU hW => ⟨rfl, by rw [hU], hE.call hS hFc hU hW, by rw [hU]; exact hP, va_K.moved hW.alike hK, hD.weaken (fun _ _ _ _ => trivial)⟩⟩ rfl rfl hl.1 rfl (lv_room (Nat.le_of_ble_eq_true rfl)) d_Mo_kindRow_156 ⟨(Nat.le_of_ble_eq_true rfl), (Nat.le_of_ble_eq_true rfl)⟩) hS (fun q _ h => hFc q h) hFc (fun u t H1 locs ht hvm hw hB hz1 hk1 hS => ?_)
    obtain ⟨hP1, hK1, hD1⟩ := hB
    rw [ht] at hP1
    exact (k_156 c_128) _ _ hw H1 locs ls (lv_sub hl [0, 1, 2] rfl) hP1 (hD1.weaken (fun _ q _ h => hFc _ h)) hS
set_option maxHeartbeats 1000000 in
set_option maxRecDepth 100000 in
theorem k_Mo_kindRow_159 {C : CT} (X : cM C "QuestionTextModel" b_Mo_kindRow 3 none) (Post : FT → GT → Prop) (x1 : Int32) (x2 : Int32) (f : FT) (g : GT)
    (h_165 : vp_in (x2) 100)
    (h_168 : vp_in (x2) 100)
    (k_104 : zn_kindRow C Post 104 [(0, .ref (ad C.1 0)), (1, .int x1), (2, .int x2)] [] f (va_up g 11 (upd (g 11) (x2 : Int32).toNatClampNeg ((g 11 (x2 : Int32).toNatClampNeg) + 1)))) : zn_kindRow C Post 159 [(0, .ref (ad C.1 0)), (1, .int x1), (2, .int x2)] [] f g := by
  obtain ⟨⟨l, dC, dI, k, a⟩, p, e, s, m, args, below, meth, c, A⟩ := C
  obtain ⟨hx, hb, hr, htz, hown, hlocks, hml, hE, hK, hA⟩ := X
  intro H locs ls hl hP hD hS
  have hl : lv_has ls 3 [(0, .ref (a 0)), (1, .int x1), (2, .int x2)] := hl
  have hP : va_P (dC, dI) classes (mw k a f g) H := hP
  have hD : va_D A (mw k a f g) := hD
  show W p l e (z_rm 5 0 0) s m args below meth c H locs 0 0 _ (F0 m 159 ls [])
  refine lv_aload_n hx hb d_Mo_kindRow_159 rfl (lv_at hl 0 rfl) ?_
  refine va_get (D := (dC, dI)) (ci := 4) (v := .ref (a 12)) (C := R_Mo) (T := F_Mo) (N := 31) hx hb htz i_Mo hown hK hP 0 rfl rfl 16 (by decide) (htz _ kf_Mo_48) (fun _ h9 => h9) rfl d_Mo_kindRow_160 ?_
  refine lv_iload_n hx hb d_Mo_kindRow_163 rfl (lv_at hl 2 rfl) ?_
  refine lv_dup2_11 hx hb d_Mo_kindRow_164 rfl rfl ?_
  refine va_iald hx hb hK hP 12 0 rfl rfl h_165 d_Mo_kindRow_165 ?_
  refine lv_iconst (v := 1) hx hb d_Mo_kindRow_166 (by decide) ?_
  refine lv_iadd hx hb d_Mo_kindRow_167 ?_
  refine va_iast hx hb hK hP hD hS 12 0 rfl rfl h_168 d_Mo_kindRow_168 (fun H locs hP hD hS => ?_)
  replace hP := mg_11 (c := upd (g 11) (x2 : Int32).toNatClampNeg ((g 11 (x2 : Int32).toNatClampNeg) + 1)) hP
  replace hD := mh_11 (c := upd (g 11) (x2 : Int32).toNatClampNeg ((g 11 (x2 : Int32).toNatClampNeg) + 1)) hD
  refine lv_goto (tgt := 104) hx hb d_Mo_kindRow_169 (by decide) ?_
  exact k_104 H locs ls (lv_sub hl [0, 1, 2] rfl) hP hD hS
set_option maxHeartbeats 1000000 in
set_option maxRecDepth 100000 in
theorem k_Mo_kindRow_172 {C : CT} (X : cM C "QuestionTextModel" b_Mo_kindRow 3 none) (Post : FT → GT → Prop) {P_175 : FT → GT → Prop} (x1 : Int32) (x2 : Int32) (f : FT) (g : GT)
    (m_175 : mV C.1 y_Mo_take (Cond.code y_Mo_take b_Mo_take 2 none) 2 [.ref (ad C.1 0), .int 59] f g P_175)
    (k_175 : ∀ (f1 : FT) (g1 : GT), P_175 f1 g1 → zn_kindRow C Post 178 [(0, .ref (ad C.1 0)), (1, .int x1), (2, .int x2)] [] f1 g1) : zn_kindRow C Post 172 [(0, .ref (ad C.1 0)), (1, .int x1), (2, .int x2)] [] f g := by
  obtain ⟨⟨l, dC, dI, k, a⟩, p, e, s, m, args, below, meth, c, A⟩ := C
  obtain ⟨hx, hb, hr, htz, hown, hlocks, hml, hE, hK, hA⟩ := X
  intro H locs ls hl hP hD hS
  have hl : lv_has ls 3 [(0, .ref (a 0)), (1, .int x1), (2, .int x2)] := hl
  have hP : va_P (dC, dI) classes (mw k a f g) H := hP
  have hD : va_D A (mw k a f g) := hD
  show W p l e (z_rm 5 0 0) s m args below meth c H locs 0 0 _ (F0 m 172 ls [])
  refine lv_aload_n hx hb d_Mo_kindRow_172 rfl (lv_at hl 0 rfl) ?_
  refine lv_bipush (v := 59) hx hb d_Mo_kindRow_173 (by decide) ?_
  have hFc := va_free (wc := mw k a f g) hD hS hA [0, 1, 2, 3, 4, 5, 6, 7, 8, 9, 10, 11, 12, 13, 14, 15, 16, 17, 18] rfl
  refine va_callv (va_runV (As := [.int 59]) (rest := []) ⟨hx, hb, hml, hown, htz⟩ (m_175 H.size) (cwV 1 htz (z_gV (fun _ h => h) km_Mo_103 in_Mo_take se_Mo_take ini_Mo m_Mo_take) rfl rfl rfl (by decide +kernel) ⟨(Nat.le_of_ble_eq_true rfl), (Nat.le_of_ble_eq_true rfl)⟩) ⟨z_blind, va_recv hK hP (ci := 4) (q0 := 0) rfl rfl, fun U hU hW => ⟨rfl, by rw [hU], hE.call hS hFc hU hW, by rw [hU]; exact hP, va_K.moved hW.alike hK, hD.weaken (fun _ _ _ _ => trivial)⟩⟩ rfl rfl hl.1 rfl (lv_room (Nat.le_of_ble_eq_true rfl)) d_Mo_kindRow_175 ⟨(Nat.le_of_ble_eq_true rfl), (Nat.le_of_ble_eq_true rfl)⟩) hS (fun q _ h => hFc q h) hFc (fun u t H1 locs ht hvm hw hB hz1 hk1 hS => ?_)
  obtain ⟨hP1, hK1, hD1⟩ := hB
  rw [ht] at hP1
  exact k_175 _ _ hw H1 locs ls (lv_sub hl [0, 1, 2] rfl) hP1 (hD1.weaken (fun _ q _ h => hFc _ h)) hS
set_option maxHeartbeats 1000000 in
set_option maxRecDepth 100000 in
theorem k_Mo_kindRow_178 {C : CT} (X : cM C "QuestionTextModel" b_Mo_kindRow 3 none) (Post : FT → GT → Prop) (x1 : Int32) (x2 : Int32) (f : FT) (g : GT)
    (q_178 : Post f g) : zn_kindRow C Post 178 [(0, .ref (ad C.1 0)), (1, .int x1), (2, .int x2)] [] f g := by
  obtain ⟨⟨l, dC, dI, k, a⟩, p, e, s, m, args, below, meth, c, A⟩ := C
  obtain ⟨hx, hb, hr, htz, hown, hlocks, hml, hE, hK, hA⟩ := X
  intro H locs ls hl hP hD hS
  have hl : lv_has ls 3 [(0, .ref (a 0)), (1, .int x1), (2, .int x2)] := hl
  have hP : va_P (dC, dI) classes (mw k a f g) H := hP
  have hD : va_D A (mw k a f g) := hD
  show W p l e (z_rm 5 0 0) s m args below meth c H locs 0 0 _ (F0 m 178 ls [])
  exact W.vret hx hb hr (fun t ht hW => ⟨⟨(f, g), rfl, q_178, by rw [ht]; exact hP, va_K.moved hW.alike hK, hD⟩, hS.F ht⟩) hS.2.2 d_Mo_kindRow_178
set_option maxHeartbeats 1000000 in
set_option maxRecDepth 100000 in
theorem e_Mo_kindRow (T : ST) (Post : FT → GT → Prop) (f : FT) (g : GT) (h : ∀ C : CT, C.1 = T → cM C "QuestionTextModel" b_Mo_kindRow 3 none → zn_kindRow C Post 0 [(0, .ref (ad C.1 0))] [] f g) : mV T y_Mo_kindRow (Cond.code y_Mo_kindRow b_Mo_kindRow 3 none) 5 [.ref (ad T 0)] f g Post := by
  obtain ⟨l, dC, dI, k, a⟩ := T
  intro sz
  refine Met.ofW (cc := b_Mo_kindRow) (maxL := 3) (ret := none) (by decide) rfl ?_
  intro p e s m args below meth c s₁ B hml hv
  obtain ⟨rfl, hsz, hE, hP, hK, hD0⟩ := hv
  have hts := atoms_spec (ws := (Cond.code y_Mo_kindRow b_Mo_kindRow 3 none) :: z_T) B.pre
  have htz : ∀ w ∈ z_T, w.before _ s = true := fun w h => hts w (z_cons w h)
  subst hsz
  have hD := hD0.self (sz := s.heap.size)
  generalize hAe : va_A (mw k a f g) s.heap.size = A at hD hE ⊢
  have hA : ∀ q : Nat, s.heap.size ≤ q → A q := fun q h => by rw [← hAe]; exact Or.inr h
  have hl := lv_entry ([.ref (a 0)]) (n := 3) (Nat.le_of_ble_eq_true rfl)
  rw [lg_entry_eq]
  generalize (lg_sl ([.ref (a 0)]) ++ List.replicate (3 - (lg_sl ([.ref (a 0)])).length) Slot.unset).toArray = ls at hl ⊢
  exact h ((l, dC, dI, k, a), p, e, s, m, ([.ref (a 0)] : List Value).toArray, below, meth, c, A) rfl ⟨B.exec, B.bytes, B.returns, htz, findClass_of_methodNamed B.named, B.notSynchronized, hml, hE, hK, hA⟩ s.heap [] ls hl hP hD va_S.rf
def zn_conditionRow (C : CT) (Post : FT → GT → Prop) (pc : Nat) (loc : List (Nat × Value)) (st : List Value) (f : FT) (g : GT) : Prop := zW C (z_rm 4 0 0) 4 (qV C Post) 0 0 pc loc st (mM C.1 f g)
set_option maxHeartbeats 1000000 in
set_option maxRecDepth 100000 in
theorem k_Mo_conditionRow_0 {C : CT} (X : cM C "QuestionTextModel" b_Mo_conditionRow 4 none) (Post : FT → GT → Prop) (x1 : Int32) (f : FT) (g : GT)
    (k_4 : zn_conditionRow C Post 4 [(0, .ref (ad C.1 0)), (1, .int x1), (2, .int 0), (3, .int 1)] [] f g) : zn_conditionRow C Post 0 [(0, .ref (ad C.1 0)), (1, .int x1)] [] f g := by
  obtain ⟨⟨l, dC, dI, k, a⟩, p, e, s, m, args, below, meth, c, A⟩ := C
  obtain ⟨hx, hb, hr, htz, hown, hlocks, hml, hE, hK, hA⟩ := X
  intro H locs ls hl hP hD hS
  have hl : lv_has ls 4 [(0, .ref (a 0)), (1, .int x1)] := hl
  have hP : va_P (dC, dI) classes (mw k a f g) H := hP
  have hD : va_D A (mw k a f g) := hD
  show W p l e (z_rm 4 0 0) s m args below meth c H locs 0 0 _ (F0 m 0 ls [])
  refine lv_iconst (v := 0) hx hb d_Mo_conditionRow_0 (by decide) ?_
  refine lv_istore_n (lv' := [(2, .int 0), (0, .ref (a 0)), (1, .int x1)]) hx hb d_Mo_conditionRow_1 rfl hl (by decide) rfl (fun ls hl => ?_)
  refine lv_iconst (v := 1) hx hb d_Mo_conditionRow_2 (by decide) ?_
  refine lv_istore_n (lv' := [(3, .int 1), (2, .int 0), (0, .ref (a 0)), (1, .int x1)]) hx hb d_Mo_conditionRow_3 rfl hl (by decide) rfl (fun ls hl => ?_)
  exact k_4 H locs ls (lv_sub hl [2, 3, 1, 0] rfl) hP hD hS
set_option maxHeartbeats 1000000 in
set_option maxRecDepth 100000 in
theorem k_Mo_conditionRow_4 {C : CT} (X : cM C "QuestionTextModel" b_Mo_conditionRow 4 none) (Post : FT → GT → Prop) {P_23 : FT → GT → Prop} (x1 : Int32) (x2 : Int32) (x3 : Int32) (f : FT) (g : GT)
    (k_73 : (x3 = 0) → zn_conditionRow C Post 73 [(0, .ref (ad C.1 0)), (1, .int x1), (2, .int x2), (3, .int x3)] [] f g)
    (k_73_1 : (¬ x3 = 0) → (0 ≤ f 6) → zn_conditionRow C Post 73 [(0, .ref (ad C.1 0)), (1, .int x1), (2, .int x2), (3, .int x3)] [] f g)
    (m_23 : (¬ x3 = 0) → (¬ 0 ≤ f 6) → mV C.1 y_Mo_term (Cond.code y_Mo_term b_Mo_term 4 none) 3 [.ref (ad C.1 0), .int ((x1 + 2) + (3 * x2))] f g P_23)
    (k_23 : (¬ x3 = 0) → (¬ 0 ≤ f 6) → ∀ (f1 : FT) (g1 : GT), P_23 f1 g1 → zn_conditionRow C Post 26 [(0, .ref (ad C.1 0)), (1, .int x1), (2, .int x2), (3, .int x3)] [] f1 g1) : zn_conditionRow C Post 4 [(0, .ref (ad C.1 0)), (1, .int x1), (2, .int x2), (3, .int x3)] [] f g := by
  obtain ⟨⟨l, dC, dI, k, a⟩, p, e, s, m, args, below, meth, c, A⟩ := C
  obtain ⟨hx, hb, hr, htz, hown, hlocks, hml, hE, hK, hA⟩ := X
  intro H locs ls hl hP hD hS
  have hl : lv_has ls 4 [(0, .ref (a 0)), (1, .int x1), (2, .int x2), (3, .int x3)] := hl
  have hP : va_P (dC, dI) classes (mw k a f g) H := hP
  have hD : va_D A (mw k a f g) := hD
  show W p l e (z_rm 4 0 0) s m args below meth c H locs 0 0 _ (F0 m 4 ls [])
  refine lv_iload_n hx hb d_Mo_conditionRow_4 rfl (lv_at hl 3 rfl) ?_
  refine lv_if_eq (tgt := 73) hx hb d_Mo_conditionRow_5 (by decide) (fun c_5 => ?_) (fun c_5 => ?_)
  · exact (k_73 c_5) H locs ls (lv_sub hl [0, 1, 2, 3] rfl) hP hD hS
  · refine lv_aload_n hx hb d_Mo_conditionRow_8 rfl (lv_at hl 0 rfl) ?_
    refine va_get (D := (dC, dI)) (ci := 4) (v := .int (f 6)) (C := R_Mo) (T := F_Mo) (N := 31) hx hb htz i_Mo hown hK hP 0 rfl rfl 19 (by decide) (htz _ kf_Mo_86) (fun _ h9 => h9) rfl d_Mo_conditionRow_9 ?_
    refine lv_if_ge (tgt := 73) hx hb d_Mo_conditionRow_12 (by decide) (fun c_12 => ?_) (fun c_12 => ?_)
    · exact (k_73_1 c_5 c_12) H locs ls (lv_sub hl [0, 1, 2, 3] rfl) hP hD hS
    · refine lv_aload_n hx hb d_Mo_conditionRow_15 rfl (lv_at hl 0 rfl) ?_
      refine lv_iload_n hx hb d_Mo_conditionRow_16 rfl (lv_at hl 1 rfl) ?_
      refine lv_iconst (v := 2) hx hb d_Mo_conditionRow_17 (by decide) ?_
      refine lv_iadd hx hb d_Mo_conditionRow_18 ?_
      refine lv_iconst (v := 3) hx hb d_Mo_conditionRow_19 (by decide) ?_
      refine lv_iload_n hx hb d_Mo_conditionRow_20 rfl (lv_at hl 2 rfl) ?_
      refine lv_imul hx hb d_Mo_conditionRow_21 ?_
      refine lv_iadd hx hb d_Mo_conditionRow_22 ?_
      have hFc := va_free (wc := mw k a f g) hD hS hA [0, 1, 2, 3, 4, 5, 6, 7, 8, 9, 10, 11, 12, 13, 14, 15, 16, 17, 18] rfl
      refine va_callv (va_runV (As := [.int ((x1 + 2) + (3 * x2))]) (rest := []) ⟨hx, hb, hml, hown, htz⟩ ((m_23 c_5 c_12) H.size) (cwV 1 htz (z_gV (fun _ h => h) km_Mo_123 in_Mo_term se_Mo_term ini_Mo m_Mo_term) rfl rfl rfl (by decide +kernel) ⟨(Nat.le_of_ble_eq_true rfl), (Nat.le_of_ble_eq_true rfl)⟩) ⟨z_blind, va_recv hK hP (ci := 4) (q0 := 0) rfl rfl, fun U hU hW => ⟨rfl, by rw [hU], hE.call hS hFc hU hW, by rw [hU]; exact hP, va_K.moved hW.alike hK, hD.weaken (fun _ _ _ _ => trivial)⟩⟩ rfl rfl hl.1 rfl (lv_room (Nat.le_of_ble_eq_true rfl)) d_Mo_conditionRow_23 ⟨(Nat.le_of_ble_eq_true rfl), (Nat.le_of_ble_eq_true rfl)⟩) hS (fun q _ h => hFc q h) hFc (fun u t H1 locs ht hvm hw hB hz1 hk1 hS => ?_)
      obtain ⟨hP1, hK1, hD1⟩ := hB
      rw [ht] at hP1
      exact (k_23 c_5 c_12) _ _ hw H1 locs ls (lv_sub hl [0, 1, 2, 3] rfl) hP1 (hD1.weaken (fun _ q _ h => hFc _ h)) hS
set_option maxHeartbeats 1000000 in
set_option maxRecDepth 100000 in
theorem k_Mo_conditionRow_26 {C : CT} (X : cM C "QuestionTextModel" b_Mo_conditionRow 4 none) (Post : FT → GT → Prop) {P_42 : Int32 → FT → GT → Prop} (x1 : Int32) (x2 : Int32) (x3 : Int32) (f : FT) (g : GT)
    (k_54 : (0 ≤ f 6) → zn_conditionRow C Post 54 [(0, .ref (ad C.1 0)), (1, .int x1), (2, .int (x2 + 1)), (3, .int x3)] [] f g)
    (k_54_1 : (¬ 0 ≤ f 6) → (4 ≤ x2 + 1) → zn_conditionRow C Post 54 [(0, .ref (ad C.1 0)), (1, .int x1), (2, .int (x2 + 1)), (3, .int x3)] [] f g)
    (m_42 : (¬ 0 ≤ f 6) → (¬ 4 ≤ x2 + 1) → mI C.1 y_Mo_see (Cond.code y_Mo_see b_Mo_see 1 (some .int)) 1 [.ref (ad C.1 0)] f g P_42)
    (k_42 : (¬ 0 ≤ f 6) → (¬ 4 ≤ x2 + 1) → ∀ (r : Int32) (f1 : FT) (g1 : GT), P_42 r f1 g1 → zn_conditionRow C Post 45 [(0, .ref (ad C.1 0)), (1, .int x1), (2, .int (x2 + 1)), (3, .int x3)] [.int r] f1 g1) : zn_conditionRow C Post 26 [(0, .ref (ad C.1 0)), (1, .int x1), (2, .int x2), (3, .int x3)] [] f g := by
  obtain ⟨⟨l, dC, dI, k, a⟩, p, e, s, m, args, below, meth, c, A⟩ := C
  obtain ⟨hx, hb, hr, htz, hown, hlocks, hml, hE, hK, hA⟩ := X
  intro H locs ls hl hP hD hS
  have hl : lv_has ls 4 [(0, .ref (a 0)), (1, .int x1), (2, .int x2), (3, .int x3)] := hl
  have hP : va_P (dC, dI) classes (mw k a f g) H := hP
  have hD : va_D A (mw k a f g) := hD
  show W p l e (z_rm 4 0 0) s m args below meth c H locs 0 0 _ (F0 m 26 ls [])
  refine lv_iinc (v := x2 + 1) (lv' := [(2, .int (x2 + 1)), (0, .ref (a 0)), (1, .int x1), (3, .int x3)]) hx hb d_Mo_conditionRow_26 hl (k := 2) rfl (rfl) (by decide) rfl (fun ls hl => ?_)
  refine lv_aload_n hx hb d_Mo_conditionRow_29 rfl (lv_at hl 1 rfl) ?_
  refine va_get (D := (dC, dI)) (ci := 4) (v := .int (f 6)) (C := R_Mo) (T := F_Mo) (N := 31) hx hb htz i_Mo hown hK hP 0 rfl rfl 19 (by decide) (htz _ kf_Mo_86) (fun _ h9 => h9) rfl d_Mo_conditionRow_30 ?_
  refine lv_if_ge (tgt := 54) hx hb d_Mo_conditionRow_33 (by decide) (fun c_33 => ?_) (fun c_33 => ?_)
  · exact (k_54 c_33) H locs ls (lv_sub hl [1, 2, 0, 3] rfl) hP hD hS
  · refine lv_iload_n hx hb d_Mo_conditionRow_36 rfl (lv_at hl 0 rfl) ?_
    refine lv_iconst (v := 4) hx hb d_Mo_conditionRow_37 (by decide) ?_
    refine lv_icmp_ge (tgt := 54) hx hb d_Mo_conditionRow_38 (by decide) (fun c_38 => ?_) (fun c_38 => ?_)
    · exact (k_54_1 c_33 c_38) H locs ls (lv_sub hl [1, 2, 0, 3] rfl) hP hD hS
    · refine lv_aload_n hx hb d_Mo_conditionRow_41 rfl (lv_at hl 1 rfl) ?_
      have hFc := va_free (wc := mw k a f g) hD hS hA [0, 1, 2, 3, 4, 5, 6, 7, 8, 9, 10, 11, 12, 13, 14, 15, 16, 17, 18] rfl
      refine va_calli (va_runV (As := []) (rest := []) ⟨hx, hb, hml, hown, htz⟩ ((m_42 c_33 c_38) H.size) (cwV 0 htz (z_gV (fun _ h => h) km_Mo_89 in_Mo_see se_Mo_see ini_Mo m_Mo_see) rfl rfl rfl (by decide +kernel) ⟨(Nat.le_of_ble_eq_true rfl), (Nat.le_of_ble_eq_true rfl)⟩) ⟨z_blind, va_recv hK hP (ci := 4) (q0 := 0) rfl rfl, fun U hU hW => ⟨rfl, by rw [hU], hE.call hS hFc hU hW, by rw [hU]; exact hP, va_K.moved hW.alike hK, hD.weaken (fun _ _ _ _ => trivial)⟩⟩ rfl rfl hl.1 rfl (lv_room (Nat.le_of_ble_eq_true rfl)) d_Mo_conditionRow_42 ⟨(Nat.le_of_ble_eq_true rfl), (Nat.le_of_ble_eq_true rfl)⟩) hS (fun q _ h => hFc q h) hFc (fun r u t H1 locs ht hvm hw hB hz1 hk1 hS => ?_)
      obtain ⟨hP1, hK1, hD1⟩ := hB
      rw [ht] at hP1
      exact (k_42 c_33 c_38) r _ _ hw H1 locs ls (lv_sub hl [1, 2, 0, 3] rfl) hP1 (hD1.weaken (fun _ q _ h => hFc _ h)) hS
set_option maxHeartbeats 1000000 in
set_option maxRecDepth 100000 in
theorem k_Mo_conditionRow_45 {C : CT} (X : cM C "QuestionTextModel" b_Mo_conditionRow 4 none) (Post : FT → GT → Prop) (x1 : Int32) (x2 : Int32) (x3 : Int32) (y0 : Int32) (f : FT) (g : GT)
    (k_54 : (¬ y0 = 38) → zn_conditionRow C Post 54 [(0, .ref (ad C.1 0)), (1, .int x1), (2, .int x2), (3, .int x3)] [] f g)
    (k_55 : (y0 = 38) → zn_conditionRow C Post 55 [(0, .ref (ad C.1 0)), (1, .int x1), (2, .int x2), (3, .int x3)] [.int 1] f g) : zn_conditionRow C Post 45 [(0, .ref (ad C.1 0)), (1, .int x1), (2, .int x2), (3, .int x3)] [.int y0] f g := by
  obtain ⟨⟨l, dC, dI, k, a⟩, p, e, s, m, args, below, meth, c, A⟩ := C
  obtain ⟨hx, hb, hr, htz, hown, hlocks, hml, hE, hK, hA⟩ := X
  intro H locs ls hl hP hD hS
  have hl : lv_has ls 4 [(0, .ref (a 0)), (1, .int x1), (2, .int x2), (3, .int x3)] := hl
  have hP : va_P (dC, dI) classes (mw k a f g) H := hP
  have hD : va_D A (mw k a f g) := hD
  show W p l e (z_rm 4 0 0) s m args below meth c H locs 0 0 _ (F0 m 45 ls [.int y0])
  refine lv_bipush (v := 38) hx hb d_Mo_conditionRow_45 (by decide) ?_
  refine lv_icmp_ne (tgt := 54) hx hb d_Mo_conditionRow_47 (by decide) (fun c_47 => ?_) (fun c_47 => ?_)
  · exact (k_54 c_47) H locs ls (lv_sub hl [0, 1, 2, 3] rfl) hP hD hS
  · refine lv_iconst (v := 1) hx hb d_Mo_conditionRow_50 (by decide) ?_
    refine lv_goto (tgt := 55) hx hb d_Mo_conditionRow_51 (by decide) ?_
    exact (k_55 c_47) H locs ls (lv_sub hl [0, 1, 2, 3] rfl) hP hD hS
set_option maxHeartbeats 1000000 in
set_option maxRecDepth 100000 in
theorem k_Mo_conditionRow_54 {C : CT} (X : cM C "QuestionTextModel" b_Mo_conditionRow 4 none) (Post : FT → GT → Prop) (x1 : Int32) (x2 : Int32) (x3 : Int32) (f : FT) (g : GT)
    (k_55 : zn_conditionRow C Post 55 [(0, .ref (ad C.1 0)), (1, .int x1), (2, .int x2), (3, .int x3)] [.int 0] f g) : zn_conditionRow C Post 54 [(0, .ref (ad C.1 0)), (1, .int x1), (2, .int x2), (3, .int x3)] [] f g := by
  obtain ⟨⟨l, dC, dI, k, a⟩, p, e, s, m, args, below, meth, c, A⟩ := C
  obtain ⟨hx, hb, hr, htz, hown, hlocks, hml, hE, hK, hA⟩ := X
  intro H locs ls hl hP hD hS
  have hl : lv_has ls 4 [(0, .ref (a 0)), (1, .int x1), (2, .int x2), (3, .int x3)] := hl
  have hP : va_P (dC, dI) classes (mw k a f g) H := hP
  have hD : va_D A (mw k a f g) := hD
  show W p l e (z_rm 4 0 0) s m args below meth c H locs 0 0 _ (F0 m 54 ls [])
  refine lv_iconst (v := 0) hx hb d_Mo_conditionRow_54 (by decide) ?_
  exact k_55 H locs ls (lv_sub hl [0, 1, 2, 3] rfl) hP hD hS
set_option maxHeartbeats 1000000 in
set_option maxRecDepth 100000 in
theorem k_Mo_conditionRow_55 {C : CT} (X : cM C "QuestionTextModel" b_Mo_conditionRow 4 none) (Post : FT → GT → Prop) (x1 : Int32) (x2 : Int32) (x3 : Int32) (y0 : Int32) (f : FT) (g : GT)
    (k_4 : (y0 = 0) → zn_conditionRow C Post 4 [(0, .ref (ad C.1 0)), (1, .int x1), (2, .int x2), (3, .int y0)] [] f g)
    (k_4_1 : (¬ y0 = 0) → zn_conditionRow C Post 4 [(0, .ref (ad C.1 0)), (1, .int x1), (2, .int x2), (3, .int y0)] [] (va_up f 5 ((f 5) + 1)) g) : zn_conditionRow C Post 55 [(0, .ref (ad C.1 0)), (1, .int x1), (2, .int x2), (3, .int x3)] [.int y0] f g := by
  obtain ⟨⟨l, dC, dI, k, a⟩, p, e, s, m, args, below, meth, c, A⟩ := C
  obtain ⟨hx, hb, hr, htz, hown, hlocks, hml, hE, hK, hA⟩ := X
  intro H locs ls hl hP hD hS
  have hl : lv_has ls 4 [(0, .ref (a 0)), (1, .int x1), (2, .int x2), (3, .int x3)] := hl
  have hP : va_P (dC, dI) classes (mw k a f g) H := hP
  have hD : va_D A (mw k a f g) := hD
  show W p l e (z_rm 4 0 0) s m args below meth c H locs 0 0 _ (F0 m 55 ls [.int y0])
  refine lv_istore_n (lv' := [(3, .int y0), (0, .ref (a 0)), (1, .int x1), (2, .int x2)]) hx hb d_Mo_conditionRow_55 rfl hl (by decide) rfl (fun ls hl => ?_)
  refine lv_iload_n hx hb d_Mo_conditionRow_56 rfl (lv_at hl 0 rfl) ?_
  refine lv_if_eq (tgt := 4) hx hb d_Mo_conditionRow_57 (by decide) (fun c_57 => ?_) (fun c_57 => ?_)
  · exact (k_4 c_57) H locs ls (lv_sub hl [1, 2, 3, 0] rfl) hP hD hS
  · refine lv_aload_n hx hb d_Mo_conditionRow_60 rfl (lv_at hl 1 rfl) ?_
    refine lv_dup hx hb d_Mo_conditionRow_61 rfl ?_
    refine va_get (D := (dC, dI)) (ci := 4) (v := .int (f 5)) (C := R_Mo) (T := F_Mo) (N := 31) hx hb htz i_Mo hown hK hP 0 rfl rfl 18 (by decide) (htz _ kf_Mo_79) (fun _ h9 => h9) rfl d_Mo_conditionRow_62 ?_
    refine lv_iconst (v := 1) hx hb d_Mo_conditionRow_65 (by decide) ?_
    refine lv_iadd hx hb d_Mo_conditionRow_66 ?_
    refine va_put (D := (dC, dI)) (ci := 4) (v := .int ((f 5) + 1)) (ty := .int) (C := R_Mo) (T := F_Mo) (N := 31) hx hb htz i_Mo t_Mo o_Mo n_Mo hown hK hP hD hS 0 rfl rfl 18 (by decide) (htz _ kf_Mo_79) (fun _ h9 => h9) rfl (by decide +kernel) rfl rfl (Nat.le_of_ble_eq_true rfl) d_Mo_conditionRow_67 (fun H locs hP hD hS => ?_)
    replace hP := mf_5 (v := (f 5) + 1) hP
    replace hD := md_5 (v := (f 5) + 1) hD
    refine lv_goto (tgt := 4) hx hb d_Mo_conditionRow_70 (by decide) ?_
    exact (k_4_1 c_57) H locs ls (lv_sub hl [1, 2, 3, 0] rfl) hP hD hS
set_option maxHeartbeats 1000000 in
set_option maxRecDepth 100000 in
theorem k_Mo_conditionRow_73 {C : CT} (X : cM C "QuestionTextModel" b_Mo_conditionRow 4 none) (Post : FT → GT → Prop) {P_85 : FT → GT → Prop} (x1 : Int32) (x2 : Int32) (x3 : Int32) (f : FT) (g : GT)
    (h_81 : vp_in (x1 + 1) 8400)
    (m_85 : mV C.1 y_Mo_take (Cond.code y_Mo_take b_Mo_take 2 none) 2 [.ref (ad C.1 0), .int 58] f (va_up g 12 (upd (g 12) (x1 + 1 : Int32).toNatClampNeg x2)) P_85)
    (k_85 : ∀ (f1 : FT) (g1 : GT), P_85 f1 g1 → zn_conditionRow C Post 88 [(0, .ref (ad C.1 0)), (1, .int x1), (2, .int x2), (3, .int x3)] [] f1 g1) : zn_conditionRow C Post 73 [(0, .ref (ad C.1 0)), (1, .int x1), (2, .int x2), (3, .int x3)] [] f g := by
  obtain ⟨⟨l, dC, dI, k, a⟩, p, e, s, m, args, below, meth, c, A⟩ := C
  obtain ⟨hx, hb, hr, htz, hown, hlocks, hml, hE, hK, hA⟩ := X
  intro H locs ls hl hP hD hS
  have hl : lv_has ls 4 [(0, .ref (a 0)), (1, .int x1), (2, .int x2), (3, .int x3)] := hl
  have hP : va_P (dC, dI) classes (mw k a f g) H := hP
  have hD : va_D A (mw k a f g) := hD
  show W p l e (z_rm 4 0 0) s m args below meth c H locs 0 0 _ (F0 m 73 ls [])
  refine lv_aload_n hx hb d_Mo_conditionRow_73 rfl (lv_at hl 0 rfl) ?_
  refine va_get (D := (dC, dI)) (ci := 4) (v := .ref (a 13)) (C := R_Mo) (T := F_Mo) (N := 31) hx hb htz i_Mo hown hK hP 0 rfl rfl 17 (by decide) (htz _ kf_Mo_51) (fun _ h9 => h9) rfl d_Mo_conditionRow_74 ?_
  refine lv_iload_n hx hb d_Mo_conditionRow_77 rfl (lv_at hl 1 rfl) ?_
  refine lv_iconst (v := 1) hx hb d_Mo_conditionRow_78 (by decide) ?_
  refine lv_iadd hx hb d_Mo_conditionRow_79 ?_
  refine lv_iload_n hx hb d_Mo_conditionRow_80 rfl (lv_at hl 2 rfl) ?_
  refine va_iast hx hb hK hP hD hS 13 0 rfl rfl h_81 d_Mo_conditionRow_81 (fun H locs hP hD hS => ?_)
  replace hP := mg_12 (c := upd (g 12) (x1 + 1 : Int32).toNatClampNeg x2) hP
  replace hD := mh_12 (c := upd (g 12) (x1 + 1 : Int32).toNatClampNeg x2) hD
  refine lv_aload_n hx hb d_Mo_conditionRow_82 rfl (lv_at hl 0 rfl) ?_
  refine lv_bipush (v := 58) hx hb d_Mo_conditionRow_83 (by decide) ?_
  have hFc := va_free (wc := mw k a f (va_up g 12 (upd (g 12) (x1 + 1 : Int32).toNatClampNeg x2))) hD hS hA [0, 1, 2, 3, 4, 5, 6, 7, 8, 9, 10, 11, 12, 13, 14, 15, 16, 17, 18] rfl
  refine va_callv (va_runV (As := [.int 58]) (rest := []) ⟨hx, hb, hml, hown, htz⟩ (m_85 H.size) (cwV 1 htz (z_gV (fun _ h => h) km_Mo_103 in_Mo_take se_Mo_take ini_Mo m_Mo_take) rfl rfl rfl (by decide +kernel) ⟨(Nat.le_of_ble_eq_true rfl), (Nat.le_of_ble_eq_true rfl)⟩) ⟨z_blind, va_recv hK hP (ci := 4) (q0 := 0) rfl rfl, fun U hU hW => ⟨rfl, by rw [hU], hE.call hS hFc hU hW, by rw [hU]; exact hP, va_K.moved hW.alike hK, hD.weaken (fun _ _ _ _ => trivial)⟩⟩ rfl rfl hl.1 rfl (lv_room (Nat.le_of_ble_eq_true rfl)) d_Mo_conditionRow_85 ⟨(Nat.le_of_ble_eq_true rfl), (Nat.le_of_ble_eq_true rfl)⟩) hS (fun q _ h => hFc q h) hFc (fun u t H1 locs ht hvm hw hB hz1 hk1 hS => ?_)
  obtain ⟨hP1, hK1, hD1⟩ := hB
  rw [ht] at hP1
  exact k_85 _ _ hw H1 locs ls (lv_sub hl [0, 1, 2, 3] rfl) hP1 (hD1.weaken (fun _ q _ h => hFc _ h)) hS
set_option maxHeartbeats 1000000 in
set_option maxRecDepth 100000 in
theorem k_Mo_conditionRow_88 {C : CT} (X : cM C "QuestionTextModel" b_Mo_conditionRow 4 none) (Post : FT → GT → Prop) {P_97 : Int32 → FT → GT → Prop} (x1 : Int32) (x2 : Int32) (x3 : Int32) (f : FT) (g : GT)
    (m_97 : mI C.1 y_Mo_number (Cond.code y_Mo_number b_Mo_number 4 (some .int)) 2 [.ref (ad C.1 0), .int 0, .int 9] f g P_97)
    (k_97 : ∀ (r : Int32) (f1 : FT) (g1 : GT), P_97 r f1 g1 → zn_conditionRow C Post 100 [(0, .ref (ad C.1 0)), (1, .int x1), (2, .int x2), (3, .int x3)] [.int r, .int x1, .ref (ad C.1 13)] f1 g1) : zn_conditionRow C Post 88 [(0, .ref (ad C.1 0)), (1, .int x1), (2, .int x2), (3, .int x3)] [] f g := by
  obtain ⟨⟨l, dC, dI, k, a⟩, p, e, s, m, args, below, meth, c, A⟩ := C
  obtain ⟨hx, hb, hr, htz, hown, hlocks, hml, hE, hK, hA⟩ := X
  intro H locs ls hl hP hD hS
  have hl : lv_has ls 4 [(0, .ref (a 0)), (1, .int x1), (2, .int x2), (3, .int x3)] := hl
  have hP : va_P (dC, dI) classes (mw k a f g) H := hP
  have hD : va_D A (mw k a f g) := hD
  show W p l e (z_rm 4 0 0) s m args below meth c H locs 0 0 _ (F0 m 88 ls [])
  refine lv_aload_n hx hb d_Mo_conditionRow_88 rfl (lv_at hl 0 rfl) ?_
  refine va_get (D := (dC, dI)) (ci := 4) (v := .ref (a 13)) (C := R_Mo) (T := F_Mo) (N := 31) hx hb htz i_Mo hown hK hP 0 rfl rfl 17 (by decide) (htz _ kf_Mo_51) (fun _ h9 => h9) rfl d_Mo_conditionRow_89 ?_
  refine lv_iload_n hx hb d_Mo_conditionRow_92 rfl (lv_at hl 1 rfl) ?_
  refine lv_aload_n hx hb d_Mo_conditionRow_93 rfl (lv_at hl 0 rfl) ?_
  refine lv_iconst (v := 0) hx hb d_Mo_conditionRow_94 (by decide) ?_
  refine lv_bipush (v := 9) hx hb d_Mo_conditionRow_95 (by decide) ?_
  have hFc := va_free (wc := mw k a f g) hD hS hA [0, 1, 2, 3, 4, 5, 6, 7, 8, 9, 10, 11, 12, 13, 14, 15, 16, 17, 18] rfl
  refine va_calli (va_runV (As := [.int 0, .int 9]) (rest := [.int x1, .ref (a 13)]) ⟨hx, hb, hml, hown, htz⟩ (m_97 H.size) (cwV 2 htz (z_gV (fun _ h => h) km_Mo_109 in_Mo_number se_Mo_number ini_Mo m_Mo_number) rfl rfl rfl (by decide +kernel) ⟨(Nat.le_of_ble_eq_true rfl), (Nat.le_of_ble_eq_true rfl)⟩) ⟨z_blind, va_recv hK hP (ci := 4) (q0 := 0) rfl rfl, fun U hU hW => ⟨rfl, by rw [hU], hE.call hS hFc hU hW, by rw [hU]; exact hP, va_K.moved hW.alike hK, hD.weaken (fun _ _ _ _ => trivial)⟩⟩ rfl rfl hl.1 rfl (lv_room (Nat.le_of_ble_eq_true rfl)) d_Mo_conditionRow_97 ⟨(Nat.le_of_ble_eq_true rfl), (Nat.le_of_ble_eq_true rfl)⟩) hS (fun q _ h => hFc q h) hFc (fun r u t H1 locs ht hvm hw hB hz1 hk1 hS => ?_)
  obtain ⟨hP1, hK1, hD1⟩ := hB
  rw [ht] at hP1
  exact k_97 r _ _ hw H1 locs ls (lv_sub hl [0, 1, 2, 3] rfl) hP1 (hD1.weaken (fun _ q _ h => hFc _ h)) hS
set_option maxHeartbeats 1000000 in
set_option maxRecDepth 100000 in
theorem k_Mo_conditionRow_100 {C : CT} (X : cM C "QuestionTextModel" b_Mo_conditionRow 4 none) (Post : FT → GT → Prop) {P_104 : FT → GT → Prop} (x1 : Int32) (x2 : Int32) (x3 : Int32) (y0 : Int32) (y1 : Int32) (f : FT) (g : GT)
    (h_100 : vp_in (y1) 8400)
    (m_104 : mV C.1 y_Mo_take (Cond.code y_Mo_take b_Mo_take 2 none) 2 [.ref (ad C.1 0), .int 41] f (va_up g 12 (upd (g 12) (y1 : Int32).toNatClampNeg y0)) P_104)
    (k_104 : ∀ (f1 : FT) (g1 : GT), P_104 f1 g1 → zn_conditionRow C Post 107 [(0, .ref (ad C.1 0)), (1, .int x1), (2, .int x2), (3, .int x3)] [] f1 g1) : zn_conditionRow C Post 100 [(0, .ref (ad C.1 0)), (1, .int x1), (2, .int x2), (3, .int x3)] [.int y0, .int y1, .ref (ad C.1 13)] f g := by
  obtain ⟨⟨l, dC, dI, k, a⟩, p, e, s, m, args, below, meth, c, A⟩ := C
  obtain ⟨hx, hb, hr, htz, hown, hlocks, hml, hE, hK, hA⟩ := X
  intro H locs ls hl hP hD hS
  have hl : lv_has ls 4 [(0, .ref (a 0)), (1, .int x1), (2, .int x2), (3, .int x3)] := hl
  have hP : va_P (dC, dI) classes (mw k a f g) H := hP
  have hD : va_D A (mw k a f g) := hD
  show W p l e (z_rm 4 0 0) s m args below meth c H locs 0 0 _ (F0 m 100 ls [.int y0, .int y1, .ref (a 13)])
  refine va_iast hx hb hK hP hD hS 13 0 rfl rfl h_100 d_Mo_conditionRow_100 (fun H locs hP hD hS => ?_)
  replace hP := mg_12 (c := upd (g 12) (y1 : Int32).toNatClampNeg y0) hP
  replace hD := mh_12 (c := upd (g 12) (y1 : Int32).toNatClampNeg y0) hD
  refine lv_aload_n hx hb d_Mo_conditionRow_101 rfl (lv_at hl 0 rfl) ?_
  refine lv_bipush (v := 41) hx hb d_Mo_conditionRow_102 (by decide) ?_
  have hFc := va_free (wc := mw k a f (va_up g 12 (upd (g 12) (y1 : Int32).toNatClampNeg y0))) hD hS hA [0, 1, 2, 3, 4, 5, 6, 7, 8, 9, 10, 11, 12, 13, 14, 15, 16, 17, 18] rfl
  refine va_callv (va_runV (As := [.int 41]) (rest := []) ⟨hx, hb, hml, hown, htz⟩ (m_104 H.size) (cwV 1 htz (z_gV (fun _ h => h) km_Mo_103 in_Mo_take se_Mo_take ini_Mo m_Mo_take) rfl rfl rfl (by decide +kernel) ⟨(Nat.le_of_ble_eq_true rfl), (Nat.le_of_ble_eq_true rfl)⟩) ⟨z_blind, va_recv hK hP (ci := 4) (q0 := 0) rfl rfl, fun U hU hW => ⟨rfl, by rw [hU], hE.call hS hFc hU hW, by rw [hU]; exact hP, va_K.moved hW.alike hK, hD.weaken (fun _ _ _ _ => trivial)⟩⟩ rfl rfl hl.1 rfl (lv_room (Nat.le_of_ble_eq_true rfl)) d_Mo_conditionRow_104 ⟨(Nat.le_of_ble_eq_true rfl), (Nat.le_of_ble_eq_true rfl)⟩) hS (fun q _ h => hFc q h) hFc (fun u t H1 locs ht hvm hw hB hz1 hk1 hS => ?_)
  obtain ⟨hP1, hK1, hD1⟩ := hB
  rw [ht] at hP1
  exact k_104 _ _ hw H1 locs ls (lv_sub hl [0, 1, 2, 3] rfl) hP1 (hD1.weaken (fun _ q _ h => hFc _ h)) hS
set_option maxHeartbeats 1000000 in
set_option maxRecDepth 100000 in
theorem k_Mo_conditionRow_107 {C : CT} (X : cM C "QuestionTextModel" b_Mo_conditionRow 4 none) (Post : FT → GT → Prop) (x1 : Int32) (x2 : Int32) (x3 : Int32) (f : FT) (g : GT)
    (q_107 : Post f g) : zn_conditionRow C Post 107 [(0, .ref (ad C.1 0)), (1, .int x1), (2, .int x2), (3, .int x3)] [] f g := by
  obtain ⟨⟨l, dC, dI, k, a⟩, p, e, s, m, args, below, meth, c, A⟩ := C
  obtain ⟨hx, hb, hr, htz, hown, hlocks, hml, hE, hK, hA⟩ := X
  intro H locs ls hl hP hD hS
  have hl : lv_has ls 4 [(0, .ref (a 0)), (1, .int x1), (2, .int x2), (3, .int x3)] := hl
  have hP : va_P (dC, dI) classes (mw k a f g) H := hP
  have hD : va_D A (mw k a f g) := hD
  show W p l e (z_rm 4 0 0) s m args below meth c H locs 0 0 _ (F0 m 107 ls [])
  exact W.vret hx hb hr (fun t ht hW => ⟨⟨(f, g), rfl, q_107, by rw [ht]; exact hP, va_K.moved hW.alike hK, hD⟩, hS.F ht⟩) hS.2.2 d_Mo_conditionRow_107
set_option maxHeartbeats 1000000 in
set_option maxRecDepth 100000 in
theorem e_Mo_conditionRow (T : ST) (Post : FT → GT → Prop) (x1 : Int32) (f : FT) (g : GT) (h : ∀ C : CT, C.1 = T → cM C "QuestionTextModel" b_Mo_conditionRow 4 none → zn_conditionRow C Post 0 [(0, .ref (ad C.1 0)), (1, .int x1)] [] f g) : mV T y_Mo_conditionRow (Cond.code y_Mo_conditionRow b_Mo_conditionRow 4 none) 4 [.ref (ad T 0), .int x1] f g Post := by
  obtain ⟨l, dC, dI, k, a⟩ := T
  intro sz
  refine Met.ofW (cc := b_Mo_conditionRow) (maxL := 4) (ret := none) (by decide) rfl ?_
  intro p e s m args below meth c s₁ B hml hv
  obtain ⟨rfl, hsz, hE, hP, hK, hD0⟩ := hv
  have hts := atoms_spec (ws := (Cond.code y_Mo_conditionRow b_Mo_conditionRow 4 none) :: z_T) B.pre
  have htz : ∀ w ∈ z_T, w.before _ s = true := fun w h => hts w (z_cons w h)
  subst hsz
  have hD := hD0.self (sz := s.heap.size)
  generalize hAe : va_A (mw k a f g) s.heap.size = A at hD hE ⊢
  have hA : ∀ q : Nat, s.heap.size ≤ q → A q := fun q h => by rw [← hAe]; exact Or.inr h
  have hl := lv_entry ([.ref (a 0), .int x1]) (n := 4) (Nat.le_of_ble_eq_true rfl)
  rw [lg_entry_eq]
  generalize (lg_sl ([.ref (a 0), .int x1]) ++ List.replicate (4 - (lg_sl ([.ref (a 0), .int x1])).length) Slot.unset).toArray = ls at hl ⊢
  exact h ((l, dC, dI, k, a), p, e, s, m, ([.ref (a 0), .int x1] : List Value).toArray, below, meth, c, A) rfl ⟨B.exec, B.bytes, B.returns, htz, findClass_of_methodNamed B.named, B.notSynchronized, hml, hE, hK, hA⟩ s.heap [] ls hl hP hD va_S.rf
def zn_term (C : CT) (Post : FT → GT → Prop) (pc : Nat) (loc : List (Nat × Value)) (st : List Value) (f : FT) (g : GT) : Prop := zW C (z_rm 3 0 0) 4 (qV C Post) 0 0 pc loc st (mM C.1 f g)
set_option maxHeartbeats 1000000 in
set_option maxRecDepth 100000 in
theorem k_Mo_term_0 {C : CT} (X : cM C "QuestionTextModel" b_Mo_term 4 none) (Post : FT → GT → Prop) {P_1 : Int32 → FT → GT → Prop} (x1 : Int32) (f : FT) (g : GT)
    (m_1 : mI C.1 y_Mo_see (Cond.code y_Mo_see b_Mo_see 1 (some .int)) 1 [.ref (ad C.1 0)] f g P_1)
    (k_1 : ∀ (r : Int32) (f1 : FT) (g1 : GT), P_1 r f1 g1 → zn_term C Post 4 [(0, .ref (ad C.1 0)), (1, .int x1)] [.int r] f1 g1) : zn_term C Post 0 [(0, .ref (ad C.1 0)), (1, .int x1)] [] f g := by
  obtain ⟨⟨l, dC, dI, k, a⟩, p, e, s, m, args, below, meth, c, A⟩ := C
  obtain ⟨hx, hb, hr, htz, hown, hlocks, hml, hE, hK, hA⟩ := X
  intro H locs ls hl hP hD hS
  have hl : lv_has ls 4 [(0, .ref (a 0)), (1, .int x1)] := hl
  have hP : va_P (dC, dI) classes (mw k a f g) H := hP
  have hD : va_D A (mw k a f g) := hD
  show W p l e (z_rm 3 0 0) s m args below meth c H locs 0 0 _ (F0 m 0 ls [])
  refine lv_aload_n hx hb d_Mo_term_0 rfl (lv_at hl 0 rfl) ?_
  have hFc := va_free (wc := mw k a f g) hD hS hA [0, 1, 2, 3, 4, 5, 6, 7, 8, 9, 10, 11, 12, 13, 14, 15, 16, 17, 18] rfl
  refine va_calli (va_runV (As := []) (rest := []) ⟨hx, hb, hml, hown, htz⟩ (m_1 H.size) (cwV 0 htz (z_gV (fun _ h => h) km_Mo_89 in_Mo_see se_Mo_see ini_Mo m_Mo_see) rfl rfl rfl (by decide +kernel) ⟨(Nat.le_of_ble_eq_true rfl), (Nat.le_of_ble_eq_true rfl)⟩) ⟨z_blind, va_recv hK hP (ci := 4) (q0 := 0) rfl rfl, fun U hU hW => ⟨rfl, by rw [hU], hE.call hS hFc hU hW, by rw [hU]; exact hP, va_K.moved hW.alike hK, hD.weaken (fun _ _ _ _ => trivial)⟩⟩ rfl rfl hl.1 rfl (lv_room (Nat.le_of_ble_eq_true rfl)) d_Mo_term_1 ⟨(Nat.le_of_ble_eq_true rfl), (Nat.le_of_ble_eq_true rfl)⟩) hS (fun q _ h => hFc q h) hFc (fun r u t H1 locs ht hvm hw hB hz1 hk1 hS => ?_)
  obtain ⟨hP1, hK1, hD1⟩ := hB
  rw [ht] at hP1
  exact k_1 r _ _ hw H1 locs ls (lv_sub hl [0, 1] rfl) hP1 (hD1.weaken (fun _ q _ h => hFc _ h)) hS
set_option maxHeartbeats 1000000 in
set_option maxRecDepth 100000 in
theorem k_Mo_term_4 {C : CT} (X : cM C "QuestionTextModel" b_Mo_term 4 none) (Post : FT → GT → Prop) {P_22 : FT → GT → Prop} (x1 : Int32) (y0 : Int32) (f : FT) (g : GT)
    (k_25 : (y0 = 113) → zn_term C Post 25 [(0, .ref (ad C.1 0)), (1, .int x1), (2, .int y0)] [] f g)
    (k_25_1 : (¬ y0 = 113) → (y0 = 112) → zn_term C Post 25 [(0, .ref (ad C.1 0)), (1, .int x1), (2, .int y0)] [] f g)
    (m_22 : (¬ y0 = 113) → (¬ y0 = 112) → mV C.1 y_Mo_fail (Cond.code y_Mo_fail b_Mo_fail 2 none) 0 [.ref (ad C.1 0), .int (f 5)] f g P_22)
    (k_22 : (¬ y0 = 113) → (¬ y0 = 112) → ∀ (f1 : FT) (g1 : GT), P_22 f1 g1 → zn_term C Post 25 [(0, .ref (ad C.1 0)), (1, .int x1), (2, .int y0)] [] f1 g1) : zn_term C Post 4 [(0, .ref (ad C.1 0)), (1, .int x1)] [.int y0] f g := by
  obtain ⟨⟨l, dC, dI, k, a⟩, p, e, s, m, args, below, meth, c, A⟩ := C
  obtain ⟨hx, hb, hr, htz, hown, hlocks, hml, hE, hK, hA⟩ := X
  intro H locs ls hl hP hD hS
  have hl : lv_has ls 4 [(0, .ref (a 0)), (1, .int x1)] := hl
  have hP : va_P (dC, dI) classes (mw k a f g) H := hP
  have hD : va_D A (mw k a f g) := hD
  show W p l e (z_rm 3 0 0) s m args below meth c H locs 0 0 _ (F0 m 4 ls [.int y0])
  refine lv_istore_n (lv' := [(2, .int y0), (0, .ref (a 0)), (1, .int x1)]) hx hb d_Mo_term_4 rfl hl (by decide) rfl (fun ls hl => ?_)
  refine lv_iload_n hx hb d_Mo_term_5 rfl (lv_at hl 0 rfl) ?_
  refine lv_bipush (v := 113) hx hb d_Mo_term_6 (by decide) ?_
  refine lv_icmp_eq (tgt := 25) hx hb d_Mo_term_8 (by decide) (fun c_8 => ?_) (fun c_8 => ?_)
  · exact (k_25 c_8) H locs ls (lv_sub hl [1, 2, 0] rfl) hP hD hS
  · refine lv_iload_n hx hb d_Mo_term_11 rfl (lv_at hl 0 rfl) ?_
    refine lv_bipush (v := 112) hx hb d_Mo_term_12 (by decide) ?_
    refine lv_icmp_eq (tgt := 25) hx hb d_Mo_term_14 (by decide) (fun c_14 => ?_) (fun c_14 => ?_)
    · exact (k_25_1 c_8 c_14) H locs ls (lv_sub hl [1, 2, 0] rfl) hP hD hS
    · refine lv_aload_n hx hb d_Mo_term_17 rfl (lv_at hl 1 rfl) ?_
      refine lv_aload_n hx hb d_Mo_term_18 rfl (lv_at hl 1 rfl) ?_
      refine va_get (D := (dC, dI)) (ci := 4) (v := .int (f 5)) (C := R_Mo) (T := F_Mo) (N := 31) hx hb htz i_Mo hown hK hP 0 rfl rfl 18 (by decide) (htz _ kf_Mo_79) (fun _ h9 => h9) rfl d_Mo_term_19 ?_
      have hFc := va_free (wc := mw k a f g) hD hS hA [0, 1, 2, 3, 4, 5, 6, 7, 8, 9, 10, 11, 12, 13, 14, 15, 16, 17, 18] rfl
      refine va_callv (va_runV (As := [.int (f 5)]) (rest := []) ⟨hx, hb, hml, hown, htz⟩ ((m_22 c_8 c_14) H.size) (cwV 1 htz (z_gV (fun _ h => h) km_Mo_92 in_Mo_fail se_Mo_fail ini_Mo m_Mo_fail) rfl rfl rfl (by decide +kernel) ⟨(Nat.le_of_ble_eq_true rfl), (Nat.le_of_ble_eq_true rfl)⟩) ⟨z_blind, va_recv hK hP (ci := 4) (q0 := 0) rfl rfl, fun U hU hW => ⟨rfl, by rw [hU], hE.call hS hFc hU hW, by rw [hU]; exact hP, va_K.moved hW.alike hK, hD.weaken (fun _ _ _ _ => trivial)⟩⟩ rfl rfl hl.1 rfl (lv_room (Nat.le_of_ble_eq_true rfl)) d_Mo_term_22 ⟨(Nat.le_of_ble_eq_true rfl), (Nat.le_of_ble_eq_true rfl)⟩) hS (fun q _ h => hFc q h) hFc (fun u t H1 locs ht hvm hw hB hz1 hk1 hS => ?_)
      obtain ⟨hP1, hK1, hD1⟩ := hB
      rw [ht] at hP1
      exact (k_22 c_8 c_14) _ _ hw H1 locs ls (lv_sub hl [1, 2, 0] rfl) hP1 (hD1.weaken (fun _ q _ h => hFc _ h)) hS
set_option maxHeartbeats 1000000 in
set_option maxRecDepth 100000 in
theorem k_Mo_term_25 {C : CT} (X : cM C "QuestionTextModel" b_Mo_term 4 none) (Post : FT → GT → Prop) {P_58 : Int32 → FT → GT → Prop} (x1 : Int32) (x2 : Int32) (f : FT) (g : GT)
    (k_65 : (f 6 < 0) → (¬ x2 = 113) → zn_term C Post 65 [(0, .ref (ad C.1 0)), (1, .int x1), (2, .int x2)] [.int 0, .int x1, .ref (ad C.1 13)] (va_up f 5 ((f 5) + 1)) g)
    (m_58 : (f 6 < 0) → (x2 = 113) → mI C.1 y_Mo_number (Cond.code y_Mo_number b_Mo_number 4 (some .int)) 2 [.ref (ad C.1 0), .int 1, .int 60] (va_up f 5 ((f 5) + 1)) g P_58)
    (k_58 : (f 6 < 0) → (x2 = 113) → ∀ (r : Int32) (f1 : FT) (g1 : GT), P_58 r f1 g1 → zn_term C Post 61 [(0, .ref (ad C.1 0)), (1, .int x1), (2, .int x2)] [.int r, .int x1, .ref (ad C.1 13)] f1 g1)
    (q_32 : (¬ f 6 < 0) → Post f g) : zn_term C Post 25 [(0, .ref (ad C.1 0)), (1, .int x1), (2, .int x2)] [] f g := by
  obtain ⟨⟨l, dC, dI, k, a⟩, p, e, s, m, args, below, meth, c, A⟩ := C
  obtain ⟨hx, hb, hr, htz, hown, hlocks, hml, hE, hK, hA⟩ := X
  intro H locs ls hl hP hD hS
  have hl : lv_has ls 4 [(0, .ref (a 0)), (1, .int x1), (2, .int x2)] := hl
  have hP : va_P (dC, dI) classes (mw k a f g) H := hP
  have hD : va_D A (mw k a f g) := hD
  show W p l e (z_rm 3 0 0) s m args below meth c H locs 0 0 _ (F0 m 25 ls [])
  refine lv_aload_n hx hb d_Mo_term_25 rfl (lv_at hl 0 rfl) ?_
  refine va_get (D := (dC, dI)) (ci := 4) (v := .int (f 6)) (C := R_Mo) (T := F_Mo) (N := 31) hx hb htz i_Mo hown hK hP 0 rfl rfl 19 (by decide) (htz _ kf_Mo_86) (fun _ h9 => h9) rfl d_Mo_term_26 ?_
  refine lv_if_lt (tgt := 33) hx hb d_Mo_term_29 (by decide) (fun c_29 => ?_) (fun c_29 => ?_)
  · refine lv_aload_n hx hb d_Mo_term_33 rfl (lv_at hl 0 rfl) ?_
    refine lv_dup hx hb d_Mo_term_34 rfl ?_
    refine va_get (D := (dC, dI)) (ci := 4) (v := .int (f 5)) (C := R_Mo) (T := F_Mo) (N := 31) hx hb htz i_Mo hown hK hP 0 rfl rfl 18 (by decide) (htz _ kf_Mo_79) (fun _ h9 => h9) rfl d_Mo_term_35 ?_
    refine lv_iconst (v := 1) hx hb d_Mo_term_38 (by decide) ?_
    refine lv_iadd hx hb d_Mo_term_39 ?_
    refine va_put (D := (dC, dI)) (ci := 4) (v := .int ((f 5) + 1)) (ty := .int) (C := R_Mo) (T := F_Mo) (N := 31) hx hb htz i_Mo t_Mo o_Mo n_Mo hown hK hP hD hS 0 rfl rfl 18 (by decide) (htz _ kf_Mo_79) (fun _ h9 => h9) rfl (by decide +kernel) rfl rfl (Nat.le_of_ble_eq_true rfl) d_Mo_term_40 (fun H locs hP hD hS => ?_)
    replace hP := mf_5 (v := (f 5) + 1) hP
    replace hD := md_5 (v := (f 5) + 1) hD
    refine lv_aload_n hx hb d_Mo_term_43 rfl (lv_at hl 0 rfl) ?_
    refine va_get (D := (dC, dI)) (ci := 4) (v := .ref (a 13)) (C := R_Mo) (T := F_Mo) (N := 31) hx hb htz i_Mo hown hK hP 0 rfl rfl 17 (by decide) (htz _ kf_Mo_51) (fun _ h9 => h9) rfl d_Mo_term_44 ?_
    refine lv_iload_n hx hb d_Mo_term_47 rfl (lv_at hl 1 rfl) ?_
    refine lv_iload_n hx hb d_Mo_term_48 rfl (lv_at hl 2 rfl) ?_
    refine lv_bipush (v := 113) hx hb d_Mo_term_49 (by decide) ?_
    refine lv_icmp_ne (tgt := 64) hx hb d_Mo_term_51 (by decide) (fun c_51 => ?_) (fun c_51 => ?_)
    · refine lv_iconst (v := 0) hx hb d_Mo_term_64 (by decide) ?_
      exact (k_65 c_29 c_51) H locs ls (lv_sub hl [0, 1, 2] rfl) hP hD hS
    · refine lv_aload_n hx hb d_Mo_term_54 rfl (lv_at hl 0 rfl) ?_
      refine lv_iconst (v := 1) hx hb d_Mo_term_55 (by decide) ?_
      refine lv_bipush (v := 60) hx hb d_Mo_term_56 (by decide) ?_
      have hFc := va_free (wc := mw k a (va_up f 5 ((f 5) + 1)) g) hD hS hA [0, 1, 2, 3, 4, 5, 6, 7, 8, 9, 10, 11, 12, 13, 14, 15, 16, 17, 18] rfl
      refine va_calli (va_runV (As := [.int 1, .int 60]) (rest := [.int x1, .ref (a 13)]) ⟨hx, hb, hml, hown, htz⟩ ((m_58 c_29 c_51) H.size) (cwV 2 htz (z_gV (fun _ h => h) km_Mo_109 in_Mo_number se_Mo_number ini_Mo m_Mo_number) rfl rfl rfl (by decide +kernel) ⟨(Nat.le_of_ble_eq_true rfl), (Nat.le_of_ble_eq_true rfl)⟩) ⟨z_blind, va_recv hK hP (ci := 4) (q0 := 0) rfl rfl, fun U hU hW => ⟨rfl, by rw [hU], hE.call hS hFc hU hW, by rw [hU]; exact hP, va_K.moved hW.alike hK, hD.weaken (fun _ _ _ _ => trivial)⟩⟩ rfl rfl hl.1 rfl (lv_room (Nat.le_of_ble_eq_true rfl)) d_Mo_term_58 ⟨(Nat.le_of_ble_eq_true rfl), (Nat.le_of_ble_eq_true rfl)⟩) hS (fun q _ h => hFc q h) hFc (fun r u t H1 locs ht hvm hw hB hz1 hk1 hS => ?_)
      obtain ⟨hP1, hK1, hD1⟩ := hB
      rw [ht] at hP1
      exact (k_58 c_29 c_51) r _ _ hw H1 locs ls (lv_sub hl [0, 1, 2] rfl) hP1 (hD1.weaken (fun _ q _ h => hFc _ h)) hS
  · exact W.vret hx hb hr (fun t ht hW => ⟨⟨(f, g), rfl, (q_32 c_29), by rw [ht]; exact hP, va_K.moved hW.alike hK, hD⟩, hS.F ht⟩) hS.2.2 d_Mo_term_32
set_option maxHeartbeats 1000000 in
set_option maxRecDepth 100000 in
theorem k_Mo_term_61 {C : CT} (X : cM C "QuestionTextModel" b_Mo_term 4 none) (Post : FT → GT → Prop) (x1 : Int32) (x2 : Int32) (y0 : Int32) (y1 : Int32) (f : FT) (g : GT)
    (k_65 : zn_term C Post 65 [(0, .ref (ad C.1 0)), (1, .int x1), (2, .int x2)] [.int y0, .int y1, .ref (ad C.1 13)] f g) : zn_term C Post 61 [(0, .ref (ad C.1 0)), (1, .int x1), (2, .int x2)] [.int y0, .int y1, .ref (ad C.1 13)] f g := by
  obtain ⟨⟨l, dC, dI, k, a⟩, p, e, s, m, args, below, meth, c, A⟩ := C
  obtain ⟨hx, hb, hr, htz, hown, hlocks, hml, hE, hK, hA⟩ := X
  intro H locs ls hl hP hD hS
  have hl : lv_has ls 4 [(0, .ref (a 0)), (1, .int x1), (2, .int x2)] := hl
  have hP : va_P (dC, dI) classes (mw k a f g) H := hP
  have hD : va_D A (mw k a f g) := hD
  show W p l e (z_rm 3 0 0) s m args below meth c H locs 0 0 _ (F0 m 61 ls [.int y0, .int y1, .ref (a 13)])
  refine lv_goto (tgt := 65) hx hb d_Mo_term_61 (by decide) ?_
  exact k_65 H locs ls (lv_sub hl [0, 1, 2] rfl) hP hD hS
set_option maxHeartbeats 1000000 in
set_option maxRecDepth 100000 in
theorem k_Mo_term_65 {C : CT} (X : cM C "QuestionTextModel" b_Mo_term 4 none) (Post : FT → GT → Prop) {P_75 : Int32 → FT → GT → Prop} (x1 : Int32) (x2 : Int32) (y0 : Int32) (y1 : Int32) (f : FT) (g : GT)
    (h_65 : vp_in (y1) 8400)
    (m_75 : (f 6 < 0) → mI C.1 y_Mo_see (Cond.code y_Mo_see b_Mo_see 1 (some .int)) 1 [.ref (ad C.1 0)] f (va_up g 12 (upd (g 12) (y1 : Int32).toNatClampNeg y0)) P_75)
    (k_75 : (f 6 < 0) → ∀ (r : Int32) (f1 : FT) (g1 : GT), P_75 r f1 g1 → zn_term C Post 78 [(0, .ref (ad C.1 0)), (1, .int x1), (2, .int x2)] [.int r] f1 g1)
    (q_73 : (¬ f 6 < 0) → Post f (va_up g 12 (upd (g 12) (y1 : Int32).toNatClampNeg y0))) : zn_term C Post 65 [(0, .ref (ad C.1 0)), (1, .int x1), (2, .int x2)] [.int y0, .int y1, .ref (ad C.1 13)] f g := by
  obtain ⟨⟨l, dC, dI, k, a⟩, p, e, s, m, args, below, meth, c, A⟩ := C
  obtain ⟨hx, hb, hr, htz, hown, hlocks, hml, hE, hK, hA⟩ := X
  intro H locs ls hl hP hD hS
  have hl : lv_has ls 4 [(0, .ref (a 0)), (1, .int x1), (2, .int x2)] := hl
  have hP : va_P (dC, dI) classes (mw k a f g) H := hP
  have hD : va_D A (mw k a f g) := hD
  show W p l e (z_rm 3 0 0) s m args below meth c H locs 0 0 _ (F0 m 65 ls [.int y0, .int y1, .ref (a 13)])
  refine va_iast hx hb hK hP hD hS 13 0 rfl rfl h_65 d_Mo_term_65 (fun H locs hP hD hS => ?_)
  replace hP := mg_12 (c := upd (g 12) (y1 : Int32).toNatClampNeg y0) hP
  replace hD := mh_12 (c := upd (g 12) (y1 : Int32).toNatClampNeg y0) hD
  refine lv_aload_n hx hb d_Mo_term_66 rfl (lv_at hl 0 rfl) ?_
  refine va_get (D := (dC, dI)) (ci := 4) (v := .int (f 6)) (C := R_Mo) (T := F_Mo) (N := 31) hx hb htz i_Mo hown hK hP 0 rfl rfl 19 (by decide) (htz _ kf_Mo_86) (fun _ h9 => h9) rfl d_Mo_term_67 ?_
  refine lv_if_lt (tgt := 74) hx hb d_Mo_term_70 (by decide) (fun c_70 => ?_) (fun c_70 => ?_)
  · refine lv_aload_n hx hb d_Mo_term_74 rfl (lv_at hl 0 rfl) ?_
    have hFc := va_free (wc := mw k a f (va_up g 12 (upd (g 12) (y1 : Int32).toNatClampNeg y0))) hD hS hA [0, 1, 2, 3, 4, 5, 6, 7, 8, 9, 10, 11, 12, 13, 14, 15, 16, 17, 18] rfl
    refine va_calli (va_runV (As := []) (rest := []) ⟨hx, hb, hml, hown, htz⟩ ((m_75 c_70) H.size) (cwV 0 htz (z_gV (fun _ h => h) km_Mo_89 in_Mo_see se_Mo_see ini_Mo m_Mo_see) rfl rfl rfl (by decide +kernel) ⟨(Nat.le_of_ble_eq_true rfl), (Nat.le_of_ble_eq_true rfl)⟩) ⟨z_blind, va_recv hK hP (ci := 4) (q0 := 0) rfl rfl, fun U hU hW => ⟨rfl, by rw [hU], hE.call hS hFc hU hW, by rw [hU]; exact hP, va_K.moved hW.alike hK, hD.weaken (fun _ _ _ _ => trivial)⟩⟩ rfl rfl hl.1 rfl (lv_room (Nat.le_of_ble_eq_true rfl)) d_Mo_term_75 ⟨(Nat.le_of_ble_eq_true rfl), (Nat.le_of_ble_eq_true rfl)⟩) hS (fun q _ h => hFc q h) hFc (fun r u t H1 locs ht hvm hw hB hz1 hk1 hS => ?_)
    obtain ⟨hP1, hK1, hD1⟩ := hB
    rw [ht] at hP1
    exact (k_75 c_70) r _ _ hw H1 locs ls (lv_sub hl [0, 1, 2] rfl) hP1 (hD1.weaken (fun _ q _ h => hFc _ h)) hS
  · exact W.vret hx hb hr (fun t ht hW => ⟨⟨(f, va_up g 12 (upd (g 12) (y1 : Int32).toNatClampNeg y0)), rfl, (q_73 c_70), by rw [ht]; exact hP, va_K.moved hW.alike hK, hD⟩, hS.F ht⟩) hS.2.2 d_Mo_term_73
set_option maxHeartbeats 1000000 in
set_option maxRecDepth 100000 in
theorem k_Mo_term_78 {C : CT} (X : cM C "QuestionTextModel" b_Mo_term 4 none) (Post : FT → GT → Prop) (x1 : Int32) (x2 : Int32) (y0 : Int32) (f : FT) (g : GT)
    (k_111 : (y0 = 60) → zn_term C Post 111 [(0, .ref (ad C.1 0)), (1, .int x1), (2, .int x2), (3, .int y0)] [] f g)
    (k_111_1 : (¬ y0 = 60) → (y0 = 62) → zn_term C Post 111 [(0, .ref (ad C.1 0)), (1, .int x1), (2, .int x2), (3, .int y0)] [] f g)
    (k_103 : (¬ y0 = 60) → (¬ y0 = 62) → (¬ y0 = 61) → zn_term C Post 103 [(0, .ref (ad C.1 0)), (1, .int x1), (2, .int x2), (3, .int y0)] [] f g)
    (k_111_2 : (¬ y0 = 60) → (¬ y0 = 62) → (y0 = 61) → (¬ x2 = 112) → zn_term C Post 111 [(0, .ref (ad C.1 0)), (1, .int x1), (2, .int x2), (3, .int y0)] [] f g)
    (k_103_1 : (¬ y0 = 60) → (¬ y0 = 62) → (y0 = 61) → (x2 = 112) → zn_term C Post 103 [(0, .ref (ad C.1 0)), (1, .int x1), (2, .int x2), (3, .int y0)] [] f g) : zn_term C Post 78 [(0, .ref (ad C.1 0)), (1, .int x1), (2, .int x2)] [.int y0] f g := by
  obtain ⟨⟨l, dC, dI, k, a⟩, p, e, s, m, args, below, meth, c, A⟩ := C
  obtain ⟨hx, hb, hr, htz, hown, hlocks, hml, hE, hK, hA⟩ := X
  intro H locs ls hl hP hD hS
  have hl : lv_has ls 4 [(0, .ref (a 0)), (1, .int x1), (2, .int x2)] := hl
  have hP : va_P (dC, dI) classes (mw k a f g) H := hP
  have hD : va_D A (mw k a f g) := hD
  show W p l e (z_rm 3 0 0) s m args below meth c H locs 0 0 _ (F0 m 78 ls [.int y0])
  refine lv_istore_n (lv' := [(3, .int y0), (0, .ref (a 0)), (1, .int x1), (2, .int x2)]) hx hb d_Mo_term_78 rfl hl (by decide) rfl (fun ls hl => ?_)
  refine lv_iload_n hx hb d_Mo_term_79 rfl (lv_at hl 0 rfl) ?_
  refine lv_bipush (v := 60) hx hb d_Mo_term_80 (by decide) ?_
  refine lv_icmp_eq (tgt := 111) hx hb d_Mo_term_82 (by decide) (fun c_82 => ?_) (fun c_82 => ?_)
  · exact (k_111 c_82) H locs ls (lv_sub hl [1, 2, 3, 0] rfl) hP hD hS
  · refine lv_iload_n hx hb d_Mo_term_85 rfl (lv_at hl 0 rfl) ?_
    refine lv_bipush (v := 62) hx hb d_Mo_term_86 (by decide) ?_
    refine lv_icmp_eq (tgt := 111) hx hb d_Mo_term_88 (by decide) (fun c_88 => ?_) (fun c_88 => ?_)
    · exact (k_111_1 c_82 c_88) H locs ls (lv_sub hl [1, 2, 3, 0] rfl) hP hD hS
    · refine lv_iload_n hx hb d_Mo_term_91 rfl (lv_at hl 0 rfl) ?_
      refine lv_bipush (v := 61) hx hb d_Mo_term_92 (by decide) ?_
      refine lv_icmp_ne (tgt := 103) hx hb d_Mo_term_94 (by decide) (fun c_94 => ?_) (fun c_94 => ?_)
      · exact (k_103 c_82 c_88 c_94) H locs ls (lv_sub hl [1, 2, 3, 0] rfl) hP hD hS
      · refine lv_iload_n hx hb d_Mo_term_97 rfl (lv_at hl 3 rfl) ?_
        refine lv_bipush (v := 112) hx hb d_Mo_term_98 (by decide) ?_
        refine lv_icmp_ne (tgt := 111) hx hb d_Mo_term_100 (by decide) (fun c_100 => ?_) (fun c_100 => ?_)
        · exact (k_111_2 c_82 c_88 c_94 c_100) H locs ls (lv_sub hl [1, 2, 3, 0] rfl) hP hD hS
        · exact (k_103_1 c_82 c_88 c_94 c_100) H locs ls (lv_sub hl [1, 2, 3, 0] rfl) hP hD hS
set_option maxHeartbeats 1000000 in
set_option maxRecDepth 100000 in
theorem k_Mo_term_103 {C : CT} (X : cM C "QuestionTextModel" b_Mo_term 4 none) (Post : FT → GT → Prop) {P_108 : FT → GT → Prop} (x1 : Int32) (x2 : Int32) (x3 : Int32) (f : FT) (g : GT)
    (m_108 : mV C.1 y_Mo_fail (Cond.code y_Mo_fail b_Mo_fail 2 none) 0 [.ref (ad C.1 0), .int (f 5)] f g P_108)
    (k_108 : ∀ (f1 : FT) (g1 : GT), P_108 f1 g1 → zn_term C Post 111 [(0, .ref (ad C.1 0)), (1, .int x1), (2, .int x2), (3, .int x3)] [] f1 g1) : zn_term C Post 103 [(0, .ref (ad C.1 0)), (1, .int x1), (2, .int x2), (3, .int x3)] [] f g := by
  obtain ⟨⟨l, dC, dI, k, a⟩, p, e, s, m, args, below, meth, c, A⟩ := C
  obtain ⟨hx, hb, hr, htz, hown, hlocks, hml, hE, hK, hA⟩ := X
  intro H locs ls hl hP hD hS
  have hl : lv_has ls 4 [(0, .ref (a 0)), (1, .int x1), (2, .int x2), (3, .int x3)] := hl
  have hP : va_P (dC, dI) classes (mw k a f g) H := hP
  have hD : va_D A (mw k a f g) := hD
  show W p l e (z_rm 3 0 0) s m args below meth c H locs 0 0 _ (F0 m 103 ls [])
  refine lv_aload_n hx hb d_Mo_term_103 rfl (lv_at hl 0 rfl) ?_
  refine lv_aload_n hx hb d_Mo_term_104 rfl (lv_at hl 0 rfl) ?_
  refine va_get (D := (dC, dI)) (ci := 4) (v := .int (f 5)) (C := R_Mo) (T := F_Mo) (N := 31) hx hb htz i_Mo hown hK hP 0 rfl rfl 18 (by decide) (htz _ kf_Mo_79) (fun _ h9 => h9) rfl d_Mo_term_105 ?_
  have hFc := va_free (wc := mw k a f g) hD hS hA [0, 1, 2, 3, 4, 5, 6, 7, 8, 9, 10, 11, 12, 13, 14, 15, 16, 17, 18] rfl
  refine va_callv (va_runV (As := [.int (f 5)]) (rest := []) ⟨hx, hb, hml, hown, htz⟩ (m_108 H.size) (cwV 1 htz (z_gV (fun _ h => h) km_Mo_92 in_Mo_fail se_Mo_fail ini_Mo m_Mo_fail) rfl rfl rfl (by decide +kernel) ⟨(Nat.le_of_ble_eq_true rfl), (Nat.le_of_ble_eq_true rfl)⟩) ⟨z_blind, va_recv hK hP (ci := 4) (q0 := 0) rfl rfl, fun U hU hW => ⟨rfl, by rw [hU], hE.call hS hFc hU hW, by rw [hU]; exact hP, va_K.moved hW.alike hK, hD.weaken (fun _ _ _ _ => trivial)⟩⟩ rfl rfl hl.1 rfl (lv_room (Nat.le_of_ble_eq_true rfl)) d_Mo_term_108 ⟨(Nat.le_of_ble_eq_true rfl), (Nat.le_of_ble_eq_true rfl)⟩) hS (fun q _ h => hFc q h) hFc (fun u t H1 locs ht hvm hw hB hz1 hk1 hS => ?_)
  obtain ⟨hP1, hK1, hD1⟩ := hB
  rw [ht] at hP1
  exact k_108 _ _ hw H1 locs ls (lv_sub hl [0, 1, 2, 3] rfl) hP1 (hD1.weaken (fun _ q _ h => hFc _ h)) hS
set_option maxHeartbeats 1000000 in
set_option maxRecDepth 100000 in
theorem k_Mo_term_111 {C : CT} (X : cM C "QuestionTextModel" b_Mo_term 4 none) (Post : FT → GT → Prop) {P_150 : Int32 → FT → GT → Prop} (x1 : Int32) (x2 : Int32) (x3 : Int32) (f : FT) (g : GT)
    (h_137 : (f 6 < 0) → vp_in (x1 + 1) 8400)
    (m_150 : (f 6 < 0) → mI C.1 y_Mo_number (Cond.code y_Mo_number b_Mo_number 4 (some .int)) 2 [.ref (ad C.1 0), .int 0, .int 9999] (va_up f 5 ((f 5) + 1)) (va_up g 12 (upd (g 12) (x1 + 1 : Int32).toNatClampNeg x3)) P_150)
    (k_150 : (f 6 < 0) → ∀ (r : Int32) (f1 : FT) (g1 : GT), P_150 r f1 g1 → zn_term C Post 153 [(0, .ref (ad C.1 0)), (1, .int x1), (2, .int x2), (3, .int x3)] [.int r, .int (x1 + 2), .ref (ad C.1 13)] f1 g1)
    (q_118 : (¬ f 6 < 0) → Post f g) : zn_term C Post 111 [(0, .ref (ad C.1 0)), (1, .int x1), (2, .int x2), (3, .int x3)] [] f g := by
  obtain ⟨⟨l, dC, dI, k, a⟩, p, e, s, m, args, below, meth, c, A⟩ := C
  obtain ⟨hx, hb, hr, htz, hown, hlocks, hml, hE, hK, hA⟩ := X
  intro H locs ls hl hP hD hS
  have hl : lv_has ls 4 [(0, .ref (a 0)), (1, .int x1), (2, .int x2), (3, .int x3)] := hl
  have hP : va_P (dC, dI) classes (mw k a f g) H := hP
  have hD : va_D A (mw k a f g) := hD
  show W p l e (z_rm 3 0 0) s m args below meth c H locs 0 0 _ (F0 m 111 ls [])
  refine lv_aload_n hx hb d_Mo_term_111 rfl (lv_at hl 0 rfl) ?_
  refine va_get (D := (dC, dI)) (ci := 4) (v := .int (f 6)) (C := R_Mo) (T := F_Mo) (N := 31) hx hb htz i_Mo hown hK hP 0 rfl rfl 19 (by decide) (htz _ kf_Mo_86) (fun _ h9 => h9) rfl d_Mo_term_112 ?_
  refine lv_if_lt (tgt := 119) hx hb d_Mo_term_115 (by decide) (fun c_115 => ?_) (fun c_115 => ?_)
  · refine lv_aload_n hx hb d_Mo_term_119 rfl (lv_at hl 0 rfl) ?_
    refine lv_dup hx hb d_Mo_term_120 rfl ?_
    refine va_get (D := (dC, dI)) (ci := 4) (v := .int (f 5)) (C := R_Mo) (T := F_Mo) (N := 31) hx hb htz i_Mo hown hK hP 0 rfl rfl 18 (by decide) (htz _ kf_Mo_79) (fun _ h9 => h9) rfl d_Mo_term_121 ?_
    refine lv_iconst (v := 1) hx hb d_Mo_term_124 (by decide) ?_
    refine lv_iadd hx hb d_Mo_term_125 ?_
    refine va_put (D := (dC, dI)) (ci := 4) (v := .int ((f 5) + 1)) (ty := .int) (C := R_Mo) (T := F_Mo) (N := 31) hx hb htz i_Mo t_Mo o_Mo n_Mo hown hK hP hD hS 0 rfl rfl 18 (by decide) (htz _ kf_Mo_79) (fun _ h9 => h9) rfl (by decide +kernel) rfl rfl (Nat.le_of_ble_eq_true rfl) d_Mo_term_126 (fun H locs hP hD hS => ?_)
    replace hP := mf_5 (v := (f 5) + 1) hP
    replace hD := md_5 (v := (f 5) + 1) hD
    refine lv_aload_n hx hb d_Mo_term_129 rfl (lv_at hl 0 rfl) ?_
    refine va_get (D := (dC, dI)) (ci := 4) (v := .ref (a 13)) (C := R_Mo) (T := F_Mo) (N := 31) hx hb htz i_Mo hown hK hP 0 rfl rfl 17 (by decide) (htz _ kf_Mo_51) (fun _ h9 => h9) rfl d_Mo_term_130 ?_
    refine lv_iload_n hx hb d_Mo_term_133 rfl (lv_at hl 1 rfl) ?_
    refine lv_iconst (v := 1) hx hb d_Mo_term_134 (by decide) ?_
    refine lv_iadd hx hb d_Mo_term_135 ?_
    refine lv_iload_n hx hb d_Mo_term_136 rfl (lv_at hl 3 rfl) ?_
    refine va_iast hx hb hK hP hD hS 13 0 rfl rfl (h_137 c_115) d_Mo_term_137 (fun H locs hP hD hS => ?_)
    replace hP := mg_12 (c := upd (g 12) (x1 + 1 : Int32).toNatClampNeg x3) hP
    replace hD := mh_12 (c := upd (g 12) (x1 + 1 : Int32).toNatClampNeg x3) hD
    refine lv_aload_n hx hb d_Mo_term_138 rfl (lv_at hl 0 rfl) ?_
    refine va_get (D := (dC, dI)) (ci := 4) (v := .ref (a 13)) (C := R_Mo) (T := F_Mo) (N := 31) hx hb htz i_Mo hown hK hP 0 rfl rfl 17 (by decide) (htz _ kf_Mo_51) (fun _ h9 => h9) rfl d_Mo_term_139 ?_
    refine lv_iload_n hx hb d_Mo_term_142 rfl (lv_at hl 1 rfl) ?_
    refine lv_iconst (v := 2) hx hb d_Mo_term_143 (by decide) ?_
    refine lv_iadd hx hb d_Mo_term_144 ?_
    refine lv_aload_n hx hb d_Mo_term_145 rfl (lv_at hl 0 rfl) ?_
    refine lv_iconst (v := 0) hx hb d_Mo_term_146 (by decide) ?_
    refine lv_sipush (v := 9999) hx hb d_Mo_term_147 (by decide) ?_
    have hFc := va_free (wc := mw k a (va_up f 5 ((f 5) + 1)) (va_up g 12 (upd (g 12) (x1 + 1 : Int32).toNatClampNeg x3))) hD hS hA [0, 1, 2, 3, 4, 5, 6, 7, 8, 9, 10, 11, 12, 13, 14, 15, 16, 17, 18] rfl
    refine va_calli (va_runV (As := [.int 0, .int 9999]) (rest := [.int (x1 + 2), .ref (a 13)]) ⟨hx, hb, hml, hown, htz⟩ ((m_150 c_115) H.size) (cwV 2 htz (z_gV (fun _ h => h) km_Mo_109 in_Mo_number se_Mo_number ini_Mo m_Mo_number) rfl rfl rfl (by decide +kernel) ⟨(Nat.le_of_ble_eq_true rfl), (Nat.le_of_ble_eq_true rfl)⟩) ⟨z_blind, va_recv hK hP (ci := 4) (q0 := 0) rfl rfl, fun U hU hW => ⟨rfl, by rw [hU], hE.call hS hFc hU hW, by rw [hU]; exact hP, va_K.moved hW.alike hK, hD.weaken (fun _ _ _ _ => trivial)⟩⟩ rfl rfl hl.1 rfl (lv_room (Nat.le_of_ble_eq_true rfl)) d_Mo_term_150 ⟨(Nat.le_of_ble_eq_true rfl), (Nat.le_of_ble_eq_true rfl)⟩) hS (fun q _ h => hFc q h) hFc (fun r u t H1 locs ht hvm hw hB hz1 hk1 hS => ?_)
    obtain ⟨hP1, hK1, hD1⟩ := hB
    rw [ht] at hP1
    exact (k_150 c_115) r _ _ hw H1 locs ls (lv_sub hl [0, 1, 2, 3] rfl) hP1 (hD1.weaken (fun _ q _ h => hFc _ h)) hS
  · exact W.vret hx hb hr (fun t ht hW => ⟨⟨(f, g), rfl, (q_118 c_115), by rw [ht]; exact hP, va_K.moved hW.alike hK, hD⟩, hS.F ht⟩) hS.2.2 d_Mo_term_118
set_option maxHeartbeats 1000000 in
set_option maxRecDepth 100000 in
theorem k_Mo_term_153 {C : CT} (X : cM C "QuestionTextModel" b_Mo_term 4 none) (Post : FT → GT → Prop) (x1 : Int32) (x2 : Int32) (x3 : Int32) (y0 : Int32) (y1 : Int32) (f : FT) (g : GT)
    (h_153 : vp_in (y1) 8400)
    (q_154 : Post f (va_up g 12 (upd (g 12) (y1 : Int32).toNatClampNeg y0))) : zn_term C Post 153 [(0, .ref (ad C.1 0)), (1, .int x1), (2, .int x2), (3, .int x3)] [.int y0, .int y1, .ref (ad C.1 13)] f g := by
  obtain ⟨⟨l, dC, dI, k, a⟩, p, e, s, m, args, below, meth, c, A⟩ := C
  obtain ⟨hx, hb, hr, htz, hown, hlocks, hml, hE, hK, hA⟩ := X
  intro H locs ls hl hP hD hS
  have hl : lv_has ls 4 [(0, .ref (a 0)), (1, .int x1), (2, .int x2), (3, .int x3)] := hl
  have hP : va_P (dC, dI) classes (mw k a f g) H := hP
  have hD : va_D A (mw k a f g) := hD
  show W p l e (z_rm 3 0 0) s m args below meth c H locs 0 0 _ (F0 m 153 ls [.int y0, .int y1, .ref (a 13)])
  refine va_iast hx hb hK hP hD hS 13 0 rfl rfl h_153 d_Mo_term_153 (fun H locs hP hD hS => ?_)
  replace hP := mg_12 (c := upd (g 12) (y1 : Int32).toNatClampNeg y0) hP
  replace hD := mh_12 (c := upd (g 12) (y1 : Int32).toNatClampNeg y0) hD
  exact W.vret hx hb hr (fun t ht hW => ⟨⟨(f, va_up g 12 (upd (g 12) (y1 : Int32).toNatClampNeg y0)), rfl, q_154, by rw [ht]; exact hP, va_K.moved hW.alike hK, hD⟩, hS.F ht⟩) hS.2.2 d_Mo_term_154
set_option maxHeartbeats 1000000 in
set_option maxRecDepth 100000 in
theorem e_Mo_term (T : ST) (Post : FT → GT → Prop) (x1 : Int32) (f : FT) (g : GT) (h : ∀ C : CT, C.1 = T → cM C "QuestionTextModel" b_Mo_term 4 none → zn_term C Post 0 [(0, .ref (ad C.1 0)), (1, .int x1)] [] f g) : mV T y_Mo_term (Cond.code y_Mo_term b_Mo_term 4 none) 3 [.ref (ad T 0), .int x1] f g Post := by
  obtain ⟨l, dC, dI, k, a⟩ := T
  intro sz
  refine Met.ofW (cc := b_Mo_term) (maxL := 4) (ret := none) (by decide) rfl ?_
  intro p e s m args below meth c s₁ B hml hv
  obtain ⟨rfl, hsz, hE, hP, hK, hD0⟩ := hv
  have hts := atoms_spec (ws := (Cond.code y_Mo_term b_Mo_term 4 none) :: z_T) B.pre
  have htz : ∀ w ∈ z_T, w.before _ s = true := fun w h => hts w (z_cons w h)
  subst hsz
  have hD := hD0.self (sz := s.heap.size)
  generalize hAe : va_A (mw k a f g) s.heap.size = A at hD hE ⊢
  have hA : ∀ q : Nat, s.heap.size ≤ q → A q := fun q h => by rw [← hAe]; exact Or.inr h
  have hl := lv_entry ([.ref (a 0), .int x1]) (n := 4) (Nat.le_of_ble_eq_true rfl)
  rw [lg_entry_eq]
  generalize (lg_sl ([.ref (a 0), .int x1]) ++ List.replicate (4 - (lg_sl ([.ref (a 0), .int x1])).length) Slot.unset).toArray = ls at hl ⊢
  exact h ((l, dC, dI, k, a), p, e, s, m, ([.ref (a 0), .int x1] : List Value).toArray, below, meth, c, A) rfl ⟨B.exec, B.bytes, B.returns, htz, findClass_of_methodNamed B.named, B.notSynchronized, hml, hE, hK, hA⟩ s.heap [] ls hl hP hD va_S.rf
def zn_sign (C : CT) (Post : Int32 → FT → GT → Prop) (pc : Nat) (loc : List (Nat × Value)) (st : List Value) (f : FT) (g : GT) : Prop := zW C (z_rm 1 0 0) 5 (qI C Post) 0 0 pc loc st (mM C.1 f g)
set_option maxHeartbeats 1000000 in
set_option maxRecDepth 100000 in
theorem k_Mo_sign_0 {C : CT} (X : cM C "QuestionTextModel" b_Mo_sign 5 (some .int)) (Post : Int32 → FT → GT → Prop) {P_5 : Int32 → FT → GT → Prop} (x1 : Int64) (x3 : Int32) (f : FT) (g : GT)
    (m_5 : mI C.1 y_Mo_in (Cond.code y_Mo_in b_Mo_in 3 (some .boolean)) 0 [.int x3, .int 1, .int 8] f g P_5)
    (k_5 : ∀ (r : Int32) (f1 : FT) (g1 : GT), P_5 r f1 g1 → zn_sign C Post 8 [(0, .ref (ad C.1 0)), (1, .long x1), (3, .int x3)] [.int r, .ref (ad C.1 0)] f1 g1) : zn_sign C Post 0 [(0, .ref (ad C.1 0)), (1, .long x1), (3, .int x3)] [] f g := by
  obtain ⟨⟨l, dC, dI, k, a⟩, p, e, s, m, args, below, meth, c, A⟩ := C
  obtain ⟨hx, hb, hr, htz, hown, hlocks, hml, hE, hK, hA⟩ := X
  intro H locs ls hl hP hD hS
  have hl : lv_has ls 5 [(0, .ref (a 0)), (1, .long x1), (3, .int x3)] := hl
  have hP : va_P (dC, dI) classes (mw k a f g) H := hP
  have hD : va_D A (mw k a f g) := hD
  show W p l e (z_rm 1 0 0) s m args below meth c H locs 0 0 _ (F0 m 0 ls [])
  refine lv_aload_n hx hb d_Mo_sign_0 rfl (lv_at hl 0 rfl) ?_
  refine lv_iload_n hx hb d_Mo_sign_1 rfl (lv_at hl 2 rfl) ?_
  refine lv_iconst (v := 1) hx hb d_Mo_sign_2 (by decide) ?_
  refine lv_bipush (v := 8) hx hb d_Mo_sign_3 (by decide) ?_
  have hFc := va_free (wc := mw k a f g) hD hS hA [0, 1, 2, 3, 4, 5, 6, 7, 8, 9, 10, 11, 12, 13, 14, 15, 16, 17, 18] rfl
  refine va_calli (va_runS (As := [.int x3, .int 1, .int 8]) (rest := [.ref (a 0)]) ⟨hx, hb, hml, hown, htz⟩ (m_5 H.size) (va_cwS 3 htz (z_gS (fun _ h => h) km_Mo_72 st_Mo_in ini_Mo m_Mo_in) rfl rfl rfl (by decide +kernel) ⟨(Nat.le_of_ble_eq_true rfl), (Nat.le_of_ble_eq_true rfl)⟩) ⟨z_blind, fun U hU hW => ⟨rfl, by rw [hU], hE.call hS hFc hU hW, by rw [hU]; exact hP, va_K.moved hW.alike hK, hD.weaken (fun _ _ _ _ => trivial)⟩⟩ rfl rfl hl.1 rfl (lv_room (Nat.le_of_ble_eq_true rfl)) d_Mo_sign_5 ⟨(Nat.le_of_ble_eq_true rfl), (Nat.le_of_ble_eq_true rfl)⟩) hS (fun q _ h => hFc q h) hFc (fun r u t H1 locs ht hvm hw hB hz1 hk1 hS => ?_)
  obtain ⟨hP1, hK1, hD1⟩ := hB
  rw [ht] at hP1
  exact k_5 r _ _ hw H1 locs ls (lv_sub hl [0, 1, 2] rfl) hP1 (hD1.weaken (fun _ q _ h => hFc _ h)) hS
set_option maxHeartbeats 1000000 in
set_option maxRecDepth 100000 in
theorem k_Mo_sign_8 {C : CT} (X : cM C "QuestionTextModel" b_Mo_sign 5 (some .int)) (Post : Int32 → FT → GT → Prop) (x1 : Int64) (x3 : Int32) (y0 : Int32) (f : FT) (g : GT)
    (k_32 : (¬ y0 = 0) → ((f 1) + x3 ≤ 400) → zn_sign C Post 32 [(0, .ref (ad C.1 0)), (1, .long x1), (3, .int x3)] [.int 0, .ref (ad C.1 0)] f g)
    (k_32_1 : (¬ y0 = 0) → (¬ (f 1) + x3 ≤ 400) → zn_sign C Post 32 [(0, .ref (ad C.1 0)), (1, .long x1), (3, .int x3)] [.int 2, .ref (ad C.1 0)] f g)
    (k_32_2 : (y0 = 0) → zn_sign C Post 32 [(0, .ref (ad C.1 0)), (1, .long x1), (3, .int x3)] [.int 1, .ref (ad C.1 0)] f g) : zn_sign C Post 8 [(0, .ref (ad C.1 0)), (1, .long x1), (3, .int x3)] [.int y0, .ref (ad C.1 0)] f g := by
  obtain ⟨⟨l, dC, dI, k, a⟩, p, e, s, m, args, below, meth, c, A⟩ := C
  obtain ⟨hx, hb, hr, htz, hown, hlocks, hml, hE, hK, hA⟩ := X
  intro H locs ls hl hP hD hS
  have hl : lv_has ls 5 [(0, .ref (a 0)), (1, .long x1), (3, .int x3)] := hl
  have hP : va_P (dC, dI) classes (mw k a f g) H := hP
  have hD : va_D A (mw k a f g) := hD
  show W p l e (z_rm 1 0 0) s m args below meth c H locs 0 0 _ (F0 m 8 ls [.int y0, .ref (a 0)])
  refine lv_if_ne (tgt := 15) hx hb d_Mo_sign_8 (by decide) (fun c_8 => ?_) (fun c_8 => ?_)
  · refine lv_aload_n hx hb d_Mo_sign_15 rfl (lv_at hl 0 rfl) ?_
    refine va_get (D := (dC, dI)) (ci := 4) (v := .int (f 1)) (C := R_Mo) (T := F_Mo) (N := 31) hx hb htz i_Mo hown hK hP 0 rfl rfl 1 (by decide) (htz _ kf_Mo_76) (fun _ h9 => h9) rfl d_Mo_sign_16 ?_
    refine lv_iload_n hx hb d_Mo_sign_19 rfl (lv_at hl 2 rfl) ?_
    refine lv_iadd hx hb d_Mo_sign_20 ?_
    refine lv_sipush (v := 400) hx hb d_Mo_sign_21 (by decide) ?_
    refine lv_icmp_le (tgt := 31) hx hb d_Mo_sign_24 (by decide) (fun c_24 => ?_) (fun c_24 => ?_)
    · refine lv_iconst (v := 0) hx hb d_Mo_sign_31 (by decide) ?_
      exact (k_32 c_8 c_24) H locs ls (lv_sub hl [0, 1, 2] rfl) hP hD hS
    · refine lv_iconst (v := 2) hx hb d_Mo_sign_27 (by decide) ?_
      refine lv_goto (tgt := 32) hx hb d_Mo_sign_28 (by decide) ?_
      exact (k_32_1 c_8 c_24) H locs ls (lv_sub hl [0, 1, 2] rfl) hP hD hS
  · refine lv_iconst (v := 1) hx hb d_Mo_sign_11 (by decide) ?_
    refine lv_goto (tgt := 32) hx hb d_Mo_sign_12 (by decide) ?_
    exact (k_32_2 c_8) H locs ls (lv_sub hl [0, 1, 2] rfl) hP hD hS
set_option maxHeartbeats 1000000 in
set_option maxRecDepth 100000 in
theorem k_Mo_sign_32 {C : CT} (X : cM C "QuestionTextModel" b_Mo_sign 5 (some .int)) (Post : Int32 → FT → GT → Prop) (x1 : Int64) (x3 : Int32) (y0 : Int32) (f : FT) (g : GT)
    (k_49 : (y0 ≤ 0) → zn_sign C Post 49 [(0, .ref (ad C.1 0)), (1, .long x1), (3, .int x3), (4, .int (x3 - 1))] [] (va_up f 0 y0) g)
    (q_43 : (¬ y0 ≤ 0) → Post (0) (va_up f 0 y0) g) : zn_sign C Post 32 [(0, .ref (ad C.1 0)), (1, .long x1), (3, .int x3)] [.int y0, .ref (ad C.1 0)] f g := by
  obtain ⟨⟨l, dC, dI, k, a⟩, p, e, s, m, args, below, meth, c, A⟩ := C
  obtain ⟨hx, hb, hr, htz, hown, hlocks, hml, hE, hK, hA⟩ := X
  intro H locs ls hl hP hD hS
  have hl : lv_has ls 5 [(0, .ref (a 0)), (1, .long x1), (3, .int x3)] := hl
  have hP : va_P (dC, dI) classes (mw k a f g) H := hP
  have hD : va_D A (mw k a f g) := hD
  show W p l e (z_rm 1 0 0) s m args below meth c H locs 0 0 _ (F0 m 32 ls [.int y0, .ref (a 0)])
  refine va_put (D := (dC, dI)) (ci := 4) (v := .int y0) (ty := .int) (C := R_Mo) (T := F_Mo) (N := 31) hx hb htz i_Mo t_Mo o_Mo n_Mo hown hK hP hD hS 0 rfl rfl 0 (by decide) (htz _ kf_Mo_69) (fun _ h9 => h9) rfl (by decide +kernel) rfl rfl (Nat.le_of_ble_eq_true rfl) d_Mo_sign_32 (fun H locs hP hD hS => ?_)
  replace hP := mf_0 (v := y0) hP
  replace hD := md_0 (v := y0) hD
  refine lv_aload_n hx hb d_Mo_sign_35 rfl (lv_at hl 0 rfl) ?_
  refine va_get (D := (dC, dI)) (ci := 4) (v := .int y0) (C := R_Mo) (T := F_Mo) (N := 31) hx hb htz i_Mo hown hK hP 0 rfl rfl 0 (by decide) (htz _ kf_Mo_69) (fun _ h9 => h9) rfl d_Mo_sign_36 ?_
  refine lv_if_le (tgt := 44) hx hb d_Mo_sign_39 (by decide) (fun c_39 => ?_) (fun c_39 => ?_)
  · refine lv_iload_n hx hb d_Mo_sign_44 rfl (lv_at hl 2 rfl) ?_
    refine lv_iconst (v := 1) hx hb d_Mo_sign_45 (by decide) ?_
    refine lv_isub hx hb d_Mo_sign_46 ?_
    refine lv_istore (lv' := [(4, .int (x3 - 1)), (0, .ref (a 0)), (1, .long x1), (3, .int x3)]) hx hb d_Mo_sign_47 hl (by decide) rfl (fun ls hl => ?_)
    exact (k_49 c_39) H locs ls (lv_sub hl [1, 2, 3, 0] rfl) hP hD hS
  · refine lv_iconst (v := 0) hx hb d_Mo_sign_42 (by decide) ?_
    exact W.iret (v := 0) hx hb hr (fun t ht hW => ⟨⟨_, (va_up f 0 y0, g), rfl, (q_43 c_39), by rw [ht]; exact hP, va_K.moved hW.alike hK, hD⟩, hS.F ht⟩) hS.2.2 d_Mo_sign_43
set_option maxHeartbeats 1000000 in
set_option maxRecDepth 100000 in
theorem k_Mo_sign_49 {C : CT} (X : cM C "QuestionTextModel" b_Mo_sign 5 (some .int)) (Post : Int32 → FT → GT → Prop) (x1 : Int64) (x3 : Int32) (x4 : Int32) (f : FT) (g : GT)
    (q_95 : (x4 < 0) → Post (f 1) f g)
    (h_74 : (¬ x4 < 0) → vp_in (f 1) 400)
    (k_49 : (¬ x4 < 0) → zn_sign C Post 49 [(0, .ref (ad C.1 0)), (1, .long x1), (3, .int x3), (4, .int (x4 + (-1)))] [] (va_up f 1 ((f 1) + 1)) (va_up g 0 (upd (g 0) (f 1 : Int32).toNatClampNeg (((x1 >>> ((8 * x4).toInt64 &&& 63)).toInt32) &&& 255)))) : zn_sign C Post 49 [(0, .ref (ad C.1 0)), (1, .long x1), (3, .int x3), (4, .int x4)] [] f g := by
  obtain ⟨⟨l, dC, dI, k, a⟩, p, e, s, m, args, below, meth, c, A⟩ := C
  obtain ⟨hx, hb, hr, htz, hown, hlocks, hml, hE, hK, hA⟩ := X
  intro H locs ls hl hP hD hS
  have hl : lv_has ls 5 [(0, .ref (a 0)), (1, .long x1), (3, .int x3), (4, .int x4)] := hl
  have hP : va_P (dC, dI) classes (mw k a f g) H := hP
  have hD : va_D A (mw k a f g) := hD
  show W p l e (z_rm 1 0 0) s m args below meth c H locs 0 0 _ (F0 m 49 ls [])
  refine lv_iload hx hb d_Mo_sign_49 (lv_at hl 3 rfl) ?_
  refine lv_if_lt (tgt := 91) hx hb d_Mo_sign_51 (by decide) (fun c_51 => ?_) (fun c_51 => ?_)
  · refine lv_aload_n hx hb d_Mo_sign_91 rfl (lv_at hl 0 rfl) ?_
    refine va_get (D := (dC, dI)) (ci := 4) (v := .int (f 1)) (C := R_Mo) (T := F_Mo) (N := 31) hx hb htz i_Mo hown hK hP 0 rfl rfl 1 (by decide) (htz _ kf_Mo_76) (fun _ h9 => h9) rfl d_Mo_sign_92 ?_
    exact W.iret (v := f 1) hx hb hr (fun t ht hW => ⟨⟨_, (f, g), rfl, (q_95 c_51), by rw [ht]; exact hP, va_K.moved hW.alike hK, hD⟩, hS.F ht⟩) hS.2.2 d_Mo_sign_95
  · refine lv_aload_n hx hb d_Mo_sign_54 rfl (lv_at hl 0 rfl) ?_
    refine va_get (D := (dC, dI)) (ci := 4) (v := .ref (a 1)) (C := R_Mo) (T := F_Mo) (N := 31) hx hb htz i_Mo hown hK hP 0 rfl rfl 2 (by decide) (htz _ kf_Mo_7) (fun _ h9 => h9) rfl d_Mo_sign_55 ?_
    refine lv_aload_n hx hb d_Mo_sign_58 rfl (lv_at hl 0 rfl) ?_
    refine va_get (D := (dC, dI)) (ci := 4) (v := .int (f 1)) (C := R_Mo) (T := F_Mo) (N := 31) hx hb htz i_Mo hown hK hP 0 rfl rfl 1 (by decide) (htz _ kf_Mo_76) (fun _ h9 => h9) rfl d_Mo_sign_59 ?_
    refine lv_lload_n hx hb d_Mo_sign_62 rfl (lv_at hl 1 rfl) ?_
    refine lv_bipush (v := 8) hx hb d_Mo_sign_63 (by decide) ?_
    refine lv_iload hx hb d_Mo_sign_65 (lv_at hl 3 rfl) ?_
    refine lv_imul hx hb d_Mo_sign_67 ?_
    refine lv_lshr (v := x1 >>> ((8 * x4).toInt64 &&& 63)) hx hb d_Mo_sign_68 rfl ?_
    refine lv_l2i (v := (x1 >>> ((8 * x4).toInt64 &&& 63)).toInt32) hx hb d_Mo_sign_69 rfl ?_
    refine lv_sipush (v := 255) hx hb d_Mo_sign_70 (by decide) ?_
    refine lv_iand hx hb d_Mo_sign_73 ?_
    refine va_iast hx hb hK hP hD hS 1 0 rfl rfl (h_74 c_51) d_Mo_sign_74 (fun H locs hP hD hS => ?_)
    replace hP := mg_0 (c := upd (g 0) (f 1 : Int32).toNatClampNeg (((x1 >>> ((8 * x4).toInt64 &&& 63)).toInt32) &&& 255)) hP
    replace hD := mh_0 (c := upd (g 0) (f 1 : Int32).toNatClampNeg (((x1 >>> ((8 * x4).toInt64 &&& 63)).toInt32) &&& 255)) hD
    refine lv_aload_n hx hb d_Mo_sign_75 rfl (lv_at hl 0 rfl) ?_
    refine lv_dup hx hb d_Mo_sign_76 rfl ?_
    refine va_get (D := (dC, dI)) (ci := 4) (v := .int (f 1)) (C := R_Mo) (T := F_Mo) (N := 31) hx hb htz i_Mo hown hK hP 0 rfl rfl 1 (by decide) (htz _ kf_Mo_76) (fun _ h9 => h9) rfl d_Mo_sign_77 ?_
    refine lv_iconst (v := 1) hx hb d_Mo_sign_80 (by decide) ?_
    refine lv_iadd hx hb d_Mo_sign_81 ?_
    refine va_put (D := (dC, dI)) (ci := 4) (v := .int ((f 1) + 1)) (ty := .int) (C := R_Mo) (T := F_Mo) (N := 31) hx hb htz i_Mo t_Mo o_Mo n_Mo hown hK hP hD hS 0 rfl rfl 1 (by decide) (htz _ kf_Mo_76) (fun _ h9 => h9) rfl (by decide +kernel) rfl rfl (Nat.le_of_ble_eq_true rfl) d_Mo_sign_82 (fun H locs hP hD hS => ?_)
    replace hP := mf_1 (v := (f 1) + 1) hP
    replace hD := md_1 (v := (f 1) + 1) hD
    refine lv_iinc (v := x4 + (-1)) (lv' := [(4, .int (x4 + (-1))), (0, .ref (a 0)), (1, .long x1), (3, .int x3)]) hx hb d_Mo_sign_85 hl (k := 3) rfl (rfl) (by decide) rfl (fun ls hl => ?_)
    refine lv_goto (tgt := 49) hx hb d_Mo_sign_88 (by decide) ?_
    exact (k_49 c_51) H locs ls (lv_sub hl [1, 2, 3, 0] rfl) hP hD hS
set_option maxHeartbeats 1000000 in
set_option maxRecDepth 100000 in
theorem e_Mo_sign (T : ST) (Post : Int32 → FT → GT → Prop) (x1 : Int64) (x3 : Int32) (f : FT) (g : GT) (h : ∀ C : CT, C.1 = T → cM C "QuestionTextModel" b_Mo_sign 5 (some .int) → zn_sign C Post 0 [(0, .ref (ad C.1 0)), (1, .long x1), (3, .int x3)] [] f g) : mI T y_Mo_sign (Cond.code y_Mo_sign b_Mo_sign 5 (some .int)) 1 [.ref (ad T 0), .long x1, .int x3] f g Post := by
  obtain ⟨l, dC, dI, k, a⟩ := T
  intro sz
  refine Met.ofW (cc := b_Mo_sign) (maxL := 5) (ret := (some .int)) (by decide) rfl ?_
  intro p e s m args below meth c s₁ B hml hv
  obtain ⟨rfl, hsz, hE, hP, hK, hD0⟩ := hv
  have hts := atoms_spec (ws := (Cond.code y_Mo_sign b_Mo_sign 5 (some .int)) :: z_T) B.pre
  have htz : ∀ w ∈ z_T, w.before _ s = true := fun w h => hts w (z_cons w h)
  subst hsz
  have hD := hD0.self (sz := s.heap.size)
  generalize hAe : va_A (mw k a f g) s.heap.size = A at hD hE ⊢
  have hA : ∀ q : Nat, s.heap.size ≤ q → A q := fun q h => by rw [← hAe]; exact Or.inr h
  have hl := lv_entry ([.ref (a 0), .long x1, .int x3]) (n := 5) (Nat.le_of_ble_eq_true rfl)
  rw [lg_entry_eq]
  generalize (lg_sl ([.ref (a 0), .long x1, .int x3]) ++ List.replicate (5 - (lg_sl ([.ref (a 0), .long x1, .int x3])).length) Slot.unset).toArray = ls at hl ⊢
  exact h ((l, dC, dI, k, a), p, e, s, m, ([.ref (a 0), .long x1, .int x3] : List Value).toArray, below, meth, c, A) rfl ⟨B.exec, B.bytes, B.returns, htz, findClass_of_methodNamed B.named, B.notSynchronized, hml, hE, hK, hA⟩ s.heap [] ls hl hP hD va_S.rf
def zn_place (C : CT) (Post : Int32 → FT → GT → Prop) (pc : Nat) (loc : List (Nat × Value)) (st : List Value) (f : FT) (g : GT) : Prop := zW C (z_rm 0 0 0) 1 (qI C Post) 0 0 pc loc st (mM C.1 f g)
set_option maxHeartbeats 1000000 in
set_option maxRecDepth 100000 in
theorem k_Mo_place_0 {C : CT} (X : cM C "QuestionTextModel" b_Mo_place 1 (some .int)) (Post : Int32 → FT → GT → Prop) (f : FT) (g : GT)
    (q_9 : Post (f 2) (va_up f 0 0) g) : zn_place C Post 0 [(0, .ref (ad C.1 0))] [] f g := by
  obtain ⟨⟨l, dC, dI, k, a⟩, p, e, s, m, args, below, meth, c, A⟩ := C
  obtain ⟨hx, hb, hr, htz, hown, hlocks, hml, hE, hK, hA⟩ := X
  intro H locs ls hl hP hD hS
  have hl : lv_has ls 1 [(0, .ref (a 0))] := hl
  have hP : va_P (dC, dI) classes (mw k a f g) H := hP
  have hD : va_D A (mw k a f g) := hD
  show W p l e (z_rm 0 0 0) s m args below meth c H locs 0 0 _ (F0 m 0 ls [])
  refine lv_aload_n hx hb d_Mo_place_0 rfl (lv_at hl 0 rfl) ?_
  refine lv_iconst (v := 0) hx hb d_Mo_place_1 (by decide) ?_
  refine va_put (D := (dC, dI)) (ci := 4) (v := .int 0) (ty := .int) (C := R_Mo) (T := F_Mo) (N := 31) hx hb htz i_Mo t_Mo o_Mo n_Mo hown hK hP hD hS 0 rfl rfl 0 (by decide) (htz _ kf_Mo_69) (fun _ h9 => h9) rfl (by decide +kernel) rfl rfl (Nat.le_of_ble_eq_true rfl) d_Mo_place_2 (fun H locs hP hD hS => ?_)
  replace hP := mf_0 (v := 0) hP
  replace hD := md_0 (v := 0) hD
  refine lv_aload_n hx hb d_Mo_place_5 rfl (lv_at hl 0 rfl) ?_
  refine va_get (D := (dC, dI)) (ci := 4) (v := .int (f 2)) (C := R_Mo) (T := F_Mo) (N := 31) hx hb htz i_Mo hown hK hP 0 rfl rfl 3 (by decide) (htz _ kf_Mo_13) (fun _ h9 => h9) rfl d_Mo_place_6 ?_
  exact W.iret (v := f 2) hx hb hr (fun t ht hW => ⟨⟨_, (va_up f 0 0, g), rfl, q_9, by rw [ht]; exact hP, va_K.moved hW.alike hK, hD⟩, hS.F ht⟩) hS.2.2 d_Mo_place_9
set_option maxHeartbeats 1000000 in
set_option maxRecDepth 100000 in
theorem e_Mo_place (T : ST) (Post : Int32 → FT → GT → Prop) (f : FT) (g : GT) (h : ∀ C : CT, C.1 = T → cM C "QuestionTextModel" b_Mo_place 1 (some .int) → zn_place C Post 0 [(0, .ref (ad C.1 0))] [] f g) : mI T y_Mo_place (Cond.code y_Mo_place b_Mo_place 1 (some .int)) 0 [.ref (ad T 0)] f g Post := by
  obtain ⟨l, dC, dI, k, a⟩ := T
  intro sz
  refine Met.ofW (cc := b_Mo_place) (maxL := 1) (ret := (some .int)) (by decide) rfl ?_
  intro p e s m args below meth c s₁ B hml hv
  obtain ⟨rfl, hsz, hE, hP, hK, hD0⟩ := hv
  have hts := atoms_spec (ws := (Cond.code y_Mo_place b_Mo_place 1 (some .int)) :: z_T) B.pre
  have htz : ∀ w ∈ z_T, w.before _ s = true := fun w h => hts w (z_cons w h)
  subst hsz
  have hD := hD0.self (sz := s.heap.size)
  generalize hAe : va_A (mw k a f g) s.heap.size = A at hD hE ⊢
  have hA : ∀ q : Nat, s.heap.size ≤ q → A q := fun q h => by rw [← hAe]; exact Or.inr h
  have hl := lv_entry ([.ref (a 0)]) (n := 1) (Nat.le_of_ble_eq_true rfl)
  rw [lg_entry_eq]
  generalize (lg_sl ([.ref (a 0)]) ++ List.replicate (1 - (lg_sl ([.ref (a 0)])).length) Slot.unset).toArray = ls at hl ⊢
  exact h ((l, dC, dI, k, a), p, e, s, m, ([.ref (a 0)] : List Value).toArray, below, meth, c, A) rfl ⟨B.exec, B.bytes, B.returns, htz, findClass_of_methodNamed B.named, B.notSynchronized, hml, hE, hK, hA⟩ s.heap [] ls hl hP hD va_S.rf
def zn_kind (C : CT) (Post : Int32 → FT → GT → Prop) (pc : Nat) (loc : List (Nat × Value)) (st : List Value) (f : FT) (g : GT) : Prop := zW C (z_rm 0 0 0) 1 (qI C Post) 0 0 pc loc st (mM C.1 f g)
set_option maxHeartbeats 1000000 in
set_option maxRecDepth 100000 in
theorem k_Mo_kind_0 {C : CT} (X : cM C "QuestionTextModel" b_Mo_kind 1 (some .int)) (Post : Int32 → FT → GT → Prop) (f : FT) (g : GT)
    (q_9 : Post (f 9) (va_up f 0 0) g) : zn_kind C Post 0 [(0, .ref (ad C.1 0))] [] f g := by
  obtain ⟨⟨l, dC, dI, k, a⟩, p, e, s, m, args, below, meth, c, A⟩ := C
  obtain ⟨hx, hb, hr, htz, hown, hlocks, hml, hE, hK, hA⟩ := X
  intro H locs ls hl hP hD hS
  have hl : lv_has ls 1 [(0, .ref (a 0))] := hl
  have hP : va_P (dC, dI) classes (mw k a f g) H := hP
  have hD : va_D A (mw k a f g) := hD
  show W p l e (z_rm 0 0 0) s m args below meth c H locs 0 0 _ (F0 m 0 ls [])
  refine lv_aload_n hx hb d_Mo_kind_0 rfl (lv_at hl 0 rfl) ?_
  refine lv_iconst (v := 0) hx hb d_Mo_kind_1 (by decide) ?_
  refine va_put (D := (dC, dI)) (ci := 4) (v := .int 0) (ty := .int) (C := R_Mo) (T := F_Mo) (N := 31) hx hb htz i_Mo t_Mo o_Mo n_Mo hown hK hP hD hS 0 rfl rfl 0 (by decide) (htz _ kf_Mo_69) (fun _ h9 => h9) rfl (by decide +kernel) rfl rfl (Nat.le_of_ble_eq_true rfl) d_Mo_kind_2 (fun H locs hP hD hS => ?_)
  replace hP := mf_0 (v := 0) hP
  replace hD := md_0 (v := 0) hD
  refine lv_aload_n hx hb d_Mo_kind_5 rfl (lv_at hl 0 rfl) ?_
  refine va_get (D := (dC, dI)) (ci := 4) (v := .int (f 9)) (C := R_Mo) (T := F_Mo) (N := 31) hx hb htz i_Mo hown hK hP 0 rfl rfl 24 (by decide) (htz _ kf_Mo_141) (fun _ h9 => h9) rfl d_Mo_kind_6 ?_
  exact W.iret (v := f 9) hx hb hr (fun t ht hW => ⟨⟨_, (va_up f 0 0, g), rfl, q_9, by rw [ht]; exact hP, va_K.moved hW.alike hK, hD⟩, hS.F ht⟩) hS.2.2 d_Mo_kind_9
set_option maxHeartbeats 1000000 in
set_option maxRecDepth 100000 in
theorem e_Mo_kind (T : ST) (Post : Int32 → FT → GT → Prop) (f : FT) (g : GT) (h : ∀ C : CT, C.1 = T → cM C "QuestionTextModel" b_Mo_kind 1 (some .int) → zn_kind C Post 0 [(0, .ref (ad C.1 0))] [] f g) : mI T y_Mo_kind (Cond.code y_Mo_kind b_Mo_kind 1 (some .int)) 0 [.ref (ad T 0)] f g Post := by
  obtain ⟨l, dC, dI, k, a⟩ := T
  intro sz
  refine Met.ofW (cc := b_Mo_kind) (maxL := 1) (ret := (some .int)) (by decide) rfl ?_
  intro p e s m args below meth c s₁ B hml hv
  obtain ⟨rfl, hsz, hE, hP, hK, hD0⟩ := hv
  have hts := atoms_spec (ws := (Cond.code y_Mo_kind b_Mo_kind 1 (some .int)) :: z_T) B.pre
  have htz : ∀ w ∈ z_T, w.before _ s = true := fun w h => hts w (z_cons w h)
  subst hsz
  have hD := hD0.self (sz := s.heap.size)
  generalize hAe : va_A (mw k a f g) s.heap.size = A at hD hE ⊢
  have hA : ∀ q : Nat, s.heap.size ≤ q → A q := fun q h => by rw [← hAe]; exact Or.inr h
  have hl := lv_entry ([.ref (a 0)]) (n := 1) (Nat.le_of_ble_eq_true rfl)
  rw [lg_entry_eq]
  generalize (lg_sl ([.ref (a 0)]) ++ List.replicate (1 - (lg_sl ([.ref (a 0)])).length) Slot.unset).toArray = ls at hl ⊢
  exact h ((l, dC, dI, k, a), p, e, s, m, ([.ref (a 0)] : List Value).toArray, below, meth, c, A) rfl ⟨B.exec, B.bytes, B.returns, htz, findClass_of_methodNamed B.named, B.notSynchronized, hml, hE, hK, hA⟩ s.heap [] ls hl hP hD va_S.rf
def zn_points (C : CT) (Post : Int32 → FT → GT → Prop) (pc : Nat) (loc : List (Nat × Value)) (st : List Value) (f : FT) (g : GT) : Prop := zW C (z_rm 0 0 0) 1 (qI C Post) 0 0 pc loc st (mM C.1 f g)
set_option maxHeartbeats 1000000 in
set_option maxRecDepth 100000 in
theorem k_Mo_points_0 {C : CT} (X : cM C "QuestionTextModel" b_Mo_points 1 (some .int)) (Post : Int32 → FT → GT → Prop) (f : FT) (g : GT)
    (k_13 : (¬ f 9 = 0) → zn_points C Post 13 [(0, .ref (ad C.1 0))] [.int 0, .ref (ad C.1 0)] f g)
    (k_13_1 : (f 9 = 0) → zn_points C Post 13 [(0, .ref (ad C.1 0))] [.int 1, .ref (ad C.1 0)] f g) : zn_points C Post 0 [(0, .ref (ad C.1 0))] [] f g := by
  obtain ⟨⟨l, dC, dI, k, a⟩, p, e, s, m, args, below, meth, c, A⟩ := C
  obtain ⟨hx, hb, hr, htz, hown, hlocks, hml, hE, hK, hA⟩ := X
  intro H locs ls hl hP hD hS
  have hl : lv_has ls 1 [(0, .ref (a 0))] := hl
  have hP : va_P (dC, dI) classes (mw k a f g) H := hP
  have hD : va_D A (mw k a f g) := hD
  show W p l e (z_rm 0 0 0) s m args below meth c H locs 0 0 _ (F0 m 0 ls [])
  refine lv_aload_n hx hb d_Mo_points_0 rfl (lv_at hl 0 rfl) ?_
  refine lv_aload_n hx hb d_Mo_points_1 rfl (lv_at hl 0 rfl) ?_
  refine va_get (D := (dC, dI)) (ci := 4) (v := .int (f 9)) (C := R_Mo) (T := F_Mo) (N := 31) hx hb htz i_Mo hown hK hP 0 rfl rfl 24 (by decide) (htz _ kf_Mo_141) (fun _ h9 => h9) rfl d_Mo_points_2 ?_
  refine lv_if_ne (tgt := 12) hx hb d_Mo_points_5 (by decide) (fun c_5 => ?_) (fun c_5 => ?_)
  · refine lv_iconst (v := 0) hx hb d_Mo_points_12 (by decide) ?_
    exact (k_13 c_5) H locs ls (lv_sub hl [0] rfl) hP hD hS
  · refine lv_iconst (v := 1) hx hb d_Mo_points_8 (by decide) ?_
    refine lv_goto (tgt := 13) hx hb d_Mo_points_9 (by decide) ?_
    exact (k_13_1 c_5) H locs ls (lv_sub hl [0] rfl) hP hD hS
set_option maxHeartbeats 1000000 in
set_option maxRecDepth 100000 in
theorem k_Mo_points_13 {C : CT} (X : cM C "QuestionTextModel" b_Mo_points 1 (some .int)) (Post : Int32 → FT → GT → Prop) (y0 : Int32) (f : FT) (g : GT)
    (k_31 : (y0 ≤ 0) → zn_points C Post 31 [(0, .ref (ad C.1 0))] [.int (f 11)] (va_up f 0 y0) g)
    (k_31_1 : (¬ y0 ≤ 0) → zn_points C Post 31 [(0, .ref (ad C.1 0))] [.int 0] (va_up f 0 y0) g) : zn_points C Post 13 [(0, .ref (ad C.1 0))] [.int y0, .ref (ad C.1 0)] f g := by
  obtain ⟨⟨l, dC, dI, k, a⟩, p, e, s, m, args, below, meth, c, A⟩ := C
  obtain ⟨hx, hb, hr, htz, hown, hlocks, hml, hE, hK, hA⟩ := X
  intro H locs ls hl hP hD hS
  have hl : lv_has ls 1 [(0, .ref (a 0))] := hl
  have hP : va_P (dC, dI) classes (mw k a f g) H := hP
  have hD : va_D A (mw k a f g) := hD
  show W p l e (z_rm 0 0 0) s m args below meth c H locs 0 0 _ (F0 m 13 ls [.int y0, .ref (a 0)])
  refine va_put (D := (dC, dI)) (ci := 4) (v := .int y0) (ty := .int) (C := R_Mo) (T := F_Mo) (N := 31) hx hb htz i_Mo t_Mo o_Mo n_Mo hown hK hP hD hS 0 rfl rfl 0 (by decide) (htz _ kf_Mo_69) (fun _ h9 => h9) rfl (by decide +kernel) rfl rfl (Nat.le_of_ble_eq_true rfl) d_Mo_points_13 (fun H locs hP hD hS => ?_)
  replace hP := mf_0 (v := y0) hP
  replace hD := md_0 (v := y0) hD
  refine lv_aload_n hx hb d_Mo_points_16 rfl (lv_at hl 0 rfl) ?_
  refine va_get (D := (dC, dI)) (ci := 4) (v := .int y0) (C := R_Mo) (T := F_Mo) (N := 31) hx hb htz i_Mo hown hK hP 0 rfl rfl 0 (by decide) (htz _ kf_Mo_69) (fun _ h9 => h9) rfl d_Mo_points_17 ?_
  refine lv_if_le (tgt := 27) hx hb d_Mo_points_20 (by decide) (fun c_20 => ?_) (fun c_20 => ?_)
  · refine lv_aload_n hx hb d_Mo_points_27 rfl (lv_at hl 0 rfl) ?_
    refine va_get (D := (dC, dI)) (ci := 4) (v := .int (f 11)) (C := R_Mo) (T := F_Mo) (N := 31) hx hb htz i_Mo hown hK hP 0 rfl rfl 26 (by decide) (htz _ kf_Mo_161) (fun _ h9 => h9) rfl d_Mo_points_28 ?_
    exact (k_31 c_20) H locs ls (lv_sub hl [0] rfl) hP hD hS
  · refine lv_iconst (v := 0) hx hb d_Mo_points_23 (by decide) ?_
    refine lv_goto (tgt := 31) hx hb d_Mo_points_24 (by decide) ?_
    exact (k_31_1 c_20) H locs ls (lv_sub hl [0] rfl) hP hD hS
set_option maxHeartbeats 1000000 in
set_option maxRecDepth 100000 in
theorem k_Mo_points_31 {C : CT} (X : cM C "QuestionTextModel" b_Mo_points 1 (some .int)) (Post : Int32 → FT → GT → Prop) (y0 : Int32) (f : FT) (g : GT)
    (q_31 : Post (y0) f g) : zn_points C Post 31 [(0, .ref (ad C.1 0))] [.int y0] f g := by
  obtain ⟨⟨l, dC, dI, k, a⟩, p, e, s, m, args, below, meth, c, A⟩ := C
  obtain ⟨hx, hb, hr, htz, hown, hlocks, hml, hE, hK, hA⟩ := X
  intro H locs ls hl hP hD hS
  have hl : lv_has ls 1 [(0, .ref (a 0))] := hl
  have hP : va_P (dC, dI) classes (mw k a f g) H := hP
  have hD : va_D A (mw k a f g) := hD
  show W p l e (z_rm 0 0 0) s m args below meth c H locs 0 0 _ (F0 m 31 ls [.int y0])
  exact W.iret (v := y0) hx hb hr (fun t ht hW => ⟨⟨_, (f, g), rfl, q_31, by rw [ht]; exact hP, va_K.moved hW.alike hK, hD⟩, hS.F ht⟩) hS.2.2 d_Mo_points_31
set_option maxHeartbeats 1000000 in
set_option maxRecDepth 100000 in
theorem e_Mo_points (T : ST) (Post : Int32 → FT → GT → Prop) (f : FT) (g : GT) (h : ∀ C : CT, C.1 = T → cM C "QuestionTextModel" b_Mo_points 1 (some .int) → zn_points C Post 0 [(0, .ref (ad C.1 0))] [] f g) : mI T y_Mo_points (Cond.code y_Mo_points b_Mo_points 1 (some .int)) 0 [.ref (ad T 0)] f g Post := by
  obtain ⟨l, dC, dI, k, a⟩ := T
  intro sz
  refine Met.ofW (cc := b_Mo_points) (maxL := 1) (ret := (some .int)) (by decide) rfl ?_
  intro p e s m args below meth c s₁ B hml hv
  obtain ⟨rfl, hsz, hE, hP, hK, hD0⟩ := hv
  have hts := atoms_spec (ws := (Cond.code y_Mo_points b_Mo_points 1 (some .int)) :: z_T) B.pre
  have htz : ∀ w ∈ z_T, w.before _ s = true := fun w h => hts w (z_cons w h)
  subst hsz
  have hD := hD0.self (sz := s.heap.size)
  generalize hAe : va_A (mw k a f g) s.heap.size = A at hD hE ⊢
  have hA : ∀ q : Nat, s.heap.size ≤ q → A q := fun q h => by rw [← hAe]; exact Or.inr h
  have hl := lv_entry ([.ref (a 0)]) (n := 1) (Nat.le_of_ble_eq_true rfl)
  rw [lg_entry_eq]
  generalize (lg_sl ([.ref (a 0)]) ++ List.replicate (1 - (lg_sl ([.ref (a 0)])).length) Slot.unset).toArray = ls at hl ⊢
  exact h ((l, dC, dI, k, a), p, e, s, m, ([.ref (a 0)] : List Value).toArray, below, meth, c, A) rfl ⟨B.exec, B.bytes, B.returns, htz, findClass_of_methodNamed B.named, B.notSynchronized, hml, hE, hK, hA⟩ s.heap [] ls hl hP hD va_S.rf
def zn_asked (C : CT) (Post : Int32 → FT → GT → Prop) (pc : Nat) (loc : List (Nat × Value)) (st : List Value) (f : FT) (g : GT) : Prop := zW C (z_rm 1 0 0) 2 (qI C Post) 0 0 pc loc st (mM C.1 f g)
set_option maxHeartbeats 1000000 in
set_option maxRecDepth 100000 in
theorem k_Mo_asked_0 {C : CT} (X : cM C "QuestionTextModel" b_Mo_asked 2 (some .int)) (Post : Int32 → FT → GT → Prop) (x1 : Int32) (f : FT) (g : GT)
    (k_10 : (x1 < 0) → zn_asked C Post 10 [(0, .ref (ad C.1 0)), (1, .int x1)] [.int 0, .ref (ad C.1 0)] f g)
    (k_10_1 : (¬ x1 < 0) → zn_asked C Post 10 [(0, .ref (ad C.1 0)), (1, .int x1)] [.int 1, .ref (ad C.1 0)] f g) : zn_asked C Post 0 [(0, .ref (ad C.1 0)), (1, .int x1)] [] f g := by
  obtain ⟨⟨l, dC, dI, k, a⟩, p, e, s, m, args, below, meth, c, A⟩ := C
  obtain ⟨hx, hb, hr, htz, hown, hlocks, hml, hE, hK, hA⟩ := X
  intro H locs ls hl hP hD hS
  have hl : lv_has ls 2 [(0, .ref (a 0)), (1, .int x1)] := hl
  have hP : va_P (dC, dI) classes (mw k a f g) H := hP
  have hD : va_D A (mw k a f g) := hD
  show W p l e (z_rm 1 0 0) s m args below meth c H locs 0 0 _ (F0 m 0 ls [])
  refine lv_aload_n hx hb d_Mo_asked_0 rfl (lv_at hl 0 rfl) ?_
  refine lv_iload_n hx hb d_Mo_asked_1 rfl (lv_at hl 1 rfl) ?_
  refine lv_if_lt (tgt := 9) hx hb d_Mo_asked_2 (by decide) (fun c_2 => ?_) (fun c_2 => ?_)
  · refine lv_iconst (v := 0) hx hb d_Mo_asked_9 (by decide) ?_
    exact (k_10 c_2) H locs ls (lv_sub hl [0, 1] rfl) hP hD hS
  · refine lv_iconst (v := 1) hx hb d_Mo_asked_5 (by decide) ?_
    refine lv_goto (tgt := 10) hx hb d_Mo_asked_6 (by decide) ?_
    exact (k_10_1 c_2) H locs ls (lv_sub hl [0, 1] rfl) hP hD hS
set_option maxHeartbeats 1000000 in
set_option maxRecDepth 100000 in
theorem k_Mo_asked_10 {C : CT} (X : cM C "QuestionTextModel" b_Mo_asked 2 (some .int)) (Post : Int32 → FT → GT → Prop) {P_10 : Int32 → FT → GT → Prop} (x1 : Int32) (y0 : Int32) (f : FT) (g : GT)
    (m_10 : mI C.1 y_Mo_says (Cond.code y_Mo_says b_Mo_says 2 (some .boolean)) 0 [.ref (ad C.1 0), .int y0] f g P_10)
    (k_10 : ∀ (r : Int32) (f1 : FT) (g1 : GT), P_10 r f1 g1 → zn_asked C Post 13 [(0, .ref (ad C.1 0)), (1, .int x1)] [.int r] f1 g1) : zn_asked C Post 10 [(0, .ref (ad C.1 0)), (1, .int x1)] [.int y0, .ref (ad C.1 0)] f g := by
  obtain ⟨⟨l, dC, dI, k, a⟩, p, e, s, m, args, below, meth, c, A⟩ := C
  obtain ⟨hx, hb, hr, htz, hown, hlocks, hml, hE, hK, hA⟩ := X
  intro H locs ls hl hP hD hS
  have hl : lv_has ls 2 [(0, .ref (a 0)), (1, .int x1)] := hl
  have hP : va_P (dC, dI) classes (mw k a f g) H := hP
  have hD : va_D A (mw k a f g) := hD
  show W p l e (z_rm 1 0 0) s m args below meth c H locs 0 0 _ (F0 m 10 ls [.int y0, .ref (a 0)])
  have hFc := va_free (wc := mw k a f g) hD hS hA [0, 1, 2, 3, 4, 5, 6, 7, 8, 9, 10, 11, 12, 13, 14, 15, 16, 17, 18] rfl
  refine va_calli (va_runV (As := [.int y0]) (rest := []) ⟨hx, hb, hml, hown, htz⟩ (m_10 H.size) (cwV 1 htz (z_gV (fun _ h => h) km_Mo_147 in_Mo_says se_Mo_says ini_Mo m_Mo_says) rfl rfl rfl (by decide +kernel) ⟨(Nat.le_of_ble_eq_true rfl), (Nat.le_of_ble_eq_true rfl)⟩) ⟨z_blind, va_recv hK hP (ci := 4) (q0 := 0) rfl rfl, fun U hU hW => ⟨rfl, by rw [hU], hE.call hS hFc hU hW, by rw [hU]; exact hP, va_K.moved hW.alike hK, hD.weaken (fun _ _ _ _ => trivial)⟩⟩ rfl rfl hl.1 rfl (lv_room (Nat.le_of_ble_eq_true rfl)) d_Mo_asked_10 ⟨(Nat.le_of_ble_eq_true rfl), (Nat.le_of_ble_eq_true rfl)⟩) hS (fun q _ h => hFc q h) hFc (fun r u t H1 locs ht hvm hw hB hz1 hk1 hS => ?_)
  obtain ⟨hP1, hK1, hD1⟩ := hB
  rw [ht] at hP1
  exact k_10 r _ _ hw H1 locs ls (lv_sub hl [0, 1] rfl) hP1 (hD1.weaken (fun _ q _ h => hFc _ h)) hS
set_option maxHeartbeats 1000000 in
set_option maxRecDepth 100000 in
theorem k_Mo_asked_13 {C : CT} (X : cM C "QuestionTextModel" b_Mo_asked 2 (some .int)) (Post : Int32 → FT → GT → Prop) (x1 : Int32) (y0 : Int32) (f : FT) (g : GT)
    (k_42 : (¬ y0 = 0) → (f 9 ≤ 0) → zn_asked C Post 42 [(0, .ref (ad C.1 0)), (1, .int x1)] [] f g)
    (k_42_1 : (¬ y0 = 0) → (¬ f 9 ≤ 0) → (f 12 ≤ x1) → zn_asked C Post 42 [(0, .ref (ad C.1 0)), (1, .int x1)] [] f g)
    (h_38 : (¬ y0 = 0) → (¬ f 9 ≤ 0) → (¬ f 12 ≤ x1) → vp_in (x1) 40)
    (k_43 : (¬ y0 = 0) → (¬ f 9 ≤ 0) → (¬ f 12 ≤ x1) → zn_asked C Post 43 [(0, .ref (ad C.1 0)), (1, .int x1)] [.int (g 15 (x1 : Int32).toNatClampNeg)] f g)
    (q_17 : (y0 = 0) → Post (0) f g) : zn_asked C Post 13 [(0, .ref (ad C.1 0)), (1, .int x1)] [.int y0] f g := by
  obtain ⟨⟨l, dC, dI, k, a⟩, p, e, s, m, args, below, meth, c, A⟩ := C
  obtain ⟨hx, hb, hr, htz, hown, hlocks, hml, hE, hK, hA⟩ := X
  intro H locs ls hl hP hD hS
  have hl : lv_has ls 2 [(0, .ref (a 0)), (1, .int x1)] := hl
  have hP : va_P (dC, dI) classes (mw k a f g) H := hP
  have hD : va_D A (mw k a f g) := hD
  show W p l e (z_rm 1 0 0) s m args below meth c H locs 0 0 _ (F0 m 13 ls [.int y0])
  refine lv_if_ne (tgt := 18) hx hb d_Mo_asked_13 (by decide) (fun c_13 => ?_) (fun c_13 => ?_)
  · refine lv_aload_n hx hb d_Mo_asked_18 rfl (lv_at hl 0 rfl) ?_
    refine va_get (D := (dC, dI)) (ci := 4) (v := .int (f 9)) (C := R_Mo) (T := F_Mo) (N := 31) hx hb htz i_Mo hown hK hP 0 rfl rfl 24 (by decide) (htz _ kf_Mo_141) (fun _ h9 => h9) rfl d_Mo_asked_19 ?_
    refine lv_if_le (tgt := 42) hx hb d_Mo_asked_22 (by decide) (fun c_22 => ?_) (fun c_22 => ?_)
    · exact (k_42 c_13 c_22) H locs ls (lv_sub hl [0, 1] rfl) hP hD hS
    · refine lv_iload_n hx hb d_Mo_asked_25 rfl (lv_at hl 1 rfl) ?_
      refine lv_aload_n hx hb d_Mo_asked_26 rfl (lv_at hl 0 rfl) ?_
      refine va_get (D := (dC, dI)) (ci := 4) (v := .int (f 12)) (C := R_Mo) (T := F_Mo) (N := 31) hx hb htz i_Mo hown hK hP 0 rfl rfl 27 (by decide) (htz _ kf_Mo_158) (fun _ h9 => h9) rfl d_Mo_asked_27 ?_
      refine lv_icmp_ge (tgt := 42) hx hb d_Mo_asked_30 (by decide) (fun c_30 => ?_) (fun c_30 => ?_)
      · exact (k_42_1 c_13 c_22 c_30) H locs ls (lv_sub hl [0, 1] rfl) hP hD hS
      · refine lv_aload_n hx hb d_Mo_asked_33 rfl (lv_at hl 0 rfl) ?_
        refine va_get (D := (dC, dI)) (ci := 4) (v := .ref (a 16)) (C := R_Mo) (T := F_Mo) (N := 31) hx hb htz i_Mo hown hK hP 0 rfl rfl 28 (by decide) (htz _ kf_Mo_60) (fun _ h9 => h9) rfl d_Mo_asked_34 ?_
        refine lv_iload_n hx hb d_Mo_asked_37 rfl (lv_at hl 1 rfl) ?_
        refine va_iald hx hb hK hP 16 0 rfl rfl (h_38 c_13 c_22 c_30) d_Mo_asked_38 ?_
        refine lv_goto (tgt := 43) hx hb d_Mo_asked_39 (by decide) ?_
        exact (k_43 c_13 c_22 c_30) H locs ls (lv_sub hl [0, 1] rfl) hP hD hS
  · refine lv_iconst (v := 0) hx hb d_Mo_asked_16 (by decide) ?_
    exact W.iret (v := 0) hx hb hr (fun t ht hW => ⟨⟨_, (f, g), rfl, (q_17 c_13), by rw [ht]; exact hP, va_K.moved hW.alike hK, hD⟩, hS.F ht⟩) hS.2.2 d_Mo_asked_17
set_option maxHeartbeats 1000000 in
set_option maxRecDepth 100000 in
theorem k_Mo_asked_42 {C : CT} (X : cM C "QuestionTextModel" b_Mo_asked 2 (some .int)) (Post : Int32 → FT → GT → Prop) (x1 : Int32) (f : FT) (g : GT)
    (k_43 : zn_asked C Post 43 [(0, .ref (ad C.1 0)), (1, .int x1)] [.int 0] f g) : zn_asked C Post 42 [(0, .ref (ad C.1 0)), (1, .int x1)] [] f g := by
  obtain ⟨⟨l, dC, dI, k, a⟩, p, e, s, m, args, below, meth, c, A⟩ := C
  obtain ⟨hx, hb, hr, htz, hown, hlocks, hml, hE, hK, hA⟩ := X
  intro H locs ls hl hP hD hS
  have hl : lv_has ls 2 [(0, .ref (a 0)), (1, .int x1)] := hl
  have hP : va_P (dC, dI) classes (mw k a f g) H := hP
  have hD : va_D A (mw k a f g) := hD
  show W p l e (z_rm 1 0 0) s m args below meth c H locs 0 0 _ (F0 m 42 ls [])
  refine lv_iconst (v := 0) hx hb d_Mo_asked_42 (by decide) ?_
  exact k_43 H locs ls (lv_sub hl [0, 1] rfl) hP hD hS
set_option maxHeartbeats 1000000 in
set_option maxRecDepth 100000 in
theorem k_Mo_asked_43 {C : CT} (X : cM C "QuestionTextModel" b_Mo_asked 2 (some .int)) (Post : Int32 → FT → GT → Prop) (x1 : Int32) (y0 : Int32) (f : FT) (g : GT)
    (q_43 : Post (y0) f g) : zn_asked C Post 43 [(0, .ref (ad C.1 0)), (1, .int x1)] [.int y0] f g := by
  obtain ⟨⟨l, dC, dI, k, a⟩, p, e, s, m, args, below, meth, c, A⟩ := C
  obtain ⟨hx, hb, hr, htz, hown, hlocks, hml, hE, hK, hA⟩ := X
  intro H locs ls hl hP hD hS
  have hl : lv_has ls 2 [(0, .ref (a 0)), (1, .int x1)] := hl
  have hP : va_P (dC, dI) classes (mw k a f g) H := hP
  have hD : va_D A (mw k a f g) := hD
  show W p l e (z_rm 1 0 0) s m args below meth c H locs 0 0 _ (F0 m 43 ls [.int y0])
  exact W.iret (v := y0) hx hb hr (fun t ht hW => ⟨⟨_, (f, g), rfl, q_43, by rw [ht]; exact hP, va_K.moved hW.alike hK, hD⟩, hS.F ht⟩) hS.2.2 d_Mo_asked_43
set_option maxHeartbeats 1000000 in
set_option maxRecDepth 100000 in
theorem e_Mo_asked (T : ST) (Post : Int32 → FT → GT → Prop) (x1 : Int32) (f : FT) (g : GT) (h : ∀ C : CT, C.1 = T → cM C "QuestionTextModel" b_Mo_asked 2 (some .int) → zn_asked C Post 0 [(0, .ref (ad C.1 0)), (1, .int x1)] [] f g) : mI T y_Mo_asked (Cond.code y_Mo_asked b_Mo_asked 2 (some .int)) 1 [.ref (ad T 0), .int x1] f g Post := by
  obtain ⟨l, dC, dI, k, a⟩ := T
  intro sz
  refine Met.ofW (cc := b_Mo_asked) (maxL := 2) (ret := (some .int)) (by decide) rfl ?_
  intro p e s m args below meth c s₁ B hml hv
  obtain ⟨rfl, hsz, hE, hP, hK, hD0⟩ := hv
  have hts := atoms_spec (ws := (Cond.code y_Mo_asked b_Mo_asked 2 (some .int)) :: z_T) B.pre
  have htz : ∀ w ∈ z_T, w.before _ s = true := fun w h => hts w (z_cons w h)
  subst hsz
  have hD := hD0.self (sz := s.heap.size)
  generalize hAe : va_A (mw k a f g) s.heap.size = A at hD hE ⊢
  have hA : ∀ q : Nat, s.heap.size ≤ q → A q := fun q h => by rw [← hAe]; exact Or.inr h
  have hl := lv_entry ([.ref (a 0), .int x1]) (n := 2) (Nat.le_of_ble_eq_true rfl)
  rw [lg_entry_eq]
  generalize (lg_sl ([.ref (a 0), .int x1]) ++ List.replicate (2 - (lg_sl ([.ref (a 0), .int x1])).length) Slot.unset).toArray = ls at hl ⊢
  exact h ((l, dC, dI, k, a), p, e, s, m, ([.ref (a 0), .int x1] : List Value).toArray, below, meth, c, A) rfl ⟨B.exec, B.bytes, B.returns, htz, findClass_of_methodNamed B.named, B.notSynchronized, hml, hE, hK, hA⟩ s.heap [] ls hl hP hD va_S.rf
def zn_edition (C : CT) (Post : Int32 → FT → GT → Prop) (pc : Nat) (loc : List (Nat × Value)) (st : List Value) (f : FT) (g : GT) : Prop := zW C (z_rm 1 0 0) 2 (qI C Post) 0 0 pc loc st (mM C.1 f g)
set_option maxHeartbeats 1000000 in
set_option maxRecDepth 100000 in
theorem k_Mo_edition_0 {C : CT} (X : cM C "QuestionTextModel" b_Mo_edition 2 (some .int)) (Post : Int32 → FT → GT → Prop) {P_7 : Int32 → FT → GT → Prop} (x1 : Int32) (f : FT) (g : GT)
    (m_7 : mI C.1 y_Mo_in (Cond.code y_Mo_in b_Mo_in 3 (some .boolean)) 0 [.int x1, .int 0, .int (f 3)] f g P_7)
    (k_7 : ∀ (r : Int32) (f1 : FT) (g1 : GT), P_7 r f1 g1 → zn_edition C Post 10 [(0, .ref (ad C.1 0)), (1, .int x1)] [.int r, .ref (ad C.1 0)] f1 g1) : zn_edition C Post 0 [(0, .ref (ad C.1 0)), (1, .int x1)] [] f g := by
  obtain ⟨⟨l, dC, dI, k, a⟩, p, e, s, m, args, below, meth, c, A⟩ := C
  obtain ⟨hx, hb, hr, htz, hown, hlocks, hml, hE, hK, hA⟩ := X
  intro H locs ls hl hP hD hS
  have hl : lv_has ls 2 [(0, .ref (a 0)), (1, .int x1)] := hl
  have hP : va_P (dC, dI) classes (mw k a f g) H := hP
  have hD : va_D A (mw k a f g) := hD
  show W p l e (z_rm 1 0 0) s m args below meth c H locs 0 0 _ (F0 m 0 ls [])
  refine lv_aload_n hx hb d_Mo_edition_0 rfl (lv_at hl 0 rfl) ?_
  refine lv_iload_n hx hb d_Mo_edition_1 rfl (lv_at hl 1 rfl) ?_
  refine lv_iconst (v := 0) hx hb d_Mo_edition_2 (by decide) ?_
  refine lv_aload_n hx hb d_Mo_edition_3 rfl (lv_at hl 0 rfl) ?_
  refine va_get (D := (dC, dI)) (ci := 4) (v := .int (f 3)) (C := R_Mo) (T := F_Mo) (N := 31) hx hb htz i_Mo hown hK hP 0 rfl rfl 4 (by decide) (htz _ kf_Mo_129) (fun _ h9 => h9) rfl d_Mo_edition_4 ?_
  have hFc := va_free (wc := mw k a f g) hD hS hA [0, 1, 2, 3, 4, 5, 6, 7, 8, 9, 10, 11, 12, 13, 14, 15, 16, 17, 18] rfl
  refine va_calli (va_runS (As := [.int x1, .int 0, .int (f 3)]) (rest := [.ref (a 0)]) ⟨hx, hb, hml, hown, htz⟩ (m_7 H.size) (va_cwS 3 htz (z_gS (fun _ h => h) km_Mo_72 st_Mo_in ini_Mo m_Mo_in) rfl rfl rfl (by decide +kernel) ⟨(Nat.le_of_ble_eq_true rfl), (Nat.le_of_ble_eq_true rfl)⟩) ⟨z_blind, fun U hU hW => ⟨rfl, by rw [hU], hE.call hS hFc hU hW, by rw [hU]; exact hP, va_K.moved hW.alike hK, hD.weaken (fun _ _ _ _ => trivial)⟩⟩ rfl rfl hl.1 rfl (lv_room (Nat.le_of_ble_eq_true rfl)) d_Mo_edition_7 ⟨(Nat.le_of_ble_eq_true rfl), (Nat.le_of_ble_eq_true rfl)⟩) hS (fun q _ h => hFc q h) hFc (fun r u t H1 locs ht hvm hw hB hz1 hk1 hS => ?_)
  obtain ⟨hP1, hK1, hD1⟩ := hB
  rw [ht] at hP1
  exact k_7 r _ _ hw H1 locs ls (lv_sub hl [0, 1] rfl) hP1 (hD1.weaken (fun _ q _ h => hFc _ h)) hS
set_option maxHeartbeats 1000000 in
set_option maxRecDepth 100000 in
theorem k_Mo_edition_10 {C : CT} (X : cM C "QuestionTextModel" b_Mo_edition 2 (some .int)) (Post : Int32 → FT → GT → Prop) {P_10 : Int32 → FT → GT → Prop} (x1 : Int32) (y0 : Int32) (f : FT) (g : GT)
    (m_10 : mI C.1 y_Mo_says (Cond.code y_Mo_says b_Mo_says 2 (some .boolean)) 0 [.ref (ad C.1 0), .int y0] f g P_10)
    (k_10 : ∀ (r : Int32) (f1 : FT) (g1 : GT), P_10 r f1 g1 → zn_edition C Post 13 [(0, .ref (ad C.1 0)), (1, .int x1)] [.int r] f1 g1) : zn_edition C Post 10 [(0, .ref (ad C.1 0)), (1, .int x1)] [.int y0, .ref (ad C.1 0)] f g := by
  obtain ⟨⟨l, dC, dI, k, a⟩, p, e, s, m, args, below, meth, c, A⟩ := C
  obtain ⟨hx, hb, hr, htz, hown, hlocks, hml, hE, hK, hA⟩ := X
  intro H locs ls hl hP hD hS
  have hl : lv_has ls 2 [(0, .ref (a 0)), (1, .int x1)] := hl
  have hP : va_P (dC, dI) classes (mw k a f g) H := hP
  have hD : va_D A (mw k a f g) := hD
  show W p l e (z_rm 1 0 0) s m args below meth c H locs 0 0 _ (F0 m 10 ls [.int y0, .ref (a 0)])
  have hFc := va_free (wc := mw k a f g) hD hS hA [0, 1, 2, 3, 4, 5, 6, 7, 8, 9, 10, 11, 12, 13, 14, 15, 16, 17, 18] rfl
  refine va_calli (va_runV (As := [.int y0]) (rest := []) ⟨hx, hb, hml, hown, htz⟩ (m_10 H.size) (cwV 1 htz (z_gV (fun _ h => h) km_Mo_147 in_Mo_says se_Mo_says ini_Mo m_Mo_says) rfl rfl rfl (by decide +kernel) ⟨(Nat.le_of_ble_eq_true rfl), (Nat.le_of_ble_eq_true rfl)⟩) ⟨z_blind, va_recv hK hP (ci := 4) (q0 := 0) rfl rfl, fun U hU hW => ⟨rfl, by rw [hU], hE.call hS hFc hU hW, by rw [hU]; exact hP, va_K.moved hW.alike hK, hD.weaken (fun _ _ _ _ => trivial)⟩⟩ rfl rfl hl.1 rfl (lv_room (Nat.le_of_ble_eq_true rfl)) d_Mo_edition_10 ⟨(Nat.le_of_ble_eq_true rfl), (Nat.le_of_ble_eq_true rfl)⟩) hS (fun q _ h => hFc q h) hFc (fun r u t H1 locs ht hvm hw hB hz1 hk1 hS => ?_)
  obtain ⟨hP1, hK1, hD1⟩ := hB
  rw [ht] at hP1
  exact k_10 r _ _ hw H1 locs ls (lv_sub hl [0, 1] rfl) hP1 (hD1.weaken (fun _ q _ h => hFc _ h)) hS
set_option maxHeartbeats 1000000 in
set_option maxRecDepth 100000 in
theorem k_Mo_edition_13 {C : CT} (X : cM C "QuestionTextModel" b_Mo_edition 2 (some .int)) (Post : Int32 → FT → GT → Prop) {P_29 : Int32 → FT → GT → Prop} (x1 : Int32) (y0 : Int32) (f : FT) (g : GT)
    (m_29 : (¬ y0 = 0) → mI C.1 y_Mo_questions (Cond.code y_Mo_questions b_Mo_questions 3 (some .int)) 0 [.ref (ad C.1 0)] (va_up (va_up f 4 x1) 9 0) g P_29)
    (k_29 : (¬ y0 = 0) → ∀ (r : Int32) (f1 : FT) (g1 : GT), P_29 r f1 g1 → zn_edition C Post 32 [(0, .ref (ad C.1 0)), (1, .int x1)] [.int r] f1 g1)
    (q_17 : (y0 = 0) → Post (0) f g) : zn_edition C Post 13 [(0, .ref (ad C.1 0)), (1, .int x1)] [.int y0] f g := by
  obtain ⟨⟨l, dC, dI, k, a⟩, p, e, s, m, args, below, meth, c, A⟩ := C
  obtain ⟨hx, hb, hr, htz, hown, hlocks, hml, hE, hK, hA⟩ := X
  intro H locs ls hl hP hD hS
  have hl : lv_has ls 2 [(0, .ref (a 0)), (1, .int x1)] := hl
  have hP : va_P (dC, dI) classes (mw k a f g) H := hP
  have hD : va_D A (mw k a f g) := hD
  show W p l e (z_rm 1 0 0) s m args below meth c H locs 0 0 _ (F0 m 13 ls [.int y0])
  refine lv_if_ne (tgt := 18) hx hb d_Mo_edition_13 (by decide) (fun c_13 => ?_) (fun c_13 => ?_)
  · refine lv_aload_n hx hb d_Mo_edition_18 rfl (lv_at hl 0 rfl) ?_
    refine lv_iload_n hx hb d_Mo_edition_19 rfl (lv_at hl 1 rfl) ?_
    refine va_put (D := (dC, dI)) (ci := 4) (v := .int x1) (ty := .int) (C := R_Mo) (T := F_Mo) (N := 31) hx hb htz i_Mo t_Mo o_Mo n_Mo hown hK hP hD hS 0 rfl rfl 5 (by decide) (htz _ kf_Mo_126) (fun _ h9 => h9) rfl (by decide +kernel) rfl rfl (Nat.le_of_ble_eq_true rfl) d_Mo_edition_20 (fun H locs hP hD hS => ?_)
    replace hP := mf_4 (v := x1) hP
    replace hD := md_4 (v := x1) hD
    refine lv_aload_n hx hb d_Mo_edition_23 rfl (lv_at hl 0 rfl) ?_
    refine lv_iconst (v := 0) hx hb d_Mo_edition_24 (by decide) ?_
    refine va_put (D := (dC, dI)) (ci := 4) (v := .int 0) (ty := .int) (C := R_Mo) (T := F_Mo) (N := 31) hx hb htz i_Mo t_Mo o_Mo n_Mo hown hK hP hD hS 0 rfl rfl 24 (by decide) (htz _ kf_Mo_141) (fun _ h9 => h9) rfl (by decide +kernel) rfl rfl (Nat.le_of_ble_eq_true rfl) d_Mo_edition_25 (fun H locs hP hD hS => ?_)
    replace hP := mf_9 (v := 0) hP
    replace hD := md_9 (v := 0) hD
    refine lv_aload_n hx hb d_Mo_edition_28 rfl (lv_at hl 0 rfl) ?_
    have hFc := va_free (wc := mw k a (va_up (va_up f 4 x1) 9 0) g) hD hS hA [0, 1, 2, 3, 4, 5, 6, 7, 8, 9, 10, 11, 12, 13, 14, 15, 16, 17, 18] rfl
    refine va_calli (va_runV (As := []) (rest := []) ⟨hx, hb, hml, hown, htz⟩ ((m_29 c_13) H.size) (cwV 0 htz (z_gV (fun _ h => h) km_Mo_144 in_Mo_questions se_Mo_questions ini_Mo m_Mo_questions) rfl rfl rfl (by decide +kernel) ⟨(Nat.le_of_ble_eq_true rfl), (Nat.le_of_ble_eq_true rfl)⟩) ⟨z_blind, va_recv hK hP (ci := 4) (q0 := 0) rfl rfl, fun U hU hW => ⟨rfl, by rw [hU], hE.call hS hFc hU hW, by rw [hU]; exact hP, va_K.moved hW.alike hK, hD.weaken (fun _ _ _ _ => trivial)⟩⟩ rfl rfl hl.1 rfl (lv_room (Nat.le_of_ble_eq_true rfl)) d_Mo_edition_29 ⟨(Nat.le_of_ble_eq_true rfl), (Nat.le_of_ble_eq_true rfl)⟩) hS (fun q _ h => hFc q h) hFc (fun r u t H1 locs ht hvm hw hB hz1 hk1 hS => ?_)
    obtain ⟨hP1, hK1, hD1⟩ := hB
    rw [ht] at hP1
    exact (k_29 c_13) r _ _ hw H1 locs ls (lv_sub hl [0, 1] rfl) hP1 (hD1.weaken (fun _ q _ h => hFc _ h)) hS
  · refine lv_iconst (v := 0) hx hb d_Mo_edition_16 (by decide) ?_
    exact W.iret (v := 0) hx hb hr (fun t ht hW => ⟨⟨_, (f, g), rfl, (q_17 c_13), by rw [ht]; exact hP, va_K.moved hW.alike hK, hD⟩, hS.F ht⟩) hS.2.2 d_Mo_edition_17
set_option maxHeartbeats 1000000 in
set_option maxRecDepth 100000 in
theorem k_Mo_edition_32 {C : CT} (X : cM C "QuestionTextModel" b_Mo_edition 2 (some .int)) (Post : Int32 → FT → GT → Prop) (x1 : Int32) (y0 : Int32) (f : FT) (g : GT)
    (q_32 : Post (y0) f g) : zn_edition C Post 32 [(0, .ref (ad C.1 0)), (1, .int x1)] [.int y0] f g := by
  obtain ⟨⟨l, dC, dI, k, a⟩, p, e, s, m, args, below, meth, c, A⟩ := C
  obtain ⟨hx, hb, hr, htz, hown, hlocks, hml, hE, hK, hA⟩ := X
  intro H locs ls hl hP hD hS
  have hl : lv_has ls 2 [(0, .ref (a 0)), (1, .int x1)] := hl
  have hP : va_P (dC, dI) classes (mw k a f g) H := hP
  have hD : va_D A (mw k a f g) := hD
  show W p l e (z_rm 1 0 0) s m args below meth c H locs 0 0 _ (F0 m 32 ls [.int y0])
  exact W.iret (v := y0) hx hb hr (fun t ht hW => ⟨⟨_, (f, g), rfl, q_32, by rw [ht]; exact hP, va_K.moved hW.alike hK, hD⟩, hS.F ht⟩) hS.2.2 d_Mo_edition_32
set_option maxHeartbeats 1000000 in
set_option maxRecDepth 100000 in
theorem e_Mo_edition (T : ST) (Post : Int32 → FT → GT → Prop) (x1 : Int32) (f : FT) (g : GT) (h : ∀ C : CT, C.1 = T → cM C "QuestionTextModel" b_Mo_edition 2 (some .int) → zn_edition C Post 0 [(0, .ref (ad C.1 0)), (1, .int x1)] [] f g) : mI T y_Mo_edition (Cond.code y_Mo_edition b_Mo_edition 2 (some .int)) 1 [.ref (ad T 0), .int x1] f g Post := by
  obtain ⟨l, dC, dI, k, a⟩ := T
  intro sz
  refine Met.ofW (cc := b_Mo_edition) (maxL := 2) (ret := (some .int)) (by decide) rfl ?_
  intro p e s m args below meth c s₁ B hml hv
  obtain ⟨rfl, hsz, hE, hP, hK, hD0⟩ := hv
  have hts := atoms_spec (ws := (Cond.code y_Mo_edition b_Mo_edition 2 (some .int)) :: z_T) B.pre
  have htz : ∀ w ∈ z_T, w.before _ s = true := fun w h => hts w (z_cons w h)
  subst hsz
  have hD := hD0.self (sz := s.heap.size)
  generalize hAe : va_A (mw k a f g) s.heap.size = A at hD hE ⊢
  have hA : ∀ q : Nat, s.heap.size ≤ q → A q := fun q h => by rw [← hAe]; exact Or.inr h
  have hl := lv_entry ([.ref (a 0), .int x1]) (n := 2) (Nat.le_of_ble_eq_true rfl)
  rw [lg_entry_eq]
  generalize (lg_sl ([.ref (a 0), .int x1]) ++ List.replicate (2 - (lg_sl ([.ref (a 0), .int x1])).length) Slot.unset).toArray = ls at hl ⊢
  exact h ((l, dC, dI, k, a), p, e, s, m, ([.ref (a 0), .int x1] : List Value).toArray, below, meth, c, A) rfl ⟨B.exec, B.bytes, B.returns, htz, findClass_of_methodNamed B.named, B.notSynchronized, hml, hE, hK, hA⟩ s.heap [] ls hl hP hD va_S.rf
def zn_isThere (C : CT) (Post : Int32 → FT → GT → Prop) (pc : Nat) (loc : List (Nat × Value)) (st : List Value) (f : FT) (g : GT) : Prop := zW C (z_rm 0 0 0) 2 (qI C Post) 0 0 pc loc st (mM C.1 f g)
set_option maxHeartbeats 1000000 in
set_option maxRecDepth 100000 in
theorem k_Mo_isThere_0 {C : CT} (X : cM C "QuestionTextModel" b_Mo_isThere 2 (some .boolean)) (Post : Int32 → FT → GT → Prop) (x1 : Int32) (f : FT) (g : GT)
    (k_25 : (x1 ≤ 0) → zn_isThere C Post 25 [(0, .ref (ad C.1 0)), (1, .int x1)] [] f g)
    (h_17 : (¬ x1 ≤ 0) → vp_in (((f 4) * 61) + x1) 610)
    (k_25_1 : (¬ x1 ≤ 0) → (g 1 (((f 4) * 61) + x1 : Int32).toNatClampNeg = 0) → zn_isThere C Post 25 [(0, .ref (ad C.1 0)), (1, .int x1)] [] f g)
    (k_26 : (¬ x1 ≤ 0) → (¬ g 1 (((f 4) * 61) + x1 : Int32).toNatClampNeg = 0) → zn_isThere C Post 26 [(0, .ref (ad C.1 0)), (1, .int x1)] [.int 1] f g) : zn_isThere C Post 0 [(0, .ref (ad C.1 0)), (1, .int x1)] [] f g := by
  obtain ⟨⟨l, dC, dI, k, a⟩, p, e, s, m, args, below, meth, c, A⟩ := C
  obtain ⟨hx, hb, hr, htz, hown, hlocks, hml, hE, hK, hA⟩ := X
  intro H locs ls hl hP hD hS
  have hl : lv_has ls 2 [(0, .ref (a 0)), (1, .int x1)] := hl
  have hP : va_P (dC, dI) classes (mw k a f g) H := hP
  have hD : va_D A (mw k a f g) := hD
  show W p l e (z_rm 0 0 0) s m args below meth c H locs 0 0 _ (F0 m 0 ls [])
  refine lv_iload_n hx hb d_Mo_isThere_0 rfl (lv_at hl 1 rfl) ?_
  refine lv_if_le (tgt := 25) hx hb d_Mo_isThere_1 (by decide) (fun c_1 => ?_) (fun c_1 => ?_)
  · exact (k_25 c_1) H locs ls (lv_sub hl [0, 1] rfl) hP hD hS
  · refine lv_aload_n hx hb d_Mo_isThere_4 rfl (lv_at hl 0 rfl) ?_
    refine va_get (D := (dC, dI)) (ci := 4) (v := .ref (a 2)) (C := R_Mo) (T := F_Mo) (N := 31) hx hb htz i_Mo hown hK hP 0 rfl rfl 6 (by decide) (htz _ kf_Mo_17) (fun _ h9 => h9) rfl d_Mo_isThere_5 ?_
    refine lv_aload_n hx hb d_Mo_isThere_8 rfl (lv_at hl 0 rfl) ?_
    refine va_get (D := (dC, dI)) (ci := 4) (v := .int (f 4)) (C := R_Mo) (T := F_Mo) (N := 31) hx hb htz i_Mo hown hK hP 0 rfl rfl 5 (by decide) (htz _ kf_Mo_126) (fun _ h9 => h9) rfl d_Mo_isThere_9 ?_
    refine lv_bipush (v := 61) hx hb d_Mo_isThere_12 (by decide) ?_
    refine lv_imul hx hb d_Mo_isThere_14 ?_
    refine lv_iload_n hx hb d_Mo_isThere_15 rfl (lv_at hl 1 rfl) ?_
    refine lv_iadd hx hb d_Mo_isThere_16 ?_
    refine va_zald hx hb hK hP 2 2 rfl rfl (h_17 c_1) d_Mo_isThere_17 ?_
    refine lv_if_eq (tgt := 25) hx hb d_Mo_isThere_18 (by decide) (fun c_18 => ?_) (fun c_18 => ?_)
    · exact (k_25_1 c_1 c_18) H locs ls (lv_sub hl [0, 1] rfl) hP hD hS
    · refine lv_iconst (v := 1) hx hb d_Mo_isThere_21 (by decide) ?_
      refine lv_goto (tgt := 26) hx hb d_Mo_isThere_22 (by decide) ?_
      exact (k_26 c_1 c_18) H locs ls (lv_sub hl [0, 1] rfl) hP hD hS
set_option maxHeartbeats 1000000 in
set_option maxRecDepth 100000 in
theorem k_Mo_isThere_25 {C : CT} (X : cM C "QuestionTextModel" b_Mo_isThere 2 (some .boolean)) (Post : Int32 → FT → GT → Prop) (x1 : Int32) (f : FT) (g : GT)
    (k_26 : zn_isThere C Post 26 [(0, .ref (ad C.1 0)), (1, .int x1)] [.int 0] f g) : zn_isThere C Post 25 [(0, .ref (ad C.1 0)), (1, .int x1)] [] f g := by
  obtain ⟨⟨l, dC, dI, k, a⟩, p, e, s, m, args, below, meth, c, A⟩ := C
  obtain ⟨hx, hb, hr, htz, hown, hlocks, hml, hE, hK, hA⟩ := X
  intro H locs ls hl hP hD hS
  have hl : lv_has ls 2 [(0, .ref (a 0)), (1, .int x1)] := hl
  have hP : va_P (dC, dI) classes (mw k a f g) H := hP
  have hD : va_D A (mw k a f g) := hD
  show W p l e (z_rm 0 0 0) s m args below meth c H locs 0 0 _ (F0 m 25 ls [])
  refine lv_iconst (v := 0) hx hb d_Mo_isThere_25 (by decide) ?_
  exact k_26 H locs ls (lv_sub hl [0, 1] rfl) hP hD hS
set_option maxHeartbeats 1000000 in
set_option maxRecDepth 100000 in
theorem k_Mo_isThere_26 {C : CT} (X : cM C "QuestionTextModel" b_Mo_isThere 2 (some .boolean)) (Post : Int32 → FT → GT → Prop) (x1 : Int32) (y0 : Int32) (f : FT) (g : GT)
    (q_26 : Post (y0) f g)
    (z_26 : narrow .boolean (.int (y0)) = .int (y0)) : zn_isThere C Post 26 [(0, .ref (ad C.1 0)), (1, .int x1)] [.int y0] f g := by
  obtain ⟨⟨l, dC, dI, k, a⟩, p, e, s, m, args, below, meth, c, A⟩ := C
  obtain ⟨hx, hb, hr, htz, hown, hlocks, hml, hE, hK, hA⟩ := X
  intro H locs ls hl hP hD hS
  have hl : lv_has ls 2 [(0, .ref (a 0)), (1, .int x1)] := hl
  have hP : va_P (dC, dI) classes (mw k a f g) H := hP
  have hD : va_D A (mw k a f g) := hD
  show W p l e (z_rm 0 0 0) s m args below meth c H locs 0 0 _ (F0 m 26 ls [.int y0])
  exact W.zret (v := y0) (ty := .boolean) hx hb hr z_26 (fun t ht hW => ⟨⟨_, (f, g), rfl, q_26, by rw [ht]; exact hP, va_K.moved hW.alike hK, hD⟩, hS.F ht⟩) hS.2.2 d_Mo_isThere_26
set_option maxHeartbeats 1000000 in
set_option maxRecDepth 100000 in
theorem e_Mo_isThere (T : ST) (Post : Int32 → FT → GT → Prop) (x1 : Int32) (f : FT) (g : GT) (h : ∀ C : CT, C.1 = T → cM C "QuestionTextModel" b_Mo_isThere 2 (some .boolean) → zn_isThere C Post 0 [(0, .ref (ad C.1 0)), (1, .int x1)] [] f g) : mI T y_Mo_isThere (Cond.code y_Mo_isThere b_Mo_isThere 2 (some .boolean)) 0 [.ref (ad T 0), .int x1] f g Post := by
  obtain ⟨l, dC, dI, k, a⟩ := T
  intro sz
  refine Met.ofW (cc := b_Mo_isThere) (maxL := 2) (ret := (some .boolean)) (by decide) rfl ?_
  intro p e s m args below meth c s₁ B hml hv
  obtain ⟨rfl, hsz, hE, hP, hK, hD0⟩ := hv
  have hts := atoms_spec (ws := (Cond.code y_Mo_isThere b_Mo_isThere 2 (some .boolean)) :: z_T) B.pre
  have htz : ∀ w ∈ z_T, w.before _ s = true := fun w h => hts w (z_cons w h)
  subst hsz
  have hD := hD0.self (sz := s.heap.size)
  generalize hAe : va_A (mw k a f g) s.heap.size = A at hD hE ⊢
  have hA : ∀ q : Nat, s.heap.size ≤ q → A q := fun q h => by rw [← hAe]; exact Or.inr h
  have hl := lv_entry ([.ref (a 0), .int x1]) (n := 2) (Nat.le_of_ble_eq_true rfl)
  rw [lg_entry_eq]
  generalize (lg_sl ([.ref (a 0), .int x1]) ++ List.replicate (2 - (lg_sl ([.ref (a 0), .int x1])).length) Slot.unset).toArray = ls at hl ⊢
  exact h ((l, dC, dI, k, a), p, e, s, m, ([.ref (a 0), .int x1] : List Value).toArray, below, meth, c, A) rfl ⟨B.exec, B.bytes, B.returns, htz, findClass_of_methodNamed B.named, B.notSynchronized, hml, hE, hK, hA⟩ s.heap [] ls hl hP hD va_S.rf
def zn_asks (C : CT) (Post : FT → GT → Prop) (pc : Nat) (loc : List (Nat × Value)) (st : List Value) (f : FT) (g : GT) : Prop := zW C (z_rm 1 0 0) 2 (qV C Post) 0 0 pc loc st (mM C.1 f g)
set_option maxHeartbeats 1000000 in
set_option maxRecDepth 100000 in
theorem k_Mo_asks_0 {C : CT} (X : cM C "QuestionTextModel" b_Mo_asks 2 none) (Post : FT → GT → Prop) {P_3 : Int32 → FT → GT → Prop} (x1 : Int32) (f : FT) (g : GT)
    (m_3 : mI C.1 y_Mo_isThere (Cond.code y_Mo_isThere b_Mo_isThere 2 (some .boolean)) 0 [.ref (ad C.1 0), .int x1] f g P_3)
    (k_3 : ∀ (r : Int32) (f1 : FT) (g1 : GT), P_3 r f1 g1 → zn_asks C Post 6 [(0, .ref (ad C.1 0)), (1, .int x1)] [.int r, .ref (ad C.1 0)] f1 g1) : zn_asks C Post 0 [(0, .ref (ad C.1 0)), (1, .int x1)] [] f g := by
  obtain ⟨⟨l, dC, dI, k, a⟩, p, e, s, m, args, below, meth, c, A⟩ := C
  obtain ⟨hx, hb, hr, htz, hown, hlocks, hml, hE, hK, hA⟩ := X
  intro H locs ls hl hP hD hS
  have hl : lv_has ls 2 [(0, .ref (a 0)), (1, .int x1)] := hl
  have hP : va_P (dC, dI) classes (mw k a f g) H := hP
  have hD : va_D A (mw k a f g) := hD
  show W p l e (z_rm 1 0 0) s m args below meth c H locs 0 0 _ (F0 m 0 ls [])
  refine lv_aload_n hx hb d_Mo_asks_0 rfl (lv_at hl 0 rfl) ?_
  refine lv_aload_n hx hb d_Mo_asks_1 rfl (lv_at hl 0 rfl) ?_
  refine lv_iload_n hx hb d_Mo_asks_2 rfl (lv_at hl 1 rfl) ?_
  have hFc := va_free (wc := mw k a f g) hD hS hA [0, 1, 2, 3, 4, 5, 6, 7, 8, 9, 10, 11, 12, 13, 14, 15, 16, 17, 18] rfl
  refine va_calli (va_runV (As := [.int x1]) (rest := [.ref (a 0)]) ⟨hx, hb, hml, hown, htz⟩ (m_3 H.size) (cwV 1 htz (z_gV (fun _ h => h) km_Mo_151 in_Mo_isThere se_Mo_isThere ini_Mo m_Mo_isThere) rfl rfl rfl (by decide +kernel) ⟨(Nat.le_of_ble_eq_true rfl), (Nat.le_of_ble_eq_true rfl)⟩) ⟨z_blind, va_recv hK hP (ci := 4) (q0 := 0) rfl rfl, fun U hU hW => ⟨rfl, by rw [hU], hE.call hS hFc hU hW, by rw [hU]; exact hP, va_K.moved hW.alike hK, hD.weaken (fun _ _ _ _ => trivial)⟩⟩ rfl rfl hl.1 rfl (lv_room (Nat.le_of_ble_eq_true rfl)) d_Mo_asks_3 ⟨(Nat.le_of_ble_eq_true rfl), (Nat.le_of_ble_eq_true rfl)⟩) hS (fun q _ h => hFc q h) hFc (fun r u t H1 locs ht hvm hw hB hz1 hk1 hS => ?_)
  obtain ⟨hP1, hK1, hD1⟩ := hB
  rw [ht] at hP1
  exact k_3 r _ _ hw H1 locs ls (lv_sub hl [0, 1] rfl) hP1 (hD1.weaken (fun _ q _ h => hFc _ h)) hS
set_option maxHeartbeats 1000000 in
set_option maxRecDepth 100000 in
theorem k_Mo_asks_6 {C : CT} (X : cM C "QuestionTextModel" b_Mo_asks 2 none) (Post : FT → GT → Prop) (x1 : Int32) (y0 : Int32) (f : FT) (g : GT)
    (k_14 : (y0 = 0) → zn_asks C Post 14 [(0, .ref (ad C.1 0)), (1, .int x1)] [.int 0, .ref (ad C.1 0)] f g)
    (k_14_1 : (¬ y0 = 0) → zn_asks C Post 14 [(0, .ref (ad C.1 0)), (1, .int x1)] [.int x1, .ref (ad C.1 0)] f g) : zn_asks C Post 6 [(0, .ref (ad C.1 0)), (1, .int x1)] [.int y0, .ref (ad C.1 0)] f g := by
  obtain ⟨⟨l, dC, dI, k, a⟩, p, e, s, m, args, below, meth, c, A⟩ := C
  obtain ⟨hx, hb, hr, htz, hown, hlocks, hml, hE, hK, hA⟩ := X
  intro H locs ls hl hP hD hS
  have hl : lv_has ls 2 [(0, .ref (a 0)), (1, .int x1)] := hl
  have hP : va_P (dC, dI) classes (mw k a f g) H := hP
  have hD : va_D A (mw k a f g) := hD
  show W p l e (z_rm 1 0 0) s m args below meth c H locs 0 0 _ (F0 m 6 ls [.int y0, .ref (a 0)])
  refine lv_if_eq (tgt := 13) hx hb d_Mo_asks_6 (by decide) (fun c_6 => ?_) (fun c_6 => ?_)
  · refine lv_iconst (v := 0) hx hb d_Mo_asks_13 (by decide) ?_
    exact (k_14 c_6) H locs ls (lv_sub hl [0, 1] rfl) hP hD hS
  · refine lv_iload_n hx hb d_Mo_asks_9 rfl (lv_at hl 1 rfl) ?_
    refine lv_goto (tgt := 14) hx hb d_Mo_asks_10 (by decide) ?_
    exact (k_14_1 c_6) H locs ls (lv_sub hl [0, 1] rfl) hP hD hS
set_option maxHeartbeats 1000000 in
set_option maxRecDepth 100000 in
theorem k_Mo_asks_14 {C : CT} (X : cM C "QuestionTextModel" b_Mo_asks 2 none) (Post : FT → GT → Prop) (x1 : Int32) (y0 : Int32) (f : FT) (g : GT)
    (h_37 : (¬ y0 = 0) → vp_in (f 12) 40)
    (q_48 : (¬ y0 = 0) → Post (va_up (va_up f 10 y0) 12 ((f 12) + 1)) (va_up g 15 (upd (g 15) (f 12 : Int32).toNatClampNeg y0)))
    (q_24 : (y0 = 0) → Post (va_up f 10 y0) g) : zn_asks C Post 14 [(0, .ref (ad C.1 0)), (1, .int x1)] [.int y0, .ref (ad C.1 0)] f g := by
  obtain ⟨⟨l, dC, dI, k, a⟩, p, e, s, m, args, below, meth, c, A⟩ := C
  obtain ⟨hx, hb, hr, htz, hown, hlocks, hml, hE, hK, hA⟩ := X
  intro H locs ls hl hP hD hS
  have hl : lv_has ls 2 [(0, .ref (a 0)), (1, .int x1)] := hl
  have hP : va_P (dC, dI) classes (mw k a f g) H := hP
  have hD : va_D A (mw k a f g) := hD
  show W p l e (z_rm 1 0 0) s m args below meth c H locs 0 0 _ (F0 m 14 ls [.int y0, .ref (a 0)])
  refine va_put (D := (dC, dI)) (ci := 4) (v := .int y0) (ty := .int) (C := R_Mo) (T := F_Mo) (N := 31) hx hb htz i_Mo t_Mo o_Mo n_Mo hown hK hP hD hS 0 rfl rfl 25 (by decide) (htz _ kf_Mo_155) (fun _ h9 => h9) rfl (by decide +kernel) rfl rfl (Nat.le_of_ble_eq_true rfl) d_Mo_asks_14 (fun H locs hP hD hS => ?_)
  replace hP := mf_10 (v := y0) hP
  replace hD := md_10 (v := y0) hD
  refine lv_aload_n hx hb d_Mo_asks_17 rfl (lv_at hl 0 rfl) ?_
  refine va_get (D := (dC, dI)) (ci := 4) (v := .int y0) (C := R_Mo) (T := F_Mo) (N := 31) hx hb htz i_Mo hown hK hP 0 rfl rfl 25 (by decide) (htz _ kf_Mo_155) (fun _ h9 => h9) rfl d_Mo_asks_18 ?_
  refine lv_if_ne (tgt := 25) hx hb d_Mo_asks_21 (by decide) (fun c_21 => ?_) (fun c_21 => ?_)
  · refine lv_aload_n hx hb d_Mo_asks_25 rfl (lv_at hl 0 rfl) ?_
    refine va_get (D := (dC, dI)) (ci := 4) (v := .ref (a 16)) (C := R_Mo) (T := F_Mo) (N := 31) hx hb htz i_Mo hown hK hP 0 rfl rfl 28 (by decide) (htz _ kf_Mo_60) (fun _ h9 => h9) rfl d_Mo_asks_26 ?_
    refine lv_aload_n hx hb d_Mo_asks_29 rfl (lv_at hl 0 rfl) ?_
    refine va_get (D := (dC, dI)) (ci := 4) (v := .int (f 12)) (C := R_Mo) (T := F_Mo) (N := 31) hx hb htz i_Mo hown hK hP 0 rfl rfl 27 (by decide) (htz _ kf_Mo_158) (fun _ h9 => h9) rfl d_Mo_asks_30 ?_
    refine lv_aload_n hx hb d_Mo_asks_33 rfl (lv_at hl 0 rfl) ?_
    refine va_get (D := (dC, dI)) (ci := 4) (v := .int y0) (C := R_Mo) (T := F_Mo) (N := 31) hx hb htz i_Mo hown hK hP 0 rfl rfl 25 (by decide) (htz _ kf_Mo_155) (fun _ h9 => h9) rfl d_Mo_asks_34 ?_
    refine va_iast hx hb hK hP hD hS 16 0 rfl rfl (h_37 c_21) d_Mo_asks_37 (fun H locs hP hD hS => ?_)
    replace hP := mg_15 (c := upd (g 15) (f 12 : Int32).toNatClampNeg y0) hP
    replace hD := mh_15 (c := upd (g 15) (f 12 : Int32).toNatClampNeg y0) hD
    refine lv_aload_n hx hb d_Mo_asks_38 rfl (lv_at hl 0 rfl) ?_
    refine lv_dup hx hb d_Mo_asks_39 rfl ?_
    refine va_get (D := (dC, dI)) (ci := 4) (v := .int (f 12)) (C := R_Mo) (T := F_Mo) (N := 31) hx hb htz i_Mo hown hK hP 0 rfl rfl 27 (by decide) (htz _ kf_Mo_158) (fun _ h9 => h9) rfl d_Mo_asks_40 ?_
    refine lv_iconst (v := 1) hx hb d_Mo_asks_43 (by decide) ?_
    refine lv_iadd hx hb d_Mo_asks_44 ?_
    refine va_put (D := (dC, dI)) (ci := 4) (v := .int ((f 12) + 1)) (ty := .int) (C := R_Mo) (T := F_Mo) (N := 31) hx hb htz i_Mo t_Mo o_Mo n_Mo hown hK hP hD hS 0 rfl rfl 27 (by decide) (htz _ kf_Mo_158) (fun _ h9 => h9) rfl (by decide +kernel) rfl rfl (Nat.le_of_ble_eq_true rfl) d_Mo_asks_45 (fun H locs hP hD hS => ?_)
    replace hP := mf_12 (v := (f 12) + 1) hP
    replace hD := md_12 (v := (f 12) + 1) hD
    exact W.vret hx hb hr (fun t ht hW => ⟨⟨(va_up (va_up f 10 y0) 12 ((f 12) + 1), va_up g 15 (upd (g 15) (f 12 : Int32).toNatClampNeg y0)), rfl, (q_48 c_21), by rw [ht]; exact hP, va_K.moved hW.alike hK, hD⟩, hS.F ht⟩) hS.2.2 d_Mo_asks_48
  · exact W.vret hx hb hr (fun t ht hW => ⟨⟨(va_up f 10 y0, g), rfl, (q_24 c_21), by rw [ht]; exact hP, va_K.moved hW.alike hK, hD⟩, hS.F ht⟩) hS.2.2 d_Mo_asks_24
set_option maxHeartbeats 1000000 in
set_option maxRecDepth 100000 in
theorem e_Mo_asks (T : ST) (Post : FT → GT → Prop) (x1 : Int32) (f : FT) (g : GT) (h : ∀ C : CT, C.1 = T → cM C "QuestionTextModel" b_Mo_asks 2 none → zn_asks C Post 0 [(0, .ref (ad C.1 0)), (1, .int x1)] [] f g) : mV T y_Mo_asks (Cond.code y_Mo_asks b_Mo_asks 2 none) 1 [.ref (ad T 0), .int x1] f g Post := by
  obtain ⟨l, dC, dI, k, a⟩ := T
  intro sz
  refine Met.ofW (cc := b_Mo_asks) (maxL := 2) (ret := none) (by decide) rfl ?_
  intro p e s m args below meth c s₁ B hml hv
  obtain ⟨rfl, hsz, hE, hP, hK, hD0⟩ := hv
  have hts := atoms_spec (ws := (Cond.code y_Mo_asks b_Mo_asks 2 none) :: z_T) B.pre
  have htz : ∀ w ∈ z_T, w.before _ s = true := fun w h => hts w (z_cons w h)
  subst hsz
  have hD := hD0.self (sz := s.heap.size)
  generalize hAe : va_A (mw k a f g) s.heap.size = A at hD hE ⊢
  have hA : ∀ q : Nat, s.heap.size ≤ q → A q := fun q h => by rw [← hAe]; exact Or.inr h
  have hl := lv_entry ([.ref (a 0), .int x1]) (n := 2) (Nat.le_of_ble_eq_true rfl)
  rw [lg_entry_eq]
  generalize (lg_sl ([.ref (a 0), .int x1]) ++ List.replicate (2 - (lg_sl ([.ref (a 0), .int x1])).length) Slot.unset).toArray = ls at hl ⊢
  exact h ((l, dC, dI, k, a), p, e, s, m, ([.ref (a 0), .int x1] : List Value).toArray, below, meth, c, A) rfl ⟨B.exec, B.bytes, B.returns, htz, findClass_of_methodNamed B.named, B.notSynchronized, hml, hE, hK, hA⟩ s.heap [] ls hl hP hD va_S.rf
def zn_first (C : CT) (Post : Int32 → FT → GT → Prop) (pc : Nat) (loc : List (Nat × Value)) (st : List Value) (f : FT) (g : GT) : Prop := zW C (z_rm 2 0 0) 3 (qI C Post) 0 0 pc loc st (mM C.1 f g)
set_option maxHeartbeats 1000000 in
set_option maxRecDepth 100000 in
theorem k_Mo_first_0 {C : CT} (X : cM C "QuestionTextModel" b_Mo_first 3 (some .int)) (Post : Int32 → FT → GT → Prop) {P_5 : Int32 → FT → GT → Prop} (x1 : Int32) (f : FT) (g : GT)
    (m_5 : mI C.1 y_Mo_in (Cond.code y_Mo_in b_Mo_in 3 (some .boolean)) 0 [.int x1, .int 1, .int 9] f g P_5)
    (k_5 : ∀ (r : Int32) (f1 : FT) (g1 : GT), P_5 r f1 g1 → zn_first C Post 8 [(0, .ref (ad C.1 0)), (1, .int x1)] [.int r, .ref (ad C.1 0)] f1 g1) : zn_first C Post 0 [(0, .ref (ad C.1 0)), (1, .int x1)] [] f g := by
  obtain ⟨⟨l, dC, dI, k, a⟩, p, e, s, m, args, below, meth, c, A⟩ := C
  obtain ⟨hx, hb, hr, htz, hown, hlocks, hml, hE, hK, hA⟩ := X
  intro H locs ls hl hP hD hS
  have hl : lv_has ls 3 [(0, .ref (a 0)), (1, .int x1)] := hl
  have hP : va_P (dC, dI) classes (mw k a f g) H := hP
  have hD : va_D A (mw k a f g) := hD
  show W p l e (z_rm 2 0 0) s m args below meth c H locs 0 0 _ (F0 m 0 ls [])
  refine lv_aload_n hx hb d_Mo_first_0 rfl (lv_at hl 0 rfl) ?_
  refine lv_iload_n hx hb d_Mo_first_1 rfl (lv_at hl 1 rfl) ?_
  refine lv_iconst (v := 1) hx hb d_Mo_first_2 (by decide) ?_
  refine lv_bipush (v := 9) hx hb d_Mo_first_3 (by decide) ?_
  have hFc := va_free (wc := mw k a f g) hD hS hA [0, 1, 2, 3, 4, 5, 6, 7, 8, 9, 10, 11, 12, 13, 14, 15, 16, 17, 18] rfl
  refine va_calli (va_runS (As := [.int x1, .int 1, .int 9]) (rest := [.ref (a 0)]) ⟨hx, hb, hml, hown, htz⟩ (m_5 H.size) (va_cwS 3 htz (z_gS (fun _ h => h) km_Mo_72 st_Mo_in ini_Mo m_Mo_in) rfl rfl rfl (by decide +kernel) ⟨(Nat.le_of_ble_eq_true rfl), (Nat.le_of_ble_eq_true rfl)⟩) ⟨z_blind, fun U hU hW => ⟨rfl, by rw [hU], hE.call hS hFc hU hW, by rw [hU]; exact hP, va_K.moved hW.alike hK, hD.weaken (fun _ _ _ _ => trivial)⟩⟩ rfl rfl hl.1 rfl (lv_room (Nat.le_of_ble_eq_true rfl)) d_Mo_first_5 ⟨(Nat.le_of_ble_eq_true rfl), (Nat.le_of_ble_eq_true rfl)⟩) hS (fun q _ h => hFc q h) hFc (fun r u t H1 locs ht hvm hw hB hz1 hk1 hS => ?_)
  obtain ⟨hP1, hK1, hD1⟩ := hB
  rw [ht] at hP1
  exact k_5 r _ _ hw H1 locs ls (lv_sub hl [0, 1] rfl) hP1 (hD1.weaken (fun _ q _ h => hFc _ h)) hS
set_option maxHeartbeats 1000000 in
set_option maxRecDepth 100000 in
theorem k_Mo_first_8 {C : CT} (X : cM C "QuestionTextModel" b_Mo_first 3 (some .int)) (Post : Int32 → FT → GT → Prop) {P_26 : Int32 → FT → GT → Prop} (x1 : Int32) (y0 : Int32) (f : FT) (g : GT)
    (k_46 : (y0 = 0) → zn_first C Post 46 [(0, .ref (ad C.1 0)), (1, .int x1)] [.ref (ad C.1 0)] f g)
    (m_26 : (¬ y0 = 0) → mI C.1 y_Mo_in (Cond.code y_Mo_in b_Mo_in 3 (some .boolean)) 0 [.int x1, .int 1, .int 9] f g P_26)
    (k_26 : (¬ y0 = 0) → ∀ (r : Int32) (f1 : FT) (g1 : GT), P_26 r f1 g1 → zn_first C Post 29 [(0, .ref (ad C.1 0)), (1, .int x1)] [.int r, .int ((f 4) * 10), .ref (ad C.1 10), .ref (ad C.1 0)] f1 g1) : zn_first C Post 8 [(0, .ref (ad C.1 0)), (1, .int x1)] [.int y0, .ref (ad C.1 0)] f g := by
  obtain ⟨⟨l, dC, dI, k, a⟩, p, e, s, m, args, below, meth, c, A⟩ := C
  obtain ⟨hx, hb, hr, htz, hown, hlocks, hml, hE, hK, hA⟩ := X
  intro H locs ls hl hP hD hS
  have hl : lv_has ls 3 [(0, .ref (a 0)), (1, .int x1)] := hl
  have hP : va_P (dC, dI) classes (mw k a f g) H := hP
  have hD : va_D A (mw k a f g) := hD
  show W p l e (z_rm 2 0 0) s m args below meth c H locs 0 0 _ (F0 m 8 ls [.int y0, .ref (a 0)])
  refine lv_if_eq (tgt := 46) hx hb d_Mo_first_8 (by decide) (fun c_8 => ?_) (fun c_8 => ?_)
  · exact (k_46 c_8) H locs ls (lv_sub hl [0, 1] rfl) hP hD hS
  · refine lv_aload_n hx hb d_Mo_first_11 rfl (lv_at hl 0 rfl) ?_
    refine va_get (D := (dC, dI)) (ci := 4) (v := .ref (a 10)) (C := R_Mo) (T := F_Mo) (N := 31) hx hb htz i_Mo hown hK hP 0 rfl rfl 14 (by decide) (htz _ kf_Mo_42) (fun _ h9 => h9) rfl d_Mo_first_12 ?_
    refine lv_aload_n hx hb d_Mo_first_15 rfl (lv_at hl 0 rfl) ?_
    refine va_get (D := (dC, dI)) (ci := 4) (v := .int (f 4)) (C := R_Mo) (T := F_Mo) (N := 31) hx hb htz i_Mo hown hK hP 0 rfl rfl 5 (by decide) (htz _ kf_Mo_126) (fun _ h9 => h9) rfl d_Mo_first_16 ?_
    refine lv_bipush (v := 10) hx hb d_Mo_first_19 (by decide) ?_
    refine lv_imul hx hb d_Mo_first_21 ?_
    refine lv_iload_n hx hb d_Mo_first_22 rfl (lv_at hl 1 rfl) ?_
    refine lv_iconst (v := 1) hx hb d_Mo_first_23 (by decide) ?_
    refine lv_bipush (v := 9) hx hb d_Mo_first_24 (by decide) ?_
    have hFc := va_free (wc := mw k a f g) hD hS hA [0, 1, 2, 3, 4, 5, 6, 7, 8, 9, 10, 11, 12, 13, 14, 15, 16, 17, 18] rfl
    refine va_calli (va_runS (As := [.int x1, .int 1, .int 9]) (rest := [.int ((f 4) * 10), .ref (a 10), .ref (a 0)]) ⟨hx, hb, hml, hown, htz⟩ ((m_26 c_8) H.size) (va_cwS 3 htz (z_gS (fun _ h => h) km_Mo_72 st_Mo_in ini_Mo m_Mo_in) rfl rfl rfl (by decide +kernel) ⟨(Nat.le_of_ble_eq_true rfl), (Nat.le_of_ble_eq_true rfl)⟩) ⟨z_blind, fun U hU hW => ⟨rfl, by rw [hU], hE.call hS hFc hU hW, by rw [hU]; exact hP, va_K.moved hW.alike hK, hD.weaken (fun _ _ _ _ => trivial)⟩⟩ rfl rfl hl.1 rfl (lv_room (Nat.le_of_ble_eq_true rfl)) d_Mo_first_26 ⟨(Nat.le_of_ble_eq_true rfl), (Nat.le_of_ble_eq_true rfl)⟩) hS (fun q _ h => hFc q h) hFc (fun r u t H1 locs ht hvm hw hB hz1 hk1 hS => ?_)
    obtain ⟨hP1, hK1, hD1⟩ := hB
    rw [ht] at hP1
    exact (k_26 c_8) r _ _ hw H1 locs ls (lv_sub hl [0, 1] rfl) hP1 (hD1.weaken (fun _ q _ h => hFc _ h)) hS
set_option maxHeartbeats 1000000 in
set_option maxRecDepth 100000 in
theorem k_Mo_first_29 {C : CT} (X : cM C "QuestionTextModel" b_Mo_first 3 (some .int)) (Post : Int32 → FT → GT → Prop) (x1 : Int32) (y0 : Int32) (y1 : Int32) (f : FT) (g : GT)
    (k_37 : (y0 = 0) → zn_first C Post 37 [(0, .ref (ad C.1 0)), (1, .int x1)] [.int 0, .int y1, .ref (ad C.1 10), .ref (ad C.1 0)] f g)
    (k_37_1 : (¬ y0 = 0) → zn_first C Post 37 [(0, .ref (ad C.1 0)), (1, .int x1)] [.int x1, .int y1, .ref (ad C.1 10), .ref (ad C.1 0)] f g) : zn_first C Post 29 [(0, .ref (ad C.1 0)), (1, .int x1)] [.int y0, .int y1, .ref (ad C.1 10), .ref (ad C.1 0)] f g := by
  obtain ⟨⟨l, dC, dI, k, a⟩, p, e, s, m, args, below, meth, c, A⟩ := C
  obtain ⟨hx, hb, hr, htz, hown, hlocks, hml, hE, hK, hA⟩ := X
  intro H locs ls hl hP hD hS
  have hl : lv_has ls 3 [(0, .ref (a 0)), (1, .int x1)] := hl
  have hP : va_P (dC, dI) classes (mw k a f g) H := hP
  have hD : va_D A (mw k a f g) := hD
  show W p l e (z_rm 2 0 0) s m args below meth c H locs 0 0 _ (F0 m 29 ls [.int y0, .int y1, .ref (a 10), .ref (a 0)])
  refine lv_if_eq (tgt := 36) hx hb d_Mo_first_29 (by decide) (fun c_29 => ?_) (fun c_29 => ?_)
  · refine lv_iconst (v := 0) hx hb d_Mo_first_36 (by decide) ?_
    exact (k_37 c_29) H locs ls (lv_sub hl [0, 1] rfl) hP hD hS
  · refine lv_iload_n hx hb d_Mo_first_32 rfl (lv_at hl 1 rfl) ?_
    refine lv_goto (tgt := 37) hx hb d_Mo_first_33 (by decide) ?_
    exact (k_37_1 c_29) H locs ls (lv_sub hl [0, 1] rfl) hP hD hS
set_option maxHeartbeats 1000000 in
set_option maxRecDepth 100000 in
theorem k_Mo_first_37 {C : CT} (X : cM C "QuestionTextModel" b_Mo_first 3 (some .int)) (Post : Int32 → FT → GT → Prop) (x1 : Int32) (y0 : Int32) (y1 : Int32) (f : FT) (g : GT)
    (h_38 : vp_in (y1 + y0) 100)
    (k_46 : (g 9 (y1 + y0 : Int32).toNatClampNeg ≤ 0) → zn_first C Post 46 [(0, .ref (ad C.1 0)), (1, .int x1)] [.ref (ad C.1 0)] f g)
    (k_47 : (¬ g 9 (y1 + y0 : Int32).toNatClampNeg ≤ 0) → zn_first C Post 47 [(0, .ref (ad C.1 0)), (1, .int x1)] [.int 1, .ref (ad C.1 0)] f g) : zn_first C Post 37 [(0, .ref (ad C.1 0)), (1, .int x1)] [.int y0, .int y1, .ref (ad C.1 10), .ref (ad C.1 0)] f g := by
  obtain ⟨⟨l, dC, dI, k, a⟩, p, e, s, m, args, below, meth, c, A⟩ := C
  obtain ⟨hx, hb, hr, htz, hown, hlocks, hml, hE, hK, hA⟩ := X
  intro H locs ls hl hP hD hS
  have hl : lv_has ls 3 [(0, .ref (a 0)), (1, .int x1)] := hl
  have hP : va_P (dC, dI) classes (mw k a f g) H := hP
  have hD : va_D A (mw k a f g) := hD
  show W p l e (z_rm 2 0 0) s m args below meth c H locs 0 0 _ (F0 m 37 ls [.int y0, .int y1, .ref (a 10), .ref (a 0)])
  refine lv_iadd hx hb d_Mo_first_37 ?_
  refine va_iald hx hb hK hP 10 0 rfl rfl h_38 d_Mo_first_38 ?_
  refine lv_if_le (tgt := 46) hx hb d_Mo_first_39 (by decide) (fun c_39 => ?_) (fun c_39 => ?_)
  · exact (k_46 c_39) H locs ls (lv_sub hl [0, 1] rfl) hP hD hS
  · refine lv_iconst (v := 1) hx hb d_Mo_first_42 (by decide) ?_
    refine lv_goto (tgt := 47) hx hb d_Mo_first_43 (by decide) ?_
    exact (k_47 c_39) H locs ls (lv_sub hl [0, 1] rfl) hP hD hS
set_option maxHeartbeats 1000000 in
set_option maxRecDepth 100000 in
theorem k_Mo_first_46 {C : CT} (X : cM C "QuestionTextModel" b_Mo_first 3 (some .int)) (Post : Int32 → FT → GT → Prop) (x1 : Int32) (f : FT) (g : GT)
    (k_47 : zn_first C Post 47 [(0, .ref (ad C.1 0)), (1, .int x1)] [.int 0, .ref (ad C.1 0)] f g) : zn_first C Post 46 [(0, .ref (ad C.1 0)), (1, .int x1)] [.ref (ad C.1 0)] f g := by
  obtain ⟨⟨l, dC, dI, k, a⟩, p, e, s, m, args, below, meth, c, A⟩ := C
  obtain ⟨hx, hb, hr, htz, hown, hlocks, hml, hE, hK, hA⟩ := X
  intro H locs ls hl hP hD hS
  have hl : lv_has ls 3 [(0, .ref (a 0)), (1, .int x1)] := hl
  have hP : va_P (dC, dI) classes (mw k a f g) H := hP
  have hD : va_D A (mw k a f g) := hD
  show W p l e (z_rm 2 0 0) s m args below meth c H locs 0 0 _ (F0 m 46 ls [.ref (a 0)])
  refine lv_iconst (v := 0) hx hb d_Mo_first_46 (by decide) ?_
  exact k_47 H locs ls (lv_sub hl [0, 1] rfl) hP hD hS
set_option maxHeartbeats 1000000 in
set_option maxRecDepth 100000 in
theorem k_Mo_first_47 {C : CT} (X : cM C "QuestionTextModel" b_Mo_first 3 (some .int)) (Post : Int32 → FT → GT → Prop) {P_47 : Int32 → FT → GT → Prop} (x1 : Int32) (y0 : Int32) (f : FT) (g : GT)
    (m_47 : mI C.1 y_Mo_says (Cond.code y_Mo_says b_Mo_says 2 (some .boolean)) 0 [.ref (ad C.1 0), .int y0] f g P_47)
    (k_47 : ∀ (r : Int32) (f1 : FT) (g1 : GT), P_47 r f1 g1 → zn_first C Post 50 [(0, .ref (ad C.1 0)), (1, .int x1)] [.int r] f1 g1) : zn_first C Post 47 [(0, .ref (ad C.1 0)), (1, .int x1)] [.int y0, .ref (ad C.1 0)] f g := by
  obtain ⟨⟨l, dC, dI, k, a⟩, p, e, s, m, args, below, meth, c, A⟩ := C
  obtain ⟨hx, hb, hr, htz, hown, hlocks, hml, hE, hK, hA⟩ := X
  intro H locs ls hl hP hD hS
  have hl : lv_has ls 3 [(0, .ref (a 0)), (1, .int x1)] := hl
  have hP : va_P (dC, dI) classes (mw k a f g) H := hP
  have hD : va_D A (mw k a f g) := hD
  show W p l e (z_rm 2 0 0) s m args below meth c H locs 0 0 _ (F0 m 47 ls [.int y0, .ref (a 0)])
  have hFc := va_free (wc := mw k a f g) hD hS hA [0, 1, 2, 3, 4, 5, 6, 7, 8, 9, 10, 11, 12, 13, 14, 15, 16, 17, 18] rfl
  refine va_calli (va_runV (As := [.int y0]) (rest := []) ⟨hx, hb, hml, hown, htz⟩ (m_47 H.size) (cwV 1 htz (z_gV (fun _ h => h) km_Mo_147 in_Mo_says se_Mo_says ini_Mo m_Mo_says) rfl rfl rfl (by decide +kernel) ⟨(Nat.le_of_ble_eq_true rfl), (Nat.le_of_ble_eq_true rfl)⟩) ⟨z_blind, va_recv hK hP (ci := 4) (q0 := 0) rfl rfl, fun U hU hW => ⟨rfl, by rw [hU], hE.call hS hFc hU hW, by rw [hU]; exact hP, va_K.moved hW.alike hK, hD.weaken (fun _ _ _ _ => trivial)⟩⟩ rfl rfl hl.1 rfl (lv_room (Nat.le_of_ble_eq_true rfl)) d_Mo_first_47 ⟨(Nat.le_of_ble_eq_true rfl), (Nat.le_of_ble_eq_true rfl)⟩) hS (fun q _ h => hFc q h) hFc (fun r u t H1 locs ht hvm hw hB hz1 hk1 hS => ?_)
  obtain ⟨hP1, hK1, hD1⟩ := hB
  rw [ht] at hP1
  exact k_47 r _ _ hw H1 locs ls (lv_sub hl [0, 1] rfl) hP1 (hD1.weaken (fun _ q _ h => hFc _ h)) hS
set_option maxHeartbeats 1000000 in
set_option maxRecDepth 100000 in
theorem k_Mo_first_50 {C : CT} (X : cM C "QuestionTextModel" b_Mo_first 3 (some .int)) (Post : Int32 → FT → GT → Prop) (x1 : Int32) (y0 : Int32) (f : FT) (g : GT)
    (k_72 : (¬ y0 = 0) → zn_first C Post 72 [(0, .ref (ad C.1 0)), (1, .int x1), (2, .int 0)] [] (va_up (va_up (va_up f 9 x1) 11 0) 12 0) g)
    (q_54 : (y0 = 0) → Post (0) f g) : zn_first C Post 50 [(0, .ref (ad C.1 0)), (1, .int x1)] [.int y0] f g := by
  obtain ⟨⟨l, dC, dI, k, a⟩, p, e, s, m, args, below, meth, c, A⟩ := C
  obtain ⟨hx, hb, hr, htz, hown, hlocks, hml, hE, hK, hA⟩ := X
  intro H locs ls hl hP hD hS
  have hl : lv_has ls 3 [(0, .ref (a 0)), (1, .int x1)] := hl
  have hP : va_P (dC, dI) classes (mw k a f g) H := hP
  have hD : va_D A (mw k a f g) := hD
  show W p l e (z_rm 2 0 0) s m args below meth c H locs 0 0 _ (F0 m 50 ls [.int y0])
  refine lv_if_ne (tgt := 55) hx hb d_Mo_first_50 (by decide) (fun c_50 => ?_) (fun c_50 => ?_)
  · refine lv_aload_n hx hb d_Mo_first_55 rfl (lv_at hl 0 rfl) ?_
    refine lv_iload_n hx hb d_Mo_first_56 rfl (lv_at hl 1 rfl) ?_
    refine va_put (D := (dC, dI)) (ci := 4) (v := .int x1) (ty := .int) (C := R_Mo) (T := F_Mo) (N := 31) hx hb htz i_Mo t_Mo o_Mo n_Mo hown hK hP hD hS 0 rfl rfl 24 (by decide) (htz _ kf_Mo_141) (fun _ h9 => h9) rfl (by decide +kernel) rfl rfl (Nat.le_of_ble_eq_true rfl) d_Mo_first_57 (fun H locs hP hD hS => ?_)
    replace hP := mf_9 (v := x1) hP
    replace hD := md_9 (v := x1) hD
    refine lv_aload_n hx hb d_Mo_first_60 rfl (lv_at hl 0 rfl) ?_
    refine lv_iconst (v := 0) hx hb d_Mo_first_61 (by decide) ?_
    refine va_put (D := (dC, dI)) (ci := 4) (v := .int 0) (ty := .int) (C := R_Mo) (T := F_Mo) (N := 31) hx hb htz i_Mo t_Mo o_Mo n_Mo hown hK hP hD hS 0 rfl rfl 26 (by decide) (htz _ kf_Mo_161) (fun _ h9 => h9) rfl (by decide +kernel) rfl rfl (Nat.le_of_ble_eq_true rfl) d_Mo_first_62 (fun H locs hP hD hS => ?_)
    replace hP := mf_11 (v := 0) hP
    replace hD := md_11 (v := 0) hD
    refine lv_aload_n hx hb d_Mo_first_65 rfl (lv_at hl 0 rfl) ?_
    refine lv_iconst (v := 0) hx hb d_Mo_first_66 (by decide) ?_
    refine va_put (D := (dC, dI)) (ci := 4) (v := .int 0) (ty := .int) (C := R_Mo) (T := F_Mo) (N := 31) hx hb htz i_Mo t_Mo o_Mo n_Mo hown hK hP hD hS 0 rfl rfl 27 (by decide) (htz _ kf_Mo_158) (fun _ h9 => h9) rfl (by decide +kernel) rfl rfl (Nat.le_of_ble_eq_true rfl) d_Mo_first_67 (fun H locs hP hD hS => ?_)
    replace hP := mf_12 (v := 0) hP
    replace hD := md_12 (v := 0) hD
    refine lv_iconst (v := 0) hx hb d_Mo_first_70 (by decide) ?_
    refine lv_istore_n (lv' := [(2, .int 0), (0, .ref (a 0)), (1, .int x1)]) hx hb d_Mo_first_71 rfl hl (by decide) rfl (fun ls hl => ?_)
    exact (k_72 c_50) H locs ls (lv_sub hl [1, 2, 0] rfl) hP hD hS
  · refine lv_iconst (v := 0) hx hb d_Mo_first_53 (by decide) ?_
    exact W.iret (v := 0) hx hb hr (fun t ht hW => ⟨⟨_, (f, g), rfl, (q_54 c_50), by rw [ht]; exact hP, va_K.moved hW.alike hK, hD⟩, hS.F ht⟩) hS.2.2 d_Mo_first_54
set_option maxHeartbeats 1000000 in
set_option maxRecDepth 100000 in
theorem k_Mo_first_72 {C : CT} (X : cM C "QuestionTextModel" b_Mo_first 3 (some .int)) (Post : Int32 → FT → GT → Prop) {P_106 : FT → GT → Prop} (x1 : Int32) (x2 : Int32) (f : FT) (g : GT)
    (h_105 : (61 ≤ x2) → vp_in (((f 4) * 10) + x1) 100)
    (m_106 : (61 ≤ x2) → mV C.1 y_Mo_asks (Cond.code y_Mo_asks b_Mo_asks 2 none) 1 [.ref (ad C.1 0), .int (g 9 (((f 4) * 10) + x1 : Int32).toNatClampNeg)] f g P_106)
    (k_106 : (61 ≤ x2) → ∀ (f1 : FT) (g1 : GT), P_106 f1 g1 → zn_first C Post 109 [(0, .ref (ad C.1 0)), (1, .int x1), (2, .int x2)] [] f1 g1)
    (h_84 : (¬ 61 ≤ x2) → vp_in (x2) 61)
    (k_72 : (¬ 61 ≤ x2) → zn_first C Post 72 [(0, .ref (ad C.1 0)), (1, .int x1), (2, .int (x2 + 1))] [] f (va_up g 16 (upd (g 16) (x2 : Int32).toNatClampNeg (-1)))) : zn_first C Post 72 [(0, .ref (ad C.1 0)), (1, .int x1), (2, .int x2)] [] f g := by
  obtain ⟨⟨l, dC, dI, k, a⟩, p, e, s, m, args, below, meth, c, A⟩ := C
  obtain ⟨hx, hb, hr, htz, hown, hlocks, hml, hE, hK, hA⟩ := X
  intro H locs ls hl hP hD hS
  have hl : lv_has ls 3 [(0, .ref (a 0)), (1, .int x1), (2, .int x2)] := hl
  have hP : va_P (dC, dI) classes (mw k a f g) H := hP
  have hD : va_D A (mw k a f g) := hD
  show W p l e (z_rm 2 0 0) s m args below meth c H locs 0 0 _ (F0 m 72 ls [])
  refine lv_iload_n hx hb d_Mo_first_72 rfl (lv_at hl 2 rfl) ?_
  refine lv_bipush (v := 61) hx hb d_Mo_first_73 (by decide) ?_
  refine lv_icmp_ge (tgt := 91) hx hb d_Mo_first_75 (by decide) (fun c_75 => ?_) (fun c_75 => ?_)
  · refine lv_aload_n hx hb d_Mo_first_91 rfl (lv_at hl 0 rfl) ?_
    refine lv_aload_n hx hb d_Mo_first_92 rfl (lv_at hl 0 rfl) ?_
    refine va_get (D := (dC, dI)) (ci := 4) (v := .ref (a 10)) (C := R_Mo) (T := F_Mo) (N := 31) hx hb htz i_Mo hown hK hP 0 rfl rfl 14 (by decide) (htz _ kf_Mo_42) (fun _ h9 => h9) rfl d_Mo_first_93 ?_
    refine lv_aload_n hx hb d_Mo_first_96 rfl (lv_at hl 0 rfl) ?_
    refine va_get (D := (dC, dI)) (ci := 4) (v := .int (f 4)) (C := R_Mo) (T := F_Mo) (N := 31) hx hb htz i_Mo hown hK hP 0 rfl rfl 5 (by decide) (htz _ kf_Mo_126) (fun _ h9 => h9) rfl d_Mo_first_97 ?_
    refine lv_bipush (v := 10) hx hb d_Mo_first_100 (by decide) ?_
    refine lv_imul hx hb d_Mo_first_102 ?_
    refine lv_iload_n hx hb d_Mo_first_103 rfl (lv_at hl 1 rfl) ?_
    refine lv_iadd hx hb d_Mo_first_104 ?_
    refine va_iald hx hb hK hP 10 0 rfl rfl (h_105 c_75) d_Mo_first_105 ?_
    have hFc := va_free (wc := mw k a f g) hD hS hA [0, 1, 2, 3, 4, 5, 6, 7, 8, 9, 10, 11, 12, 13, 14, 15, 16, 17, 18] rfl
    refine va_callv (va_runV (As := [.int (g 9 (((f 4) * 10) + x1 : Int32).toNatClampNeg)]) (rest := []) ⟨hx, hb, hml, hown, htz⟩ ((m_106 c_75) H.size) (cwV 1 htz (z_gV (fun _ h => h) km_Mo_164 in_Mo_asks se_Mo_asks ini_Mo m_Mo_asks) rfl rfl rfl (by decide +kernel) ⟨(Nat.le_of_ble_eq_true rfl), (Nat.le_of_ble_eq_true rfl)⟩) ⟨z_blind, va_recv hK hP (ci := 4) (q0 := 0) rfl rfl, fun U hU hW => ⟨rfl, by rw [hU], hE.call hS hFc hU hW, by rw [hU]; exact hP, va_K.moved hW.alike hK, hD.weaken (fun _ _ _ _ => trivial)⟩⟩ rfl rfl hl.1 rfl (lv_room (Nat.le_of_ble_eq_true rfl)) d_Mo_first_106 ⟨(Nat.le_of_ble_eq_true rfl), (Nat.le_of_ble_eq_true rfl)⟩) hS (fun q _ h => hFc q h) hFc (fun u t H1 locs ht hvm hw hB hz1 hk1 hS => ?_)
    obtain ⟨hP1, hK1, hD1⟩ := hB
    rw [ht] at hP1
    exact (k_106 c_75) _ _ hw H1 locs ls (lv_sub hl [0, 1, 2] rfl) hP1 (hD1.weaken (fun _ q _ h => hFc _ h)) hS
  · refine lv_aload_n hx hb d_Mo_first_78 rfl (lv_at hl 0 rfl) ?_
    refine va_get (D := (dC, dI)) (ci := 4) (v := .ref (a 17)) (C := R_Mo) (T := F_Mo) (N := 31) hx hb htz i_Mo hown hK hP 0 rfl rfl 29 (by decide) (htz _ kf_Mo_63) (fun _ h9 => h9) rfl d_Mo_first_79 ?_
    refine lv_iload_n hx hb d_Mo_first_82 rfl (lv_at hl 2 rfl) ?_
    refine lv_iconst (v := -1) hx hb d_Mo_first_83 (by decide) ?_
    refine va_iast hx hb hK hP hD hS 17 0 rfl rfl (h_84 c_75) d_Mo_first_84 (fun H locs hP hD hS => ?_)
    replace hP := mg_16 (c := upd (g 16) (x2 : Int32).toNatClampNeg (-1)) hP
    replace hD := mh_16 (c := upd (g 16) (x2 : Int32).toNatClampNeg (-1)) hD
    refine lv_iinc (v := x2 + 1) (lv' := [(2, .int (x2 + 1)), (0, .ref (a 0)), (1, .int x1)]) hx hb d_Mo_first_85 hl (k := 2) rfl (rfl) (by decide) rfl (fun ls hl => ?_)
    refine lv_goto (tgt := 72) hx hb d_Mo_first_88 (by decide) ?_
    exact (k_72 c_75) H locs ls (lv_sub hl [1, 2, 0] rfl) hP hD hS
set_option maxHeartbeats 1000000 in
set_option maxRecDepth 100000 in
theorem k_Mo_first_109 {C : CT} (X : cM C "QuestionTextModel" b_Mo_first 3 (some .int)) (Post : Int32 → FT → GT → Prop) (x1 : Int32) (x2 : Int32) (f : FT) (g : GT)
    (q_113 : Post (f 10) f g) : zn_first C Post 109 [(0, .ref (ad C.1 0)), (1, .int x1), (2, .int x2)] [] f g := by
  obtain ⟨⟨l, dC, dI, k, a⟩, p, e, s, m, args, below, meth, c, A⟩ := C
  obtain ⟨hx, hb, hr, htz, hown, hlocks, hml, hE, hK, hA⟩ := X
  intro H locs ls hl hP hD hS
  have hl : lv_has ls 3 [(0, .ref (a 0)), (1, .int x1), (2, .int x2)] := hl
  have hP : va_P (dC, dI) classes (mw k a f g) H := hP
  have hD : va_D A (mw k a f g) := hD
  show W p l e (z_rm 2 0 0) s m args below meth c H locs 0 0 _ (F0 m 109 ls [])
  refine lv_aload_n hx hb d_Mo_first_109 rfl (lv_at hl 0 rfl) ?_
  refine va_get (D := (dC, dI)) (ci := 4) (v := .int (f 10)) (C := R_Mo) (T := F_Mo) (N := 31) hx hb htz i_Mo hown hK hP 0 rfl rfl 25 (by decide) (htz _ kf_Mo_155) (fun _ h9 => h9) rfl d_Mo_first_110 ?_
  exact W.iret (v := f 10) hx hb hr (fun t ht hW => ⟨⟨_, (f, g), rfl, q_113, by rw [ht]; exact hP, va_K.moved hW.alike hK, hD⟩, hS.F ht⟩) hS.2.2 d_Mo_first_113
set_option maxHeartbeats 1000000 in
set_option maxRecDepth 100000 in
theorem e_Mo_first (T : ST) (Post : Int32 → FT → GT → Prop) (x1 : Int32) (f : FT) (g : GT) (h : ∀ C : CT, C.1 = T → cM C "QuestionTextModel" b_Mo_first 3 (some .int) → zn_first C Post 0 [(0, .ref (ad C.1 0)), (1, .int x1)] [] f g) : mI T y_Mo_first (Cond.code y_Mo_first b_Mo_first 3 (some .int)) 2 [.ref (ad T 0), .int x1] f g Post := by
  obtain ⟨l, dC, dI, k, a⟩ := T
  intro sz
  refine Met.ofW (cc := b_Mo_first) (maxL := 3) (ret := (some .int)) (by decide) rfl ?_
  intro p e s m args below meth c s₁ B hml hv
  obtain ⟨rfl, hsz, hE, hP, hK, hD0⟩ := hv
  have hts := atoms_spec (ws := (Cond.code y_Mo_first b_Mo_first 3 (some .int)) :: z_T) B.pre
  have htz : ∀ w ∈ z_T, w.before _ s = true := fun w h => hts w (z_cons w h)
  subst hsz
  have hD := hD0.self (sz := s.heap.size)
  generalize hAe : va_A (mw k a f g) s.heap.size = A at hD hE ⊢
  have hA : ∀ q : Nat, s.heap.size ≤ q → A q := fun q h => by rw [← hAe]; exact Or.inr h
  have hl := lv_entry ([.ref (a 0), .int x1]) (n := 3) (Nat.le_of_ble_eq_true rfl)
  rw [lg_entry_eq]
  generalize (lg_sl ([.ref (a 0), .int x1]) ++ List.replicate (3 - (lg_sl ([.ref (a 0), .int x1])).length) Slot.unset).toArray = ls at hl ⊢
  exact h ((l, dC, dI, k, a), p, e, s, m, ([.ref (a 0), .int x1] : List Value).toArray, below, meth, c, A) rfl ⟨B.exec, B.bytes, B.returns, htz, findClass_of_methodNamed B.named, B.notSynchronized, hml, hE, hK, hA⟩ s.heap [] ls hl hP hD va_S.rf
def zn_questions (C : CT) (Post : Int32 → FT → GT → Prop) (pc : Nat) (loc : List (Nat × Value)) (st : List Value) (f : FT) (g : GT) : Prop := zW C (z_rm 0 0 0) 3 (qI C Post) 0 0 pc loc st (mM C.1 f g)
set_option maxHeartbeats 1000000 in
set_option maxRecDepth 100000 in
theorem k_Mo_questions_0 {C : CT} (X : cM C "QuestionTextModel" b_Mo_questions 3 (some .int)) (Post : Int32 → FT → GT → Prop) (f : FT) (g : GT)
    (k_4 : zn_questions C Post 4 [(0, .ref (ad C.1 0)), (1, .int 0), (2, .int 1)] [] f g) : zn_questions C Post 0 [(0, .ref (ad C.1 0))] [] f g := by
  obtain ⟨⟨l, dC, dI, k, a⟩, p, e, s, m, args, below, meth, c, A⟩ := C
  obtain ⟨hx, hb, hr, htz, hown, hlocks, hml, hE, hK, hA⟩ := X
  intro H locs ls hl hP hD hS
  have hl : lv_has ls 3 [(0, .ref (a 0))] := hl
  have hP : va_P (dC, dI) classes (mw k a f g) H := hP
  have hD : va_D A (mw k a f g) := hD
  show W p l e (z_rm 0 0 0) s m args below meth c H locs 0 0 _ (F0 m 0 ls [])
  refine lv_iconst (v := 0) hx hb d_Mo_questions_0 (by decide) ?_
  refine lv_istore_n (lv' := [(1, .int 0), (0, .ref (a 0))]) hx hb d_Mo_questions_1 rfl hl (by decide) rfl (fun ls hl => ?_)
  refine lv_iconst (v := 1) hx hb d_Mo_questions_2 (by decide) ?_
  refine lv_istore_n (lv' := [(2, .int 1), (1, .int 0), (0, .ref (a 0))]) hx hb d_Mo_questions_3 rfl hl (by decide) rfl (fun ls hl => ?_)
  exact k_4 H locs ls (lv_sub hl [2, 1, 0] rfl) hP hD hS
set_option maxHeartbeats 1000000 in
set_option maxRecDepth 100000 in
theorem k_Mo_questions_4 {C : CT} (X : cM C "QuestionTextModel" b_Mo_questions 3 (some .int)) (Post : Int32 → FT → GT → Prop) (x1 : Int32) (x2 : Int32) (f : FT) (g : GT)
    (q_37 : (61 ≤ x2) → Post (x1) f g)
    (h_23 : (¬ 61 ≤ x2) → vp_in (((f 4) * 61) + x2) 610)
    (k_30 : (¬ 61 ≤ x2) → (g 1 (((f 4) * 61) + x2 : Int32).toNatClampNeg = 0) → zn_questions C Post 30 [(0, .ref (ad C.1 0)), (1, .int x1), (2, .int x2)] [] f g)
    (k_30_1 : (¬ 61 ≤ x2) → (¬ g 1 (((f 4) * 61) + x2 : Int32).toNatClampNeg = 0) → zn_questions C Post 30 [(0, .ref (ad C.1 0)), (1, .int (x1 + 1)), (2, .int x2)] [] f g) : zn_questions C Post 4 [(0, .ref (ad C.1 0)), (1, .int x1), (2, .int x2)] [] f g := by
  obtain ⟨⟨l, dC, dI, k, a⟩, p, e, s, m, args, below, meth, c, A⟩ := C
  obtain ⟨hx, hb, hr, htz, hown, hlocks, hml, hE, hK, hA⟩ := X
  intro H locs ls hl hP hD hS
  have hl : lv_has ls 3 [(0, .ref (a 0)), (1, .int x1), (2, .int x2)] := hl
  have hP : va_P (dC, dI) classes (mw k a f g) H := hP
  have hD : va_D A (mw k a f g) := hD
  show W p l e (z_rm 0 0 0) s m args below meth c H locs 0 0 _ (F0 m 4 ls [])
  refine lv_iload_n hx hb d_Mo_questions_4 rfl (lv_at hl 2 rfl) ?_
  refine lv_bipush (v := 61) hx hb d_Mo_questions_5 (by decide) ?_
  refine lv_icmp_ge (tgt := 36) hx hb d_Mo_questions_7 (by decide) (fun c_7 => ?_) (fun c_7 => ?_)
  · refine lv_iload_n hx hb d_Mo_questions_36 rfl (lv_at hl 1 rfl) ?_
    exact W.iret (v := x1) hx hb hr (fun t ht hW => ⟨⟨_, (f, g), rfl, (q_37 c_7), by rw [ht]; exact hP, va_K.moved hW.alike hK, hD⟩, hS.F ht⟩) hS.2.2 d_Mo_questions_37
  · refine lv_aload_n hx hb d_Mo_questions_10 rfl (lv_at hl 0 rfl) ?_
    refine va_get (D := (dC, dI)) (ci := 4) (v := .ref (a 2)) (C := R_Mo) (T := F_Mo) (N := 31) hx hb htz i_Mo hown hK hP 0 rfl rfl 6 (by decide) (htz _ kf_Mo_17) (fun _ h9 => h9) rfl d_Mo_questions_11 ?_
    refine lv_aload_n hx hb d_Mo_questions_14 rfl (lv_at hl 0 rfl) ?_
    refine va_get (D := (dC, dI)) (ci := 4) (v := .int (f 4)) (C := R_Mo) (T := F_Mo) (N := 31) hx hb htz i_Mo hown hK hP 0 rfl rfl 5 (by decide) (htz _ kf_Mo_126) (fun _ h9 => h9) rfl d_Mo_questions_15 ?_
    refine lv_bipush (v := 61) hx hb d_Mo_questions_18 (by decide) ?_
    refine lv_imul hx hb d_Mo_questions_20 ?_
    refine lv_iload_n hx hb d_Mo_questions_21 rfl (lv_at hl 2 rfl) ?_
    refine lv_iadd hx hb d_Mo_questions_22 ?_
    refine va_zald hx hb hK hP 2 2 rfl rfl (h_23 c_7) d_Mo_questions_23 ?_
    refine lv_if_eq (tgt := 30) hx hb d_Mo_questions_24 (by decide) (fun c_24 => ?_) (fun c_24 => ?_)
    · exact (k_30 c_7 c_24) H locs ls (lv_sub hl [0, 1, 2] rfl) hP hD hS
    · refine lv_iinc (v := x1 + 1) (lv' := [(1, .int (x1 + 1)), (0, .ref (a 0)), (2, .int x2)]) hx hb d_Mo_questions_27 hl (k := 1) rfl (rfl) (by decide) rfl (fun ls hl => ?_)
      exact (k_30_1 c_7 c_24) H locs ls (lv_sub hl [1, 0, 2] rfl) hP hD hS
set_option maxHeartbeats 1000000 in
set_option maxRecDepth 100000 in
theorem k_Mo_questions_30 {C : CT} (X : cM C "QuestionTextModel" b_Mo_questions 3 (some .int)) (Post : Int32 → FT → GT → Prop) (x1 : Int32) (x2 : Int32) (f : FT) (g : GT)
    (k_4 : zn_questions C Post 4 [(0, .ref (ad C.1 0)), (1, .int x1), (2, .int (x2 + 1))] [] f g) : zn_questions C Post 30 [(0, .ref (ad C.1 0)), (1, .int x1), (2, .int x2)] [] f g := by
  obtain ⟨⟨l, dC, dI, k, a⟩, p, e, s, m, args, below, meth, c, A⟩ := C
  obtain ⟨hx, hb, hr, htz, hown, hlocks, hml, hE, hK, hA⟩ := X
  intro H locs ls hl hP hD hS
  have hl : lv_has ls 3 [(0, .ref (a 0)), (1, .int x1), (2, .int x2)] := hl
  have hP : va_P (dC, dI) classes (mw k a f g) H := hP
  have hD : va_D A (mw k a f g) := hD
  show W p l e (z_rm 0 0 0) s m args below meth c H locs 0 0 _ (F0 m 30 ls [])
  refine lv_iinc (v := x2 + 1) (lv' := [(2, .int (x2 + 1)), (0, .ref (a 0)), (1, .int x1)]) hx hb d_Mo_questions_30 hl (k := 2) rfl (rfl) (by decide) rfl (fun ls hl => ?_)
  refine lv_goto (tgt := 4) hx hb d_Mo_questions_33 (by decide) ?_
  exact k_4 H locs ls (lv_sub hl [1, 2, 0] rfl) hP hD hS
set_option maxHeartbeats 1000000 in
set_option maxRecDepth 100000 in
theorem e_Mo_questions (T : ST) (Post : Int32 → FT → GT → Prop) (f : FT) (g : GT) (h : ∀ C : CT, C.1 = T → cM C "QuestionTextModel" b_Mo_questions 3 (some .int) → zn_questions C Post 0 [(0, .ref (ad C.1 0))] [] f g) : mI T y_Mo_questions (Cond.code y_Mo_questions b_Mo_questions 3 (some .int)) 0 [.ref (ad T 0)] f g Post := by
  obtain ⟨l, dC, dI, k, a⟩ := T
  intro sz
  refine Met.ofW (cc := b_Mo_questions) (maxL := 3) (ret := (some .int)) (by decide) rfl ?_
  intro p e s m args below meth c s₁ B hml hv
  obtain ⟨rfl, hsz, hE, hP, hK, hD0⟩ := hv
  have hts := atoms_spec (ws := (Cond.code y_Mo_questions b_Mo_questions 3 (some .int)) :: z_T) B.pre
  have htz : ∀ w ∈ z_T, w.before _ s = true := fun w h => hts w (z_cons w h)
  subst hsz
  have hD := hD0.self (sz := s.heap.size)
  generalize hAe : va_A (mw k a f g) s.heap.size = A at hD hE ⊢
  have hA : ∀ q : Nat, s.heap.size ≤ q → A q := fun q h => by rw [← hAe]; exact Or.inr h
  have hl := lv_entry ([.ref (a 0)]) (n := 3) (Nat.le_of_ble_eq_true rfl)
  rw [lg_entry_eq]
  generalize (lg_sl ([.ref (a 0)]) ++ List.replicate (3 - (lg_sl ([.ref (a 0)])).length) Slot.unset).toArray = ls at hl ⊢
  exact h ((l, dC, dI, k, a), p, e, s, m, ([.ref (a 0)] : List Value).toArray, below, meth, c, A) rfl ⟨B.exec, B.bytes, B.returns, htz, findClass_of_methodNamed B.named, B.notSynchronized, hml, hE, hK, hA⟩ s.heap [] ls hl hP hD va_S.rf
