-- in the body of a method with a table of handlers; no stack traces
def cT (C : CT) (own : String) (b : ByteArray) (nL : Nat) (ret : Option FieldType) (tab : List ExceptionTableEntry) : Prop := cM C own b nL ret ∧ match C with
  | ((l, _, _, _, _), _, _, _, _, _, _, _, c, _) => c.exceptionTable.toList = tab ∧ l.stackTraces = false
def zc_TR_readTape (C : CT) (Post : Int32 → va_W → Prop) (MM : Nat) (SS : Nat) (c0 s0 pc : Nat) (loc : List (Nat × Value)) (st : List Value) (ws : va_W) : Prop := zW C (z_rm 7 MM SS) 3 (oI C MM SS Post) c0 s0 pc loc st ws
set_option maxHeartbeats 1000000 in
set_option maxRecDepth 100000 in
theorem k_TR_readTape_0 {C : CT} (X : cT C "QuestionText$TextReader" b_TR_readTape 3 (some .int) [⟨11, 60, 63, 55⟩]) (Post : Int32 → va_W → Prop) {P_1 : va_W → Prop} (f_t : FT) (g_t : GT) (r_r : Nat → Nat → Option Nat) (P : va_W) (MM : Nat) (SS : Nat) (c0 s0 : Nat)
    (b_1 : c0 ≤ MM ∧ s0 ≤ SS)
    (m_1 : uV C.1 y_TR_forgetRows (Cond.code y_TR_forgetRows b_TR_forgetRows 2 none) 0 0 0 [.ref (ad C.1 20)] (s_t C.1.2.2.2.1 C.1.2.2.2.2 f_t g_t ++ (s_r C.1.2.2.2.1 C.1.2.2.2.2 r_r)) P_1)
    (k_1 : ∀ (u : va_W), P_1 u → zc_TR_readTape C Post MM SS c0 s0 4 [(0, .ref (ad C.1 20))] [] (u ++ (P))) : zc_TR_readTape C Post MM SS c0 s0 0 [(0, .ref (ad C.1 20))] [] (s_t C.1.2.2.2.1 C.1.2.2.2.2 f_t g_t ++ (s_r C.1.2.2.2.1 C.1.2.2.2.2 r_r ++ (P))) := by
  obtain ⟨⟨l, dC, dI, k, a⟩, p, e, s, m, args, below, meth, c, A⟩ := C
  obtain ⟨⟨hx, hb, hr, htz, hown, hlocks, hml, hE, hK, hA⟩, hTab, hlt⟩ := X
  intro H locs ls hl hP hD hS
  have hl : lv_has ls 3 [(0, .ref (a 20))] := hl
  have hP : va_P (dC, dI) classes (s_t k a f_t g_t ++ (s_r k a r_r ++ (P))) H := hP
  have hD : va_D A (s_t k a f_t g_t ++ (s_r k a r_r ++ (P))) := hD
  show W p l e (z_rm 7 MM SS) s m args below meth c H locs c0 s0 _ (F0 m 0 ls [])
  refine lv_aload_n hx hb d_TR_readTape_0 rfl (lv_at hl 0 rfl) ?_
  have hPf : va_P (dC, dI) classes (([]) ++ ((s_t k a f_t g_t ++ (s_r k a r_r)) ++ (P))) H := hP
  have hDf : va_D A (([]) ++ ((s_t k a f_t g_t ++ (s_r k a r_r)) ++ (P))) := hD
  have hFc := zfree hDf hS hA
  refine va_callv (va_runV (As := []) (rest := []) ⟨hx, hb, hml, hown, htz⟩ (m_1 H.size) (cwV 0 htz (z_gV (fun _ h => h) km_TR_34 in_TR_forgetRows se_TR_forgetRows ini_TR m_TR_forgetRows) rfl rfl rfl (by decide +kernel) ⟨(Nat.le_of_ble_eq_true rfl), (Nat.le_of_ble_eq_true rfl)⟩) ⟨z_blind, va_recv hK hP (ci := 1) (q0 := 0) rfl rfl, fun U hU hW => ⟨rfl, by rw [hU], hE.call hS hFc hU hW, by rw [hU]; exact (zPc hPf), va_K.moved hW.alike hK, (zDc hDf)⟩⟩ rfl rfl hl.1 rfl (lv_room (Nat.le_of_ble_eq_true rfl)) d_TR_readTape_1 b_1) hS (fun q _ h => hFc q h) hFc (fun u t H1 locs ht hvm hw hB hz1 hk1 hS => ?_)
  obtain ⟨hP1, hK1, hD1⟩ := hB
  rw [ht] at hP1
  obtain ⟨hP, hD⟩ := zf hPf hDf hk1 hFc hP1 hD1
  exact k_1 _ hw H1 locs ls (lv_sub hl [0] rfl) hP hD hS
set_option maxHeartbeats 1000000 in
set_option maxRecDepth 100000 in
theorem k_TR_readTape_4 {C : CT} (X : cT C "QuestionText$TextReader" b_TR_readTape 3 (some .int) [⟨11, 60, 63, 55⟩]) (Post : Int32 → va_W → Prop) (f_t : FT) (g_t : GT) (r_r : Nat → Nat → Option Nat) (P : va_W) (MM : Nat) (SS : Nat) (c0 s0 : Nat)
    (k_13 : zc_TR_readTape C Post MM SS c0 s0 13 [(0, .ref (ad C.1 20)), (1, .int (-1)), (2, .int 0)] [] (s_t C.1.2.2.2.1 C.1.2.2.2.2 (va_up f_t 1 0) g_t ++ (s_r C.1.2.2.2.1 C.1.2.2.2.2 r_r ++ (P)))) : zc_TR_readTape C Post MM SS c0 s0 4 [(0, .ref (ad C.1 20))] [] (s_t C.1.2.2.2.1 C.1.2.2.2.2 f_t g_t ++ (s_r C.1.2.2.2.1 C.1.2.2.2.2 r_r ++ (P))) := by
  obtain ⟨⟨l, dC, dI, k, a⟩, p, e, s, m, args, below, meth, c, A⟩ := C
  obtain ⟨⟨hx, hb, hr, htz, hown, hlocks, hml, hE, hK, hA⟩, hTab, hlt⟩ := X
  intro H locs ls hl hP hD hS
  have hl : lv_has ls 3 [(0, .ref (a 20))] := hl
  have hP : va_P (dC, dI) classes (s_t k a f_t g_t ++ (s_r k a r_r ++ (P))) H := hP
  have hD : va_D A (s_t k a f_t g_t ++ (s_r k a r_r ++ (P))) := hD
  show W p l e (z_rm 7 MM SS) s m args below meth c H locs c0 s0 _ (F0 m 4 ls [])
  refine lv_aload_n hx hb d_TR_readTape_4 rfl (lv_at hl 0 rfl) ?_
  refine lv_iconst (v := 0) hx hb d_TR_readTape_5 (by decide) ?_
  refine va_put (D := (dC, dI)) (ci := 1) (v := .int 0) (ty := .int) (C := R_TR) (T := F_TR) (N := 5) hx hb htz i_TR t_TR o_TR n_TR hown hK hP hD hS 0 rfl rfl 4 (by decide) (htz _ kf_TR_31) (fun _ h9 => h9) rfl (by decide +kernel) rfl rfl (Nat.le_of_ble_eq_true rfl) d_TR_readTape_6 (fun H locs hP hD hS => ?_)
  have hP : va_P (dC, dI) classes (s_t k a (va_up f_t 1 0) g_t ++ (s_r k a r_r ++ (P))) H := hP
  have hD : va_D A (s_t k a (va_up f_t 1 0) g_t ++ (s_r k a r_r ++ (P))) := hD
  refine lv_iconst (v := -1) hx hb d_TR_readTape_9 (by decide) ?_
  refine lv_istore_n (lv' := [(1, .int (-1)), (0, .ref (a 20))]) hx hb d_TR_readTape_10 rfl hl (by decide) rfl (fun ls hl => ?_)
  refine lv_iconst (v := 0) hx hb d_TR_readTape_11 (by decide) ?_
  refine lv_istore_n (lv' := [(2, .int 0), (1, .int (-1)), (0, .ref (a 20))]) hx hb d_TR_readTape_12 rfl hl (by decide) rfl (fun ls hl => ?_)
  exact k_13 H locs ls (lv_sub hl [2, 1, 0] rfl) hP hD hS
set_option maxHeartbeats 1000000 in
set_option maxRecDepth 100000 in
theorem k_TR_readTape_13 {C : CT} (X : cT C "QuestionText$TextReader" b_TR_readTape 3 (some .int) [⟨11, 60, 63, 55⟩]) (Post : Int32 → va_W → Prop) {P_21 : Int32 → va_W → Prop} (x1 : Int32) (x2 : Int32) (f_t : FT) (g_t : GT) (r_r : Nat → Nat → Option Nat) (P : va_W) (MM : Nat) (SS : Nat) (c0 s0 : Nat)
    (k_60 : (400 ≤ x2) → zc_TR_readTape C Post MM SS c0 s0 60 [(0, .ref (ad C.1 20)), (1, .int x1), (2, .int x2)] [] (s_t C.1.2.2.2.1 C.1.2.2.2.2 f_t g_t ++ (s_r C.1.2.2.2.1 C.1.2.2.2.2 r_r ++ (P))))
    (b_21 : (¬ 400 ≤ x2) → c0 ≤ MM ∧ s0 ≤ SS)
    (m_21 : (¬ 400 ≤ x2) → uI C.1 y_TR_nextSign (Cond.code y_TR_nextSign b_TR_nextSign 1 (some .int)) 0 0 0 [.ref (ad C.1 20)] (s_t C.1.2.2.2.1 C.1.2.2.2.2 f_t g_t) P_21)
    (k_21 : (¬ 400 ≤ x2) → ∀ (r : Int32) (u : va_W), P_21 r u → zc_TR_readTape C Post MM SS c0 s0 24 [(0, .ref (ad C.1 20)), (1, .int x1), (2, .int x2)] [.int r] (u ++ (s_r C.1.2.2.2.1 C.1.2.2.2.2 r_r ++ (P)))) : zc_TR_readTape C Post MM SS c0 s0 13 [(0, .ref (ad C.1 20)), (1, .int x1), (2, .int x2)] [] (s_t C.1.2.2.2.1 C.1.2.2.2.2 f_t g_t ++ (s_r C.1.2.2.2.1 C.1.2.2.2.2 r_r ++ (P))) := by
  obtain ⟨⟨l, dC, dI, k, a⟩, p, e, s, m, args, below, meth, c, A⟩ := C
  obtain ⟨⟨hx, hb, hr, htz, hown, hlocks, hml, hE, hK, hA⟩, hTab, hlt⟩ := X
  intro H locs ls hl hP hD hS
  have hl : lv_has ls 3 [(0, .ref (a 20)), (1, .int x1), (2, .int x2)] := hl
  have hP : va_P (dC, dI) classes (s_t k a f_t g_t ++ (s_r k a r_r ++ (P))) H := hP
  have hD : va_D A (s_t k a f_t g_t ++ (s_r k a r_r ++ (P))) := hD
  show W p l e (z_rm 7 MM SS) s m args below meth c H locs c0 s0 _ (F0 m 13 ls [])
  refine lv_iload_n hx hb d_TR_readTape_13 rfl (lv_at hl 2 rfl) ?_
  refine lv_sipush (v := 400) hx hb d_TR_readTape_14 (by decide) ?_
  refine lv_icmp_ge (tgt := 60) hx hb d_TR_readTape_17 (by decide) (fun c_17 => ?_) (fun c_17 => ?_)
  · exact (k_60 c_17) H locs ls (lv_sub hl [0, 1, 2] rfl) hP hD hS
  · refine lv_aload_n hx hb d_TR_readTape_20 rfl (lv_at hl 0 rfl) ?_
    have hPf : va_P (dC, dI) classes (([]) ++ ((s_t k a f_t g_t) ++ (s_r k a r_r ++ (P)))) H := hP
    have hDf : va_D A (([]) ++ ((s_t k a f_t g_t) ++ (s_r k a r_r ++ (P)))) := hD
    have hFc := zfree hDf hS hA
    refine va_calli (va_runV (As := []) (rest := []) ⟨hx, hb, hml, hown, htz⟩ ((m_21 c_17) H.size) (cwV 0 htz (z_gV (fun _ h => h) km_TR_37 in_TR_nextSign se_TR_nextSign ini_TR m_TR_nextSign) rfl rfl rfl (by decide +kernel) ⟨(Nat.le_of_ble_eq_true rfl), (Nat.le_of_ble_eq_true rfl)⟩) ⟨z_blind, va_recv hK hP (ci := 1) (q0 := 0) rfl rfl, fun U hU hW => ⟨rfl, by rw [hU], hE.call hS hFc hU hW, by rw [hU]; exact (zPc hPf), va_K.moved hW.alike hK, (zDc hDf)⟩⟩ rfl rfl hl.1 rfl (lv_room (Nat.le_of_ble_eq_true rfl)) d_TR_readTape_21 (b_21 c_17)) hS (fun q _ h => hFc q h) hFc (fun r u t H1 locs ht hvm hw hB hz1 hk1 hS => ?_)
    obtain ⟨hP1, hK1, hD1⟩ := hB
    rw [ht] at hP1
    obtain ⟨hP, hD⟩ := zf hPf hDf hk1 hFc hP1 hD1
    exact (k_21 c_17) r _ hw H1 locs ls (lv_sub hl [0, 1, 2] rfl) hP hD hS
set_option maxHeartbeats 1000000 in
set_option maxRecDepth 100000 in
theorem k_TR_readTape_24 {C : CT} (X : cT C "QuestionText$TextReader" b_TR_readTape 3 (some .int) [⟨11, 60, 63, 55⟩]) (Post : Int32 → va_W → Prop) {P_31 : Int32 → va_W → Prop} (x1 : Int32) (x2 : Int32) (y0 : Int32) (f_t : FT) (g_t : GT) (r_r : Nat → Nat → Option Nat) (P : va_W) (MM : Nat) (SS : Nat) (c0 s0 : Nat)
    (k_60 : (y0 = (-1)) → zc_TR_readTape C Post MM SS c0 s0 60 [(0, .ref (ad C.1 20)), (1, .int x1), (2, .int x2)] [] (s_t C.1.2.2.2.1 C.1.2.2.2.2 f_t g_t ++ (s_r C.1.2.2.2.1 C.1.2.2.2.2 r_r ++ (P))))
    (b_31 : (¬ y0 = (-1)) → c0 ≤ MM ∧ s0 ≤ SS)
    (m_31 : (¬ y0 = (-1)) → uI C.1 y_TR_took (Cond.code y_TR_took b_TR_took 2 (some .boolean)) 1 0 0 [.ref (ad C.1 20), .int 113] (s_t C.1.2.2.2.1 C.1.2.2.2.2 f_t g_t) P_31)
    (k_31 : (¬ y0 = (-1)) → ∀ (r : Int32) (u : va_W), P_31 r u → zc_TR_readTape C Post MM SS c0 s0 34 [(0, .ref (ad C.1 20)), (1, .int x1), (2, .int x2)] [.int r] (u ++ (s_r C.1.2.2.2.1 C.1.2.2.2.2 r_r ++ (P)))) : zc_TR_readTape C Post MM SS c0 s0 24 [(0, .ref (ad C.1 20)), (1, .int x1), (2, .int x2)] [.int y0] (s_t C.1.2.2.2.1 C.1.2.2.2.2 f_t g_t ++ (s_r C.1.2.2.2.1 C.1.2.2.2.2 r_r ++ (P))) := by
  obtain ⟨⟨l, dC, dI, k, a⟩, p, e, s, m, args, below, meth, c, A⟩ := C
  obtain ⟨⟨hx, hb, hr, htz, hown, hlocks, hml, hE, hK, hA⟩, hTab, hlt⟩ := X
  intro H locs ls hl hP hD hS
  have hl : lv_has ls 3 [(0, .ref (a 20)), (1, .int x1), (2, .int x2)] := hl
  have hP : va_P (dC, dI) classes (s_t k a f_t g_t ++ (s_r k a r_r ++ (P))) H := hP
  have hD : va_D A (s_t k a f_t g_t ++ (s_r k a r_r ++ (P))) := hD
  show W p l e (z_rm 7 MM SS) s m args below meth c H locs c0 s0 _ (F0 m 24 ls [.int y0])
  refine lv_iconst (v := -1) hx hb d_TR_readTape_24 (by decide) ?_
  refine lv_icmp_eq (tgt := 60) hx hb d_TR_readTape_25 (by decide) (fun c_25 => ?_) (fun c_25 => ?_)
  · exact (k_60 c_25) H locs ls (lv_sub hl [0, 1, 2] rfl) hP hD hS
  · refine lv_aload_n hx hb d_TR_readTape_28 rfl (lv_at hl 0 rfl) ?_
    refine lv_bipush (v := 113) hx hb d_TR_readTape_29 (by decide) ?_
    have hPf : va_P (dC, dI) classes (([]) ++ ((s_t k a f_t g_t) ++ (s_r k a r_r ++ (P)))) H := hP
    have hDf : va_D A (([]) ++ ((s_t k a f_t g_t) ++ (s_r k a r_r ++ (P)))) := hD
    have hFc := zfree hDf hS hA
    refine va_calli (va_runV (As := [.int 113]) (rest := []) ⟨hx, hb, hml, hown, htz⟩ ((m_31 c_25) H.size) (cwV 1 htz (z_gV (fun _ h => h) km_TR_41 in_TR_took se_TR_took ini_TR m_TR_took) rfl rfl rfl (by decide +kernel) ⟨(Nat.le_of_ble_eq_true rfl), (Nat.le_of_ble_eq_true rfl)⟩) ⟨z_blind, va_recv hK hP (ci := 1) (q0 := 0) rfl rfl, fun U hU hW => ⟨rfl, by rw [hU], hE.call hS hFc hU hW, by rw [hU]; exact (zPc hPf), va_K.moved hW.alike hK, (zDc hDf)⟩⟩ rfl rfl hl.1 rfl (lv_room (Nat.le_of_ble_eq_true rfl)) d_TR_readTape_31 (b_31 c_25)) hS (fun q _ h => hFc q h) hFc (fun r u t H1 locs ht hvm hw hB hz1 hk1 hS => ?_)
    obtain ⟨hP1, hK1, hD1⟩ := hB
    rw [ht] at hP1
    obtain ⟨hP, hD⟩ := zf hPf hDf hk1 hFc hP1 hD1
    exact (k_31 c_25) r _ hw H1 locs ls (lv_sub hl [0, 1, 2] rfl) hP hD hS
set_option maxHeartbeats 1000000 in
set_option maxRecDepth 100000 in
theorem k_TR_readTape_34 {C : CT} (X : cT C "QuestionText$TextReader" b_TR_readTape 3 (some .int) [⟨11, 60, 63, 55⟩]) (Post : Int32 → va_W → Prop) {P_47 : va_W → Prop} {X_47 : String → va_W → Prop} {P_38 : va_W → Prop} {X_38 : String → va_W → Prop} (x1 : Int32) (x2 : Int32) (y0 : Int32) (f_t : FT) (g_t : GT) (r_r : Nat → Nat → Option Nat) (P : va_W) (MM : Nat) (SS : Nat) (c0 s0 : Nat)
    (b_47 : (y0 = 0) → c0 + 1 ≤ MM ∧ s0 + 6 ≤ SS)
    (m_47 : (y0 = 0) → xV C.1 y_TR_take (Cond.code y_TR_take b_TR_take 2 none) 1 1 6 [.ref (ad C.1 20), .int 107] (s_t C.1.2.2.2.1 C.1.2.2.2.2 f_t g_t) P_47 X_47)
    (k_47 : (y0 = 0) → ∀ (u : va_W), P_47 u → zc_TR_readTape C Post MM SS (c0 + 1) (s0 + 6) 50 [(0, .ref (ad C.1 20)), (1, .int x1), (2, .int x2)] [] (u ++ (s_r C.1.2.2.2.1 C.1.2.2.2.2 r_r ++ (P))))
    (x_47 : (y0 = 0) → ∀ (E : String) (u : va_W), X_47 E u → E = "java/lang/IllegalArgumentException" ∧ ∀ q9 : Nat, zc_TR_readTape C Post MM SS (c0 + 1) (s0 + 6) 63 [(0, .ref (ad C.1 20)), (1, .int x1), (2, .int x2)] [.ref q9] (u ++ (s_r C.1.2.2.2.1 C.1.2.2.2.2 r_r ++ (P))))
    (b_38 : (¬ y0 = 0) → c0 + 130 ≤ MM ∧ s0 + 760 ≤ SS)
    (m_38 : (¬ y0 = 0) → xV C.1 y_TR_readQuestion (Cond.code y_TR_readQuestion b_TR_readQuestion 8 none) 6 130 760 [.ref (ad C.1 20)] (s_t C.1.2.2.2.1 C.1.2.2.2.2 f_t g_t ++ (s_r C.1.2.2.2.1 C.1.2.2.2.2 r_r ++ (P))) P_38 X_38)
    (k_38 : (¬ y0 = 0) → ∀ (u : va_W), P_38 u → zc_TR_readTape C Post MM SS (c0 + 130) (s0 + 760) 41 [(0, .ref (ad C.1 20)), (1, .int x1), (2, .int x2)] [] (u))
    (x_38 : (¬ y0 = 0) → ∀ (E : String) (u : va_W), X_38 E u → E = "java/lang/IllegalArgumentException" ∧ ∀ q9 : Nat, zc_TR_readTape C Post MM SS (c0 + 130) (s0 + 760) 63 [(0, .ref (ad C.1 20)), (1, .int x1), (2, .int x2)] [.ref q9] (u)) : zc_TR_readTape C Post MM SS c0 s0 34 [(0, .ref (ad C.1 20)), (1, .int x1), (2, .int x2)] [.int y0] (s_t C.1.2.2.2.1 C.1.2.2.2.2 f_t g_t ++ (s_r C.1.2.2.2.1 C.1.2.2.2.2 r_r ++ (P))) := by
  obtain ⟨⟨l, dC, dI, k, a⟩, p, e, s, m, args, below, meth, c, A⟩ := C
  obtain ⟨⟨hx, hb, hr, htz, hown, hlocks, hml, hE, hK, hA⟩, hTab, hlt⟩ := X
  intro H locs ls hl hP hD hS
  have hl : lv_has ls 3 [(0, .ref (a 20)), (1, .int x1), (2, .int x2)] := hl
  have hP : va_P (dC, dI) classes (s_t k a f_t g_t ++ (s_r k a r_r ++ (P))) H := hP
  have hD : va_D A (s_t k a f_t g_t ++ (s_r k a r_r ++ (P))) := hD
  show W p l e (z_rm 7 MM SS) s m args below meth c H locs c0 s0 _ (F0 m 34 ls [.int y0])
  refine lv_if_eq (tgt := 44) hx hb d_TR_readTape_34 (by decide) (fun c_34 => ?_) (fun c_34 => ?_)
  · refine lv_aload_n hx hb d_TR_readTape_44 rfl (lv_at hl 0 rfl) ?_
    refine lv_bipush (v := 107) hx hb d_TR_readTape_45 (by decide) ?_
    have hPf : va_P (dC, dI) classes (([]) ++ ((s_t k a f_t g_t) ++ (s_r k a r_r ++ (P)))) H := hP
    have hDf : va_D A (([]) ++ ((s_t k a f_t g_t) ++ (s_r k a r_r ++ (P)))) := hD
    have hFc := zfree hDf hS hA
    refine vx_callv (vx_runV (As := [.int 107]) (rest := []) ⟨hx, hb, hml, hown, htz⟩ ((m_47 c_34) H.size) (cwV 1 htz (z_gV (fun _ h => h) km_TR_48 in_TR_take se_TR_take ini_TR m_TR_take) rfl rfl rfl (by decide +kernel) ⟨(Nat.le_of_ble_eq_true rfl), (Nat.le_of_ble_eq_true rfl)⟩) ⟨z_blind, va_recv hK hP (ci := 1) (q0 := 0) rfl rfl, fun U hU hW => ⟨rfl, by rw [hU], hE.call hS hFc hU hW, by rw [hU]; exact (zPc hPf), va_K.moved hW.alike hK, (zDc hDf)⟩⟩ rfl rfl hl.1 rfl (lv_room (Nat.le_of_ble_eq_true rfl)) d_TR_readTape_47 (b_47 c_34)) hS (fun q _ h => hFc q h) hFc (fun q _ h => hFc q h) (fun E ce q9 u t H1 locs ht hvm hw hB hz1 hk1 hS hce hcv hcl => ?_) (fun u t H1 locs ht hvm hw hB hz1 hk1 hS => ?_)
    · obtain ⟨hxe, hP1, hK1, hD1⟩ := hB
      rw [ht] at hP1
      obtain ⟨hP, hD⟩ := zf hPf hDf hk1 hFc hP1 hD1
      obtain ⟨rfl, hz9⟩ := (x_47 c_34) E u hxe
      refine vx_catch hown [] ⟨11, 60, 63, 55⟩ [] hTab (fun z hz => nomatch hz) (by decide) (by decide) (htz _ kc_TR_55) (va_Nw.use rfl (hE.2.1 _ ca_IAE)) hce hcv hcl ?_
      exact hz9 q9 H1 locs ls (lv_sub hl [0, 1, 2] rfl) hP hD hS
    · obtain ⟨hP1, hK1, hD1⟩ := hB
      rw [ht] at hP1
      obtain ⟨hP, hD⟩ := zf hPf hDf hk1 hFc hP1 hD1
      exact (k_47 c_34) _ hw H1 locs ls (lv_sub hl [0, 1, 2] rfl) hP hD hS
  · refine lv_aload_n hx hb d_TR_readTape_37 rfl (lv_at hl 0 rfl) ?_
    have hFc : ∀ q, va_A (s_t k a f_t g_t ++ (s_r k a r_r ++ (P))) H.size q → A q := fun q h => h.elim (fun z => by obtain ⟨i9, e9, h9⟩ := z; exact hD.2 i9 _ h9) (fun z => hA q (Nat.le_trans hS.1 z))
    refine vx_callv (vx_runV (As := []) (rest := []) ⟨hx, hb, hml, hown, htz⟩ ((m_38 c_34) H.size) (cwV 0 htz (z_gV (fun _ h => h) km_TR_45 in_TR_readQuestion se_TR_readQuestion ini_TR m_TR_readQuestion) rfl rfl rfl (by decide +kernel) ⟨(Nat.le_of_ble_eq_true rfl), (Nat.le_of_ble_eq_true rfl)⟩) ⟨z_blind, va_recv hK hP (ci := 1) (q0 := 0) rfl rfl, fun U hU hW => ⟨rfl, by rw [hU], hE.call hS hFc hU hW, by rw [hU]; exact hP, va_K.moved hW.alike hK, (hD.weaken (fun _ _ _ _ => trivial))⟩⟩ rfl rfl hl.1 rfl (lv_room (Nat.le_of_ble_eq_true rfl)) d_TR_readTape_38 (b_38 c_34)) hS (fun q _ h => hFc q h) hFc (fun q _ h => hFc q h) (fun E ce q9 u t H1 locs ht hvm hw hB hz1 hk1 hS hce hcv hcl => ?_) (fun u t H1 locs ht hvm hw hB hz1 hk1 hS => ?_)
    · obtain ⟨hxe, hP1, hK1, hD1⟩ := hB
      rw [ht] at hP1
      have hP := hP1
      have hD := hD1.weaken (fun _ q _ h => hFc _ h)
      obtain ⟨rfl, hz9⟩ := (x_38 c_34) E u hxe
      refine vx_catch hown [] ⟨11, 60, 63, 55⟩ [] hTab (fun z hz => nomatch hz) (by decide) (by decide) (htz _ kc_TR_55) (va_Nw.use rfl (hE.2.1 _ ca_IAE)) hce hcv hcl ?_
      exact hz9 q9 H1 locs ls (lv_sub hl [0, 1, 2] rfl) hP hD hS
    · obtain ⟨hP1, hK1, hD1⟩ := hB
      rw [ht] at hP1
      have hP := hP1
      have hD := hD1.weaken (fun _ q _ h => hFc _ h)
      exact (k_38 c_34) _ hw H1 locs ls (lv_sub hl [0, 1, 2] rfl) hP hD hS
set_option maxHeartbeats 1000000 in
set_option maxRecDepth 100000 in
theorem k_TR_readTape_41 {C : CT} (X : cT C "QuestionText$TextReader" b_TR_readTape 3 (some .int) [⟨11, 60, 63, 55⟩]) (Post : Int32 → va_W → Prop) (x1 : Int32) (x2 : Int32) (f_t : FT) (g_t : GT) (r_r : Nat → Nat → Option Nat) (P : va_W) (MM : Nat) (SS : Nat) (c0 s0 : Nat)
    (k_54 : zc_TR_readTape C Post MM SS c0 s0 54 [(0, .ref (ad C.1 20)), (1, .int x1), (2, .int x2)] [] (s_t C.1.2.2.2.1 C.1.2.2.2.2 f_t g_t ++ (s_r C.1.2.2.2.1 C.1.2.2.2.2 r_r ++ (P)))) : zc_TR_readTape C Post MM SS c0 s0 41 [(0, .ref (ad C.1 20)), (1, .int x1), (2, .int x2)] [] (s_t C.1.2.2.2.1 C.1.2.2.2.2 f_t g_t ++ (s_r C.1.2.2.2.1 C.1.2.2.2.2 r_r ++ (P))) := by
  obtain ⟨⟨l, dC, dI, k, a⟩, p, e, s, m, args, below, meth, c, A⟩ := C
  obtain ⟨⟨hx, hb, hr, htz, hown, hlocks, hml, hE, hK, hA⟩, hTab, hlt⟩ := X
  intro H locs ls hl hP hD hS
  have hl : lv_has ls 3 [(0, .ref (a 20)), (1, .int x1), (2, .int x2)] := hl
  have hP : va_P (dC, dI) classes (s_t k a f_t g_t ++ (s_r k a r_r ++ (P))) H := hP
  have hD : va_D A (s_t k a f_t g_t ++ (s_r k a r_r ++ (P))) := hD
  show W p l e (z_rm 7 MM SS) s m args below meth c H locs c0 s0 _ (F0 m 41 ls [])
  refine lv_goto (tgt := 54) hx hb d_TR_readTape_41 (by decide) ?_
  exact k_54 H locs ls (lv_sub hl [0, 1, 2] rfl) hP hD hS
set_option maxHeartbeats 1000000 in
set_option maxRecDepth 100000 in
theorem k_TR_readTape_50 {C : CT} (X : cT C "QuestionText$TextReader" b_TR_readTape 3 (some .int) [⟨11, 60, 63, 55⟩]) (Post : Int32 → va_W → Prop) {P_51 : va_W → Prop} {X_51 : String → va_W → Prop} (x1 : Int32) (x2 : Int32) (f_t : FT) (g_t : GT) (r_r : Nat → Nat → Option Nat) (P : va_W) (MM : Nat) (SS : Nat) (c0 s0 : Nat)
    (b_51 : c0 + 303 ≤ MM ∧ s0 + 1818 ≤ SS)
    (m_51 : xV C.1 y_TR_readKind (Cond.code y_TR_readKind b_TR_readKind 6 none) 6 303 1818 [.ref (ad C.1 20)] (s_t C.1.2.2.2.1 C.1.2.2.2.2 f_t g_t ++ (s_r C.1.2.2.2.1 C.1.2.2.2.2 r_r ++ (P))) P_51 X_51)
    (k_51 : ∀ (u : va_W), P_51 u → zc_TR_readTape C Post MM SS (c0 + 303) (s0 + 1818) 54 [(0, .ref (ad C.1 20)), (1, .int x1), (2, .int x2)] [] (u))
    (x_51 : ∀ (E : String) (u : va_W), X_51 E u → E = "java/lang/IllegalArgumentException" ∧ ∀ q9 : Nat, zc_TR_readTape C Post MM SS (c0 + 303) (s0 + 1818) 63 [(0, .ref (ad C.1 20)), (1, .int x1), (2, .int x2)] [.ref q9] (u)) : zc_TR_readTape C Post MM SS c0 s0 50 [(0, .ref (ad C.1 20)), (1, .int x1), (2, .int x2)] [] (s_t C.1.2.2.2.1 C.1.2.2.2.2 f_t g_t ++ (s_r C.1.2.2.2.1 C.1.2.2.2.2 r_r ++ (P))) := by
  obtain ⟨⟨l, dC, dI, k, a⟩, p, e, s, m, args, below, meth, c, A⟩ := C
  obtain ⟨⟨hx, hb, hr, htz, hown, hlocks, hml, hE, hK, hA⟩, hTab, hlt⟩ := X
  intro H locs ls hl hP hD hS
  have hl : lv_has ls 3 [(0, .ref (a 20)), (1, .int x1), (2, .int x2)] := hl
  have hP : va_P (dC, dI) classes (s_t k a f_t g_t ++ (s_r k a r_r ++ (P))) H := hP
  have hD : va_D A (s_t k a f_t g_t ++ (s_r k a r_r ++ (P))) := hD
  show W p l e (z_rm 7 MM SS) s m args below meth c H locs c0 s0 _ (F0 m 50 ls [])
  refine lv_aload_n hx hb d_TR_readTape_50 rfl (lv_at hl 0 rfl) ?_
  have hFc : ∀ q, va_A (s_t k a f_t g_t ++ (s_r k a r_r ++ (P))) H.size q → A q := fun q h => h.elim (fun z => by obtain ⟨i9, e9, h9⟩ := z; exact hD.2 i9 _ h9) (fun z => hA q (Nat.le_trans hS.1 z))
  refine vx_callv (vx_runV (As := []) (rest := []) ⟨hx, hb, hml, hown, htz⟩ (m_51 H.size) (cwV 0 htz (z_gV (fun _ h => h) km_TR_52 in_TR_readKind se_TR_readKind ini_TR m_TR_readKind) rfl rfl rfl (by decide +kernel) ⟨(Nat.le_of_ble_eq_true rfl), (Nat.le_of_ble_eq_true rfl)⟩) ⟨z_blind, va_recv hK hP (ci := 1) (q0 := 0) rfl rfl, fun U hU hW => ⟨rfl, by rw [hU], hE.call hS hFc hU hW, by rw [hU]; exact hP, va_K.moved hW.alike hK, (hD.weaken (fun _ _ _ _ => trivial))⟩⟩ rfl rfl hl.1 rfl (lv_room (Nat.le_of_ble_eq_true rfl)) d_TR_readTape_51 b_51) hS (fun q _ h => hFc q h) hFc (fun q _ h => hFc q h) (fun E ce q9 u t H1 locs ht hvm hw hB hz1 hk1 hS hce hcv hcl => ?_) (fun u t H1 locs ht hvm hw hB hz1 hk1 hS => ?_)
  · obtain ⟨hxe, hP1, hK1, hD1⟩ := hB
    rw [ht] at hP1
    have hP := hP1
    have hD := hD1.weaken (fun _ q _ h => hFc _ h)
    obtain ⟨rfl, hz9⟩ := x_51 E u hxe
    refine vx_catch hown [] ⟨11, 60, 63, 55⟩ [] hTab (fun z hz => nomatch hz) (by decide) (by decide) (htz _ kc_TR_55) (va_Nw.use rfl (hE.2.1 _ ca_IAE)) hce hcv hcl ?_
    exact hz9 q9 H1 locs ls (lv_sub hl [0, 1, 2] rfl) hP hD hS
  · obtain ⟨hP1, hK1, hD1⟩ := hB
    rw [ht] at hP1
    have hP := hP1
    have hD := hD1.weaken (fun _ q _ h => hFc _ h)
    exact k_51 _ hw H1 locs ls (lv_sub hl [0, 1, 2] rfl) hP hD hS
set_option maxHeartbeats 1000000 in
set_option maxRecDepth 100000 in
theorem k_TR_readTape_54 {C : CT} (X : cT C "QuestionText$TextReader" b_TR_readTape 3 (some .int) [⟨11, 60, 63, 55⟩]) (Post : Int32 → va_W → Prop) (x1 : Int32) (x2 : Int32) (f_t : FT) (g_t : GT) (r_r : Nat → Nat → Option Nat) (P : va_W) (MM : Nat) (SS : Nat) (c0 s0 : Nat)
    (k_13 : zc_TR_readTape C Post MM SS c0 s0 13 [(0, .ref (ad C.1 20)), (1, .int x1), (2, .int (x2 + 1))] [] (s_t C.1.2.2.2.1 C.1.2.2.2.2 f_t g_t ++ (s_r C.1.2.2.2.1 C.1.2.2.2.2 r_r ++ (P)))) : zc_TR_readTape C Post MM SS c0 s0 54 [(0, .ref (ad C.1 20)), (1, .int x1), (2, .int x2)] [] (s_t C.1.2.2.2.1 C.1.2.2.2.2 f_t g_t ++ (s_r C.1.2.2.2.1 C.1.2.2.2.2 r_r ++ (P))) := by
  obtain ⟨⟨l, dC, dI, k, a⟩, p, e, s, m, args, below, meth, c, A⟩ := C
  obtain ⟨⟨hx, hb, hr, htz, hown, hlocks, hml, hE, hK, hA⟩, hTab, hlt⟩ := X
  intro H locs ls hl hP hD hS
  have hl : lv_has ls 3 [(0, .ref (a 20)), (1, .int x1), (2, .int x2)] := hl
  have hP : va_P (dC, dI) classes (s_t k a f_t g_t ++ (s_r k a r_r ++ (P))) H := hP
  have hD : va_D A (s_t k a f_t g_t ++ (s_r k a r_r ++ (P))) := hD
  show W p l e (z_rm 7 MM SS) s m args below meth c H locs c0 s0 _ (F0 m 54 ls [])
  refine lv_iinc (v := x2 + 1) (lv' := [(2, .int (x2 + 1)), (0, .ref (a 20)), (1, .int x1)]) hx hb d_TR_readTape_54 hl (k := 2) rfl (rfl) (by decide) rfl (fun ls hl => ?_)
  refine lv_goto (tgt := 13) hx hb d_TR_readTape_57 (by decide) ?_
  exact k_13 H locs ls (lv_sub hl [1, 2, 0] rfl) hP hD hS
set_option maxHeartbeats 1000000 in
set_option maxRecDepth 100000 in
theorem k_TR_readTape_60 {C : CT} (X : cT C "QuestionText$TextReader" b_TR_readTape 3 (some .int) [⟨11, 60, 63, 55⟩]) (Post : Int32 → va_W → Prop) (x1 : Int32) (x2 : Int32) (f_t : FT) (g_t : GT) (r_r : Nat → Nat → Option Nat) (P : va_W) (MM : Nat) (SS : Nat) (c0 s0 : Nat)
    (k_69 : zc_TR_readTape C Post MM SS c0 s0 69 [(0, .ref (ad C.1 20)), (1, .int x1)] [] (s_t C.1.2.2.2.1 C.1.2.2.2.2 f_t g_t ++ (s_r C.1.2.2.2.1 C.1.2.2.2.2 r_r ++ (P)))) : zc_TR_readTape C Post MM SS c0 s0 60 [(0, .ref (ad C.1 20)), (1, .int x1), (2, .int x2)] [] (s_t C.1.2.2.2.1 C.1.2.2.2.2 f_t g_t ++ (s_r C.1.2.2.2.1 C.1.2.2.2.2 r_r ++ (P))) := by
  obtain ⟨⟨l, dC, dI, k, a⟩, p, e, s, m, args, below, meth, c, A⟩ := C
  obtain ⟨⟨hx, hb, hr, htz, hown, hlocks, hml, hE, hK, hA⟩, hTab, hlt⟩ := X
  intro H locs ls hl hP hD hS
  have hl : lv_has ls 3 [(0, .ref (a 20)), (1, .int x1), (2, .int x2)] := hl
  have hP : va_P (dC, dI) classes (s_t k a f_t g_t ++ (s_r k a r_r ++ (P))) H := hP
  have hD : va_D A (s_t k a f_t g_t ++ (s_r k a r_r ++ (P))) := hD
  show W p l e (z_rm 7 MM SS) s m args below meth c H locs c0 s0 _ (F0 m 60 ls [])
  refine lv_goto (tgt := 69) hx hb d_TR_readTape_60 (by decide) ?_
  exact k_69 H locs ls (lv_sub hl [0, 1] rfl) hP hD hS
set_option maxHeartbeats 1000000 in
set_option maxRecDepth 100000 in
theorem k_TR_readTape_63 {C : CT} (X : cT C "QuestionText$TextReader" b_TR_readTape 3 (some .int) [⟨11, 60, 63, 55⟩]) (Post : Int32 → va_W → Prop) (x1 : Int32) (x2 : Int32) (y0 : Nat) (f_t : FT) (g_t : GT) (r_r : Nat → Nat → Option Nat) (P : va_W) (MM : Nat) (SS : Nat) (c0 s0 : Nat)
    (k_69 : zc_TR_readTape C Post MM SS c0 s0 69 [(0, .ref (ad C.1 20)), (1, .int (f_t 1))] [] (s_t C.1.2.2.2.1 C.1.2.2.2.2 f_t g_t ++ (s_r C.1.2.2.2.1 C.1.2.2.2.2 r_r ++ (P)))) : zc_TR_readTape C Post MM SS c0 s0 63 [(0, .ref (ad C.1 20)), (1, .int x1), (2, .int x2)] [.ref y0] (s_t C.1.2.2.2.1 C.1.2.2.2.2 f_t g_t ++ (s_r C.1.2.2.2.1 C.1.2.2.2.2 r_r ++ (P))) := by
  obtain ⟨⟨l, dC, dI, k, a⟩, p, e, s, m, args, below, meth, c, A⟩ := C
  obtain ⟨⟨hx, hb, hr, htz, hown, hlocks, hml, hE, hK, hA⟩, hTab, hlt⟩ := X
  intro H locs ls hl hP hD hS
  have hl : lv_has ls 3 [(0, .ref (a 20)), (1, .int x1), (2, .int x2)] := hl
  have hP : va_P (dC, dI) classes (s_t k a f_t g_t ++ (s_r k a r_r ++ (P))) H := hP
  have hD : va_D A (s_t k a f_t g_t ++ (s_r k a r_r ++ (P))) := hD
  show W p l e (z_rm 7 MM SS) s m args below meth c H locs c0 s0 _ (F0 m 63 ls [.ref y0])
  refine lv_astore_n (lv' := [(2, .ref y0), (0, .ref (a 20)), (1, .int x1)]) hx hb d_TR_readTape_63 rfl hl (by decide) rfl (fun ls hl => ?_)
  refine lv_aload_n hx hb d_TR_readTape_64 rfl (lv_at hl 1 rfl) ?_
  refine va_get (D := (dC, dI)) (ci := 1) (v := .int (f_t 1)) (C := R_TR) (T := F_TR) (N := 5) hx hb htz i_TR hown hK hP 0 rfl rfl 4 (by decide) (htz _ kf_TR_31) (fun _ h9 => h9) rfl d_TR_readTape_65 ?_
  refine lv_istore_n (lv' := [(1, .int (f_t 1)), (2, .ref y0), (0, .ref (a 20))]) hx hb d_TR_readTape_68 rfl hl (by decide) rfl (fun ls hl => ?_)
  exact k_69 H locs ls (lv_sub hl [2, 0] rfl) hP hD hS
set_option maxHeartbeats 1000000 in
set_option maxRecDepth 100000 in
theorem k_TR_readTape_69 {C : CT} (X : cT C "QuestionText$TextReader" b_TR_readTape 3 (some .int) [⟨11, 60, 63, 55⟩]) (Post : Int32 → va_W → Prop) (x1 : Int32) (f_t : FT) (g_t : GT) (r_r : Nat → Nat → Option Nat) (P : va_W) (MM : Nat) (SS : Nat) (c0 s0 : Nat)
    (b_75 : c0 ≤ MM ∧ s0 ≤ SS)
    (q_75 : Post (x1) (s_t C.1.2.2.2.1 C.1.2.2.2.2 (va_up f_t 0 0) g_t ++ (s_r C.1.2.2.2.1 C.1.2.2.2.2 r_r ++ (P)))) : zc_TR_readTape C Post MM SS c0 s0 69 [(0, .ref (ad C.1 20)), (1, .int x1)] [] (s_t C.1.2.2.2.1 C.1.2.2.2.2 f_t g_t ++ (s_r C.1.2.2.2.1 C.1.2.2.2.2 r_r ++ (P))) := by
  obtain ⟨⟨l, dC, dI, k, a⟩, p, e, s, m, args, below, meth, c, A⟩ := C
  obtain ⟨⟨hx, hb, hr, htz, hown, hlocks, hml, hE, hK, hA⟩, hTab, hlt⟩ := X
  intro H locs ls hl hP hD hS
  have hl : lv_has ls 3 [(0, .ref (a 20)), (1, .int x1)] := hl
  have hP : va_P (dC, dI) classes (s_t k a f_t g_t ++ (s_r k a r_r ++ (P))) H := hP
  have hD : va_D A (s_t k a f_t g_t ++ (s_r k a r_r ++ (P))) := hD
  show W p l e (z_rm 7 MM SS) s m args below meth c H locs c0 s0 _ (F0 m 69 ls [])
  refine lv_aload_n hx hb d_TR_readTape_69 rfl (lv_at hl 0 rfl) ?_
  refine lv_iconst (v := 0) hx hb d_TR_readTape_70 (by decide) ?_
  refine va_put (D := (dC, dI)) (ci := 1) (v := .int 0) (ty := .int) (C := R_TR) (T := F_TR) (N := 5) hx hb htz i_TR t_TR o_TR n_TR hown hK hP hD hS 0 rfl rfl 3 (by decide) (htz _ kf_TR_27) (fun _ h9 => h9) rfl (by decide +kernel) rfl rfl (Nat.le_of_ble_eq_true rfl) d_TR_readTape_71 (fun H locs hP hD hS => ?_)
  have hP : va_P (dC, dI) classes (s_t k a (va_up f_t 0 0) g_t ++ (s_r k a r_r ++ (P))) H := hP
  have hD : va_D A (s_t k a (va_up f_t 0 0) g_t ++ (s_r k a r_r ++ (P))) := hD
  refine lv_iload_n hx hb d_TR_readTape_74 rfl (lv_at hl 1 rfl) ?_
  refine W.widen (k := MM) (n := SS) b_75.1 b_75.2 ?_
  exact W.iret (v := x1) hx hb hr (fun t ht hW => ⟨⟨_, (s_t k a (va_up f_t 0 0) g_t ++ (s_r k a r_r ++ (P))), rfl, q_75, by rw [ht]; exact hP, va_K.moved hW.alike hK, hD⟩, hS.F ht⟩) hS.2.2 d_TR_readTape_75
set_option maxHeartbeats 1000000 in
set_option maxRecDepth 100000 in
theorem e_TR_readTape (T : ST) (hlt : T.1.stackTraces = false) (Post : Int32 → va_W → Prop) (f_t : FT) (g_t : GT) (r_r : Nat → Nat → Option Nat) (P : va_W) (MM : Nat) (SS : Nat) (h : ∀ C : CT, C.1 = T → cT C "QuestionText$TextReader" b_TR_readTape 3 (some .int) [⟨11, 60, 63, 55⟩] → zc_TR_readTape C Post MM SS 0 0 0 [(0, .ref (ad C.1 20))] [] (s_t C.1.2.2.2.1 C.1.2.2.2.2 f_t g_t ++ (s_r C.1.2.2.2.1 C.1.2.2.2.2 r_r ++ (P)))) : uI T y_TR_readTape (Cond.codeWith y_TR_readTape b_TR_readTape 3 (some .int) [(11, 60, 63, 55)]) 7 MM SS [.ref (ad T 20)] (s_t T.2.2.2.1 T.2.2.2.2 f_t g_t ++ (s_r T.2.2.2.1 T.2.2.2.2 r_r ++ (P))) Post := by
  obtain ⟨l, dC, dI, k, a⟩ := T
  intro sz
  refine va_MetW (cc := b_TR_readTape) (maxL := 3) (ret := (some .int)) (by decide) rfl ?_
  intro p e s m args below meth c s₁ B hml hv
  obtain ⟨rfl, hsz, hE, hP, hK, hD0⟩ := hv
  have hts := atoms_spec (ws := (Cond.codeWith y_TR_readTape b_TR_readTape 3 (some .int) [(11, 60, 63, 55)]) :: z_T) B.pre
  have htz : ∀ w ∈ z_T, w.before _ s = true := fun w h => hts w (z_cons w h)
  subst hsz
  have hD := hD0.self (sz := s.heap.size)
  generalize hAe : va_A (s_t k a f_t g_t ++ (s_r k a r_r ++ (P))) s.heap.size = A at hD hE ⊢
  have hA : ∀ q : Nat, s.heap.size ≤ q → A q := fun q h => by rw [← hAe]; exact Or.inr h
  have hl := lv_entry ([.ref (a 20)]) (n := 3) (Nat.le_of_ble_eq_true rfl)
  rw [lg_entry_eq]
  generalize (lg_sl ([.ref (a 20)]) ++ List.replicate (3 - (lg_sl ([.ref (a 20)])).length) Slot.unset).toArray = ls at hl ⊢
  have hTab := vx_table (x := y_TR_readTape) B (htz _ m_TR_readTape)
  exact h ((l, dC, dI, k, a), p, e, s, m, ([.ref (a 20)] : List Value).toArray, below, meth, c, A) rfl ⟨⟨B.exec, B.bytes, B.returns, htz, findClass_of_methodNamed B.named, B.notSynchronized, hml, hE, hK, hA⟩, hTab, hlt⟩ s.heap [] ls hl hP hD va_S.rf
