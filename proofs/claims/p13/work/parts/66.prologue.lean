def zc_La_law0 (C : CT) (Post : State → Prop) (c0 s0 pc : Nat) (loc : List (Nat × Value)) (st : List Value) (ws : va_W) : Prop := zW C room_1 7 Post c0 s0 pc loc st ws
set_option maxHeartbeats 1000000 in
set_option maxRecDepth 100000 in
theorem k_La_law0_0 {C : CT} {b_ L_ : Nat} {xs : Nat → Int32} (X : cL C "QuestionTextLaw" b_La_law 7 (some .boolean) b_ L_ xs) (Post : State → Prop) {P_4 : Nat → va_W → Prop} (P : va_W) (c0 s0 : Nat)
    (b_0 : c0 + 1 ≤ 601024 ∧ s0 + 6 ≤ 7293034)
    (b_4 : ∀ w0 : Nat, c0 + 1 + 11 ≤ 601024 ∧ s0 + 6 + 669 ≤ 7293034)
    (m_4 : ∀ w0 : Nat, uV C.1 y_Q_init (Cond.code y_Q_init b_Q_init 1 none) 1 11 669 [.ref w0] ([(w0, .inr (0, [.null, .null, .null, .null, .int 0, .int 0]))]) (P_4 w0))
    (k_4 : ∀ w0 : Nat, ∀ (u : va_W), (P_4 w0) u → zc_La_law0 C Post (c0 + 1 + 11) (s0 + 6 + 669) 7 [(0, .ref b_)] [.ref w0] (u ++ (P))) : zc_La_law0 C Post c0 s0 0 [(0, .ref b_)] [] (P) := by
  obtain ⟨⟨l, dC, dI, k, a⟩, p, e, s, m, args, below, meth, c, A⟩ := C
  obtain ⟨⟨hx, hb, hr, htz, hown, hlocks, hml, hE, hK, hA⟩, hX, hbl, hbA, hlt⟩ := X
  intro H locs ls hl hP hD hS
  have hl : lv_has ls 7 [(0, .ref b_)] := hl
  have hP : va_P (dC, dI) classes (P) H := hP
  have hD : va_D A (P) := hD
  show W p l e room_1 s m args below meth c H locs c0 s0 _ (F0 m 0 ls [])
  refine va_new (ci := 0) (fs := [.null, .null, .null, .null, .int 0, .int 0]) (C := R_Q) (T := F_Q) (N := 6) hx hb htz i_Q t_Q o_Q hown (htz _ kc_La_8) (htz _ mk_Q) (htz _ ini_Q) hK hP hD hS hA rfl (by intro j hj; match j, hj with | 0, _ => rfl | 1, _ => rfl | 2, _ => rfl | 3, _ => rfl | 4, _ => rfl | 5, _ => rfl | j + 6, h => exact absurd h (by omega)) b_0.1 b_0.2 d_La_law_0 (fun w0 H hP hD hS => ?_)
  replace hP := zsP hP
  replace hD := zsD hD
  have hP : va_P (dC, dI) classes ([(w0, .inr (0, [.null, .null, .null, .null, .int 0, .int 0]))] ++ (P)) H := hP
  have hD : va_D A ([(w0, .inr (0, [.null, .null, .null, .null, .int 0, .int 0]))] ++ (P)) := hD
  refine lv_dup hx hb d_La_law_3 rfl ?_
  have hPf : va_P (dC, dI) classes (([]) ++ (([(w0, .inr (0, [.null, .null, .null, .null, .int 0, .int 0]))]) ++ (P))) H := hP
  have hDf : va_D A (([]) ++ (([(w0, .inr (0, [.null, .null, .null, .null, .int 0, .int 0]))]) ++ (P))) := hD
  have hFc := zfree hDf hS hA
  refine va_callv (va_runI (As := []) (rest := [.ref w0]) ⟨hx, hb, hml, hown, htz⟩ ((m_4 w0) H.size) (cwI 0 htz (z_gI (fun _ h => h) m_Q_init) rfl rfl rfl (htz _ ini_Q) (htz _ km_La_53) (htz _ in_Q_init) rfl (by decide +kernel) ⟨(Nat.le_of_ble_eq_true rfl), (Nat.le_of_ble_eq_true rfl)⟩) ⟨z_blind, fun U hU hW => ⟨rfl, by rw [hU], hE.call hS hFc hU hW, by rw [hU]; exact (zPc hPf), va_K.moved hW.alike hK, (zDc hDf)⟩⟩ rfl rfl hl.1 rfl (lv_room (Nat.le_of_ble_eq_true rfl)) d_La_law_4 (b_4 w0)) hS (fun q _ h => hFc q h) hFc (fun u t H1 locs ht hvm hw hB hz1 hk1 hS => ?_)
  obtain ⟨hP1, hK1, hD1⟩ := hB
  rw [ht] at hP1
  obtain ⟨hP, hD⟩ := zf hPf hDf hk1 hFc hP1 hD1
  exact (k_4 w0) _ hw H1 locs ls (lv_sub hl [0] rfl) hP hD hS
set_option maxHeartbeats 1000000 in
set_option maxRecDepth 100000 in
theorem k_La_law0_7 {C : CT} {b_ L_ : Nat} {xs : Nat → Int32} (X : cL C "QuestionTextLaw" b_La_law 7 (some .boolean) b_ L_ xs) (Post : State → Prop) {P_12 : Nat → va_W → Prop} (y0 : Nat) (P : va_W) (c0 s0 : Nat)
    (b_8 : c0 + 1 ≤ 601024 ∧ s0 + 31 ≤ 7293034)
    (b_12 : ∀ w8 : Nat, c0 + 1 + 18 ≤ 601024 ∧ s0 + 31 + 42883 ≤ 7293034)
    (m_12 : ∀ w8 : Nat, uV C.1 y_Mo_init (Cond.code y_Mo_init b_Mo_init 1 none) 0 18 42883 [.ref w8] ([(w8, .inr (4, [.int 0, .int 0, .null, .int 0, .int 0, .int 0, .null, .null, .null, .null, .null, .null, .null, .null, .null, .null, .null, .null, .int 0, .int 0, .int 0, .int 0, .null, .null, .int 0, .int 0, .int 0, .int 0, .null, .null, .null]))]) (P_12 w8))
    (k_12 : ∀ w8 : Nat, ∀ (u : va_W), (P_12 w8) u → zc_La_law0 C Post (c0 + 1 + 18) (s0 + 31 + 42883) 15 [(0, .ref b_), (1, .ref y0)] [.ref w8] (u ++ (P))) : zc_La_law0 C Post c0 s0 7 [(0, .ref b_)] [.ref y0] (P) := by
  obtain ⟨⟨l, dC, dI, k, a⟩, p, e, s, m, args, below, meth, c, A⟩ := C
  obtain ⟨⟨hx, hb, hr, htz, hown, hlocks, hml, hE, hK, hA⟩, hX, hbl, hbA, hlt⟩ := X
  intro H locs ls hl hP hD hS
  have hl : lv_has ls 7 [(0, .ref b_)] := hl
  have hP : va_P (dC, dI) classes (P) H := hP
  have hD : va_D A (P) := hD
  show W p l e room_1 s m args below meth c H locs c0 s0 _ (F0 m 7 ls [.ref y0])
  refine lv_astore_n (lv' := [(1, .ref y0), (0, .ref b_)]) hx hb d_La_law_7 rfl hl (by decide) rfl (fun ls hl => ?_)
  refine va_new (ci := 4) (fs := [.int 0, .int 0, .null, .int 0, .int 0, .int 0, .null, .null, .null, .null, .null, .null, .null, .null, .null, .null, .null, .null, .int 0, .int 0, .int 0, .int 0, .null, .null, .int 0, .int 0, .int 0, .int 0, .null, .null, .null]) (C := R_Mo) (T := F_Mo) (N := 31) hx hb htz i_Mo t_Mo o_Mo hown (htz _ kc_La_54) (htz _ mk_Mo) (htz _ ini_Mo) hK hP hD hS hA rfl (by intro j hj; match j, hj with | 0, _ => rfl | 1, _ => rfl | 2, _ => rfl | 3, _ => rfl | 4, _ => rfl | 5, _ => rfl | 6, _ => rfl | 7, _ => rfl | 8, _ => rfl | 9, _ => rfl | 10, _ => rfl | 11, _ => rfl | 12, _ => rfl | 13, _ => rfl | 14, _ => rfl | 15, _ => rfl | 16, _ => rfl | 17, _ => rfl | 18, _ => rfl | 19, _ => rfl | 20, _ => rfl | 21, _ => rfl | 22, _ => rfl | 23, _ => rfl | 24, _ => rfl | 25, _ => rfl | 26, _ => rfl | 27, _ => rfl | 28, _ => rfl | 29, _ => rfl | 30, _ => rfl | j + 31, h => exact absurd h (by omega)) b_8.1 b_8.2 d_La_law_8 (fun w8 H hP hD hS => ?_)
  replace hP := zsP hP
  replace hD := zsD hD
  have hP : va_P (dC, dI) classes ([(w8, .inr (4, [.int 0, .int 0, .null, .int 0, .int 0, .int 0, .null, .null, .null, .null, .null, .null, .null, .null, .null, .null, .null, .null, .int 0, .int 0, .int 0, .int 0, .null, .null, .int 0, .int 0, .int 0, .int 0, .null, .null, .null]))] ++ (P)) H := hP
  have hD : va_D A ([(w8, .inr (4, [.int 0, .int 0, .null, .int 0, .int 0, .int 0, .null, .null, .null, .null, .null, .null, .null, .null, .null, .null, .null, .null, .int 0, .int 0, .int 0, .int 0, .null, .null, .int 0, .int 0, .int 0, .int 0, .null, .null, .null]))] ++ (P)) := hD
  refine lv_dup hx hb d_La_law_11 rfl ?_
  have hPf : va_P (dC, dI) classes (([]) ++ (([(w8, .inr (4, [.int 0, .int 0, .null, .int 0, .int 0, .int 0, .null, .null, .null, .null, .null, .null, .null, .null, .null, .null, .null, .null, .int 0, .int 0, .int 0, .int 0, .null, .null, .int 0, .int 0, .int 0, .int 0, .null, .null, .null]))]) ++ (P))) H := hP
  have hDf : va_D A (([]) ++ (([(w8, .inr (4, [.int 0, .int 0, .null, .int 0, .int 0, .int 0, .null, .null, .null, .null, .null, .null, .null, .null, .null, .null, .null, .null, .int 0, .int 0, .int 0, .int 0, .null, .null, .int 0, .int 0, .int 0, .int 0, .null, .null, .null]))]) ++ (P))) := hD
  have hFc := zfree hDf hS hA
  refine va_callv (va_runI (As := []) (rest := [.ref w8]) ⟨hx, hb, hml, hown, htz⟩ ((m_12 w8) H.size) (cwI 0 htz (z_gI (fun _ h => h) m_Mo_init) rfl rfl rfl (htz _ ini_Mo) (htz _ km_La_56) (htz _ in_Mo_init) rfl (by decide +kernel) ⟨(Nat.le_of_ble_eq_true rfl), (Nat.le_of_ble_eq_true rfl)⟩) ⟨z_blind, fun U hU hW => ⟨rfl, by rw [hU], hE.call hS hFc hU hW, by rw [hU]; exact (zPc hPf), va_K.moved hW.alike hK, (zDc hDf)⟩⟩ rfl rfl hl.1 rfl (lv_room (Nat.le_of_ble_eq_true rfl)) d_La_law_12 (b_12 w8)) hS (fun q _ h => hFc q h) hFc (fun u t H1 locs ht hvm hw hB hz1 hk1 hS => ?_)
  obtain ⟨hP1, hK1, hD1⟩ := hB
  rw [ht] at hP1
  obtain ⟨hP, hD⟩ := zf hPf hDf hk1 hFc hP1 hD1
  exact (k_12 w8) _ hw H1 locs ls (lv_sub hl [1, 0] rfl) hP hD hS
set_option maxHeartbeats 1000000 in
set_option maxRecDepth 100000 in
theorem k_La_law0_15 {C : CT} {b_ L_ : Nat} {xs : Nat → Int32} (X : cL C "QuestionTextLaw" b_La_law 7 (some .boolean) b_ L_ xs) (Post : State → Prop) (x1 : Nat) (y0 : Nat) (P : va_W) (c0 s0 : Nat)
    (b_17 : c0 + 1 ≤ 601024 ∧ s0 + 1 ≤ 7293034)
    (k_23 : ∀ w17 : Nat, zc_La_law0 C Post (c0 + 1) (s0 + 1) 23 [(0, .ref b_), (1, .ref x1), (2, .ref y0), (3, .ref w17), (4, .int 0)] [] ([(w17, .inl (C.1.2.2.2.1 1, 1, .inr (.inl (fun _ => 0))))] ++ (P))) : zc_La_law0 C Post c0 s0 15 [(0, .ref b_), (1, .ref x1)] [.ref y0] (P) := by
  obtain ⟨⟨l, dC, dI, k, a⟩, p, e, s, m, args, below, meth, c, A⟩ := C
  obtain ⟨⟨hx, hb, hr, htz, hown, hlocks, hml, hE, hK, hA⟩, hX, hbl, hbA, hlt⟩ := X
  intro H locs ls hl hP hD hS
  have hl : lv_has ls 7 [(0, .ref b_), (1, .ref x1)] := hl
  have hP : va_P (dC, dI) classes (P) H := hP
  have hD : va_D A (P) := hD
  show W p l e room_1 s m args below meth c H locs c0 s0 _ (F0 m 15 ls [.ref y0])
  refine lv_astore_n (lv' := [(2, .ref y0), (0, .ref b_), (1, .ref x1)]) hx hb d_La_law_15 rfl hl (by decide) rfl (fun ls hl => ?_)
  refine lv_iconst (v := 1) hx hb d_La_law_16 (by decide) ?_
  refine z_newa (atype := .long) (n := 1) (a0 := (1, .inr (.inl (fun _ => 0)))) hx hb (htz (.arrayClass .long) az_long) (ty := .long) rfl hK hP hD hS hA 1 rfl (N' := 1) (fun _ => rfl) (by decide) (by decide) (Nat.le_of_ble_eq_true rfl) b_17.1 b_17.2 d_La_law_17 (fun w17 H hP hD hS => ?_)
  replace hP := zsP hP
  replace hD := zsD hD
  have hP : va_P (dC, dI) classes ([(w17, .inl (k 1, 1, .inr (.inl (fun _ => 0))))] ++ (P)) H := hP
  have hD : va_D A ([(w17, .inl (k 1, 1, .inr (.inl (fun _ => 0))))] ++ (P)) := hD
  refine lv_astore_n (lv' := [(3, .ref w17), (2, .ref y0), (0, .ref b_), (1, .ref x1)]) hx hb d_La_law_19 rfl hl (by decide) rfl (fun ls hl => ?_)
  refine lv_iconst (v := 0) hx hb d_La_law_20 (by decide) ?_
  refine lv_istore (lv' := [(4, .int 0), (3, .ref w17), (2, .ref y0), (0, .ref b_), (1, .ref x1)]) hx hb d_La_law_21 hl (by decide) rfl (fun ls hl => ?_)
  exact (k_23 w17) H locs ls (lv_sub hl [3, 4, 2, 1, 0] rfl) hP hD hS
