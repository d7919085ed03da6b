def zc_Ed_study (C : CT) (Post : va_W → Prop) (c0 s0 pc : Nat) (loc : List (Nat × Value)) (st : List Value) (ws : va_W) : Prop := zW C (z_rm 5 1 61) 6 (oV C 1 61 Post) c0 s0 pc loc st ws
set_option maxHeartbeats 1000000 in
set_option maxRecDepth 100000 in
theorem k_Ed_study_0 {C : CT} (X : cM C "QuestionText$Edition" b_Ed_study 6 none) (Post : va_W → Prop) {P_1 : Option Nat → va_W → Prop} (P : va_W) (h0 : Nat) (qa : Nat) (ka : Nat) (es : Int32) (e1 : Int64) (e2 : Int64) (e3 : Int64) (fq : Nat → Option Nat) (fk : Nat → Option Nat) (lf : Nat → Int64) (i2 : Nat) (i3 : Nat) (c0 s0 : Nat) (hqa : P[i2]? = some (qa, .inl (C.1.2.2.2.1 3, 61, .inr (.inr (.inr (.inr fq)))))) (hka : P[i3]? = some (ka, .inl (C.1.2.2.2.1 4, 10, .inr (.inr (.inr (.inr fk))))))
    (b_1 : c0 + 1 ≤ 1 ∧ s0 + 61 ≤ 61)
    (m_1 : uR C.1 y_Ed_waysByJumps (Cond.code y_Ed_waysByJumps b_Ed_waysByJumps 4 (some (.array .long))) 4 1 61 [.ref h0] ([(h0, .inr (3, [.ref qa, .ref ka, .int es, .long e1, .long e2, .long e3]))] ++ (P)) P_1)
    (k_1 : ∀ (r : Option Nat) (u : va_W), P_1 r u → zc_Ed_study C Post (c0 + 1) (s0 + 61) 4 [(0, .ref h0)] [va_rf r] (u)) : zc_Ed_study C Post c0 s0 0 [(0, .ref h0)] [] ([(h0, .inr (3, [.ref qa, .ref ka, .int es, .long e1, .long e2, .long e3]))] ++ (P)) := by
  obtain ⟨⟨l, dC, dI, k, a⟩, p, e, s, m, args, below, meth, c, A⟩ := C
  obtain ⟨hx, hb, hr, htz, hown, hlocks, hml, hE, hK, hA⟩ := X
  intro H locs ls hl hP hD hS
  have hl : lv_has ls 6 [(0, .ref h0)] := hl
  have hP : va_P (dC, dI) classes ([(h0, .inr (3, [.ref qa, .ref ka, .int es, .long e1, .long e2, .long e3]))] ++ (P)) H := hP
  have hD : va_D A ([(h0, .inr (3, [.ref qa, .ref ka, .int es, .long e1, .long e2, .long e3]))] ++ (P)) := hD
  show W p l e (z_rm 5 1 61) s m args below meth c H locs c0 s0 _ (F0 m 0 ls [])
  refine lv_aload_n hx hb d_Ed_study_0 rfl (lv_at hl 0 rfl) ?_
  have hFc : ∀ q, va_A ([(h0, .inr (3, [.ref qa, .ref ka, .int es, .long e1, .long e2, .long e3]))] ++ (P)) H.size q → A q := fun q h => h.elim (fun z => by obtain ⟨i9, e9, h9⟩ := z; exact hD.2 i9 _ h9) (fun z => hA q (Nat.le_trans hS.1 z))
  refine va_callq (va_runV (As := []) (rest := []) ⟨hx, hb, hml, hown, htz⟩ (m_1 H.size) (cwV 0 htz (z_gV (fun _ h => h) km_Ed_41 in_Ed_waysByJumps se_Ed_waysByJumps ini_Ed m_Ed_waysByJumps) rfl rfl rfl (by decide +kernel) ⟨(Nat.le_of_ble_eq_true rfl), (Nat.le_of_ble_eq_true rfl)⟩) ⟨z_blind, va_recv hK hP (ci := 3) (q0 := 0) rfl rfl, fun U hU hW => ⟨rfl, by rw [hU], hE.call hS hFc hU hW, by rw [hU]; exact hP, va_K.moved hW.alike hK, (hD.weaken (fun _ _ _ _ => trivial))⟩⟩ rfl rfl hl.1 rfl (lv_room (Nat.le_of_ble_eq_true rfl)) d_Ed_study_1 b_1) hS (fun q _ h => hFc q h) hFc (fun r u t H1 locs ht hvm hw hB hz1 hk1 hS => ?_)
  obtain ⟨hP1, hK1, hD1⟩ := hB
  rw [ht] at hP1
  have hP := hP1
  have hD := hD1.weaken (fun _ q _ h => hFc _ h)
  exact k_1 r _ hw H1 locs ls (lv_sub hl [0] rfl) hP hD hS
set_option maxHeartbeats 1000000 in
set_option maxRecDepth 100000 in
theorem k_Ed_study_4 {C : CT} (X : cM C "QuestionText$Edition" b_Ed_study 6 none) (Post : va_W → Prop) (y0 : Nat) (P : va_W) (h0 : Nat) (qa : Nat) (ka : Nat) (es : Int32) (e1 : Int64) (e2 : Int64) (e3 : Int64) (fq : Nat → Option Nat) (fk : Nat → Option Nat) (lf : Nat → Int64) (i2 : Nat) (i3 : Nat) (c0 s0 : Nat) (hqa : P[i2]? = some (qa, .inl (C.1.2.2.2.1 3, 61, .inr (.inr (.inr (.inr fq)))))) (hka : P[i3]? = some (ka, .inl (C.1.2.2.2.1 4, 10, .inr (.inr (.inr (.inr fk))))))
    (k_10 : zc_Ed_study C Post c0 s0 10 [(0, .ref h0), (1, .ref y0), (2, .long 0), (4, .int 1)] [] ([(y0, .inl (C.1.2.2.2.1 1, 61, .inr (.inl lf))), (h0, .inr (3, [.ref qa, .ref ka, .int es, .long e1, .long e2, .long e3]))] ++ (P))) : zc_Ed_study C Post c0 s0 4 [(0, .ref h0)] [.ref y0] ([(y0, .inl (C.1.2.2.2.1 1, 61, .inr (.inl lf))), (h0, .inr (3, [.ref qa, .ref ka, .int es, .long e1, .long e2, .long e3]))] ++ (P)) := by
  obtain ⟨⟨l, dC, dI, k, a⟩, p, e, s, m, args, below, meth, c, A⟩ := C
  obtain ⟨hx, hb, hr, htz, hown, hlocks, hml, hE, hK, hA⟩ := X
  intro H locs ls hl hP hD hS
  have hl : lv_has ls 6 [(0, .ref h0)] := hl
  have hP : va_P (dC, dI) classes ([(y0, .inl (k 1, 61, .inr (.inl lf))), (h0, .inr (3, [.ref qa, .ref ka, .int es, .long e1, .long e2, .long e3]))] ++ (P)) H := hP
  have hD : va_D A ([(y0, .inl (k 1, 61, .inr (.inl lf))), (h0, .inr (3, [.ref qa, .ref ka, .int es, .long e1, .long e2, .long e3]))] ++ (P)) := hD
  show W p l e (z_rm 5 1 61) s m args below meth c H locs c0 s0 _ (F0 m 4 ls [.ref y0])
  refine lv_astore_n (lv' := [(1, .ref y0), (0, .ref h0)]) hx hb d_Ed_study_4 rfl hl (by decide) rfl (fun ls hl => ?_)
  refine lv_lconst (v := 0) hx hb d_Ed_study_5 (by decide) ?_
  refine lv_lstore_n (lv' := [(2, .long 0), (1, .ref y0), (0, .ref h0)]) hx hb d_Ed_study_6 rfl hl (by decide) rfl (fun ls hl => ?_)
  refine lv_iconst (v := 1) hx hb d_Ed_study_7 (by decide) ?_
  refine lv_istore (lv' := [(4, .int 1), (2, .long 0), (1, .ref y0), (0, .ref h0)]) hx hb d_Ed_study_8 hl (by decide) rfl (fun ls hl => ?_)
  exact k_10 H locs ls (lv_sub hl [3, 2, 1, 0] rfl) hP hD hS
set_option maxHeartbeats 1000000 in
set_option maxRecDepth 100000 in
theorem k_Ed_study_10 {C : CT} (X : cM C "QuestionText$Edition" b_Ed_study 6 none) (Post : va_W → Prop) {P_42 : Int32 → va_W → Prop} (x1 : Nat) (x2 : Int64) (x4 : Int32) (P : va_W) (h0 : Nat) (qa : Nat) (ka : Nat) (es : Int32) (e1 : Int64) (e2 : Int64) (e3 : Int64) (fq : Nat → Option Nat) (fk : Nat → Option Nat) (lf : Nat → Int64) (i2 : Nat) (i3 : Nat) (c0 s0 : Nat) (hqa : P[i2]? = some (qa, .inl (C.1.2.2.2.1 3, 61, .inr (.inr (.inr (.inr fq)))))) (hka : P[i3]? = some (ka, .inl (C.1.2.2.2.1 4, 10, .inr (.inr (.inr (.inr fk))))))
    (k_101 : (9 < x4) → zc_Ed_study C Post c0 s0 101 [(0, .ref h0), (1, .ref x1), (2, .long x2), (4, .int 1)] [] ([(x1, .inl (C.1.2.2.2.1 1, 61, .inr (.inl lf))), (h0, .inr (3, [.ref qa, .ref ka, .int es, .long e1, .long e2, .long e3]))] ++ (P)))
    (h_23 : (¬ 9 < x4) → vp_in (x4) 10)
    (h_38 : (¬ 9 < x4) → (¬ fk (x4 : Int32).toNatClampNeg = none) → vp_in (x4) 10)
    (g_39 : (¬ 9 < x4) → (¬ fk (x4 : Int32).toNatClampNeg = none) → ∃ (a39 i39 : Nat) (u39_0 : Int32) (u39_1 : Int32) (u39_2 : Nat), fk (x4 : Int32).toNatClampNeg = some a39 ∧ P[i39]? = some (a39, .inr (5, [.int u39_0, .int u39_1, .ref u39_2])))
    (b_42 : (¬ 9 < x4) → (¬ fk (x4 : Int32).toNatClampNeg = none) → ∀ (a39 i39 : Nat) (u39_0 : Int32) (u39_1 : Int32) (u39_2 : Nat), fk (x4 : Int32).toNatClampNeg = some a39 → P[i39]? = some (a39, .inr (5, [.int u39_0, .int u39_1, .ref u39_2])) → c0 ≤ 1 ∧ s0 ≤ 61)
    (m_42 : (¬ 9 < x4) → (¬ fk (x4 : Int32).toNatClampNeg = none) → ∀ (a39 i39 : Nat) (u39_0 : Int32) (u39_1 : Int32) (u39_2 : Nat), fk (x4 : Int32).toNatClampNeg = some a39 → P[i39]? = some (a39, .inr (5, [.int u39_0, .int u39_1, .ref u39_2])) → uI C.1 y_Ed_asNext (Cond.code y_Ed_asNext b_Ed_asNext 2 (some .int)) 1 0 0 [.ref h0, .int u39_0] ([(x1, .inl (C.1.2.2.2.1 1, 61, .inr (.inl lf))), (h0, .inr (3, [.ref qa, .ref ka, .int es, .long e1, .long e2, .long e3]))] ++ (P)) P_42)
    (k_42 : (¬ 9 < x4) → (¬ fk (x4 : Int32).toNatClampNeg = none) → ∀ (a39 i39 : Nat) (u39_0 : Int32) (u39_1 : Int32) (u39_2 : Nat), fk (x4 : Int32).toNatClampNeg = some a39 → P[i39]? = some (a39, .inr (5, [.int u39_0, .int u39_1, .ref u39_2])) → ∀ (r : Int32) (u : va_W), P_42 r u → zc_Ed_study C Post c0 s0 45 [(0, .ref h0), (1, .ref x1), (2, .long x2), (4, .int x4)] [.int r] (u))
    (k_45 : (¬ 9 < x4) → (fk (x4 : Int32).toNatClampNeg = none) → zc_Ed_study C Post c0 s0 45 [(0, .ref h0), (1, .ref x1), (2, .long x2), (4, .int x4)] [.int 0] ([(x1, .inl (C.1.2.2.2.1 1, 61, .inr (.inl lf))), (h0, .inr (3, [.ref qa, .ref ka, .int es, .long e1, .long e2, .long e3]))] ++ (P))) : zc_Ed_study C Post c0 s0 10 [(0, .ref h0), (1, .ref x1), (2, .long x2), (4, .int x4)] [] ([(x1, .inl (C.1.2.2.2.1 1, 61, .inr (.inl lf))), (h0, .inr (3, [.ref qa, .ref ka, .int es, .long e1, .long e2, .long e3]))] ++ (P)) := by
  obtain ⟨⟨l, dC, dI, k, a⟩, p, e, s, m, args, below, meth, c, A⟩ := C
  obtain ⟨hx, hb, hr, htz, hown, hlocks, hml, hE, hK, hA⟩ := X
  intro H locs ls hl hP hD hS
  have hl : lv_has ls 6 [(0, .ref h0), (1, .ref x1), (2, .long x2), (4, .int x4)] := hl
  have hP : va_P (dC, dI) classes ([(x1, .inl (k 1, 61, .inr (.inl lf))), (h0, .inr (3, [.ref qa, .ref ka, .int es, .long e1, .long e2, .long e3]))] ++ (P)) H := hP
  have hD : va_D A ([(x1, .inl (k 1, 61, .inr (.inl lf))), (h0, .inr (3, [.ref qa, .ref ka, .int es, .long e1, .long e2, .long e3]))] ++ (P)) := hD
  show W p l e (z_rm 5 1 61) s m args below meth c H locs c0 s0 _ (F0 m 10 ls [])
  refine lv_iload hx hb d_Ed_study_10 (lv_at hl 3 rfl) ?_
  refine lv_bipush (v := 9) hx hb d_Ed_study_12 (by decide) ?_
  refine lv_icmp_gt (tgt := 98) hx hb d_Ed_study_14 (by decide) (fun c_14 => ?_) (fun c_14 => ?_)
  · refine lv_iconst (v := 1) hx hb d_Ed_study_98 (by decide) ?_
    refine lv_istore (lv' := [(4, .int 1), (0, .ref h0), (1, .ref x1), (2, .long x2)]) hx hb d_Ed_study_99 hl (by decide) rfl (fun ls hl => ?_)
    exact (k_101 c_14) H locs ls (lv_sub hl [1, 2, 3, 0] rfl) hP hD hS
  · refine lv_aload_n hx hb d_Ed_study_17 rfl (lv_at hl 0 rfl) ?_
    refine va_get (D := (dC, dI)) (ci := 3) (v := .ref ka) (C := R_Ed) (T := F_Ed) (N := 6) hx hb htz i_Ed hown hK hP 1 rfl rfl 1 (by decide) (htz _ kf_Ed_19) (fun _ h9 => h9) rfl d_Ed_study_18 ?_
    refine lv_iload hx hb d_Ed_study_21 (lv_at hl 3 rfl) ?_
    refine va_aldq hx hb hK hP (i3 + 2) 4 hka rfl (h_23 c_14) d_Ed_study_23 ?_
    refine qv_nn (tgt := 31) hx hb d_Ed_study_24 (by decide) (fun c_24 => ?_) (fun c_24 => ?_)
    · refine lv_aload_n hx hb d_Ed_study_31 rfl (lv_at hl 0 rfl) ?_
      refine lv_aload_n hx hb d_Ed_study_32 rfl (lv_at hl 0 rfl) ?_
      refine va_get (D := (dC, dI)) (ci := 3) (v := .ref ka) (C := R_Ed) (T := F_Ed) (N := 6) hx hb htz i_Ed hown hK hP 1 rfl rfl 1 (by decide) (htz _ kf_Ed_19) (fun _ h9 => h9) rfl d_Ed_study_33 ?_
      refine lv_iload hx hb d_Ed_study_36 (lv_at hl 3 rfl) ?_
      refine va_aldq hx hb hK hP (i3 + 2) 4 hka rfl (h_38 c_14 c_24) d_Ed_study_38 ?_
      obtain ⟨a39, i39, u39_0, u39_1, u39_2, he39, hf39⟩ := (g_39 c_14 c_24)
      rw [he39]
      refine va_getN (D := (dC, dI)) (ci := 5) (v := .int u39_0) (C := R_Ki) (T := F_Ki) (N := 3) hx hb htz i_Ki hown hK hP (i39 + 2) hf39 rfl 0 (by decide) (va_Nw.use rfl (hE.2.1 _ kf_Ed_45)) (fun _ h9 => h9) rfl d_Ed_study_39 ?_
      have hFc : ∀ q, va_A ([(x1, .inl (k 1, 61, .inr (.inl lf))), (h0, .inr (3, [.ref qa, .ref ka, .int es, .long e1, .long e2, .long e3]))] ++ (P)) H.size q → A q := fun q h => h.elim (fun z => by obtain ⟨i9, e9, h9⟩ := z; exact hD.2 i9 _ h9) (fun z => hA q (Nat.le_trans hS.1 z))
      refine va_calli (va_runV (As := [.int u39_0]) (rest := []) ⟨hx, hb, hml, hown, htz⟩ ((m_42 c_14 c_24 a39 i39 u39_0 u39_1 u39_2 he39 hf39) H.size) (cwV 1 htz (z_gV (fun _ h => h) km_Ed_48 in_Ed_asNext se_Ed_asNext ini_Ed m_Ed_asNext) rfl rfl rfl (by decide +kernel) ⟨(Nat.le_of_ble_eq_true rfl), (Nat.le_of_ble_eq_true rfl)⟩) ⟨z_blind, va_recv hK hP (ci := 3) (q0 := 1) rfl rfl, fun U hU hW => ⟨rfl, by rw [hU], hE.call hS hFc hU hW, by rw [hU]; exact hP, va_K.moved hW.alike hK, (hD.weaken (fun _ _ _ _ => trivial))⟩⟩ rfl rfl hl.1 rfl (lv_room (Nat.le_of_ble_eq_true rfl)) d_Ed_study_42 (b_42 c_14 c_24 a39 i39 u39_0 u39_1 u39_2 he39 hf39)) hS (fun q _ h => hFc q h) hFc (fun r u t H1 locs ht hvm hw hB hz1 hk1 hS => ?_)
      obtain ⟨hP1, hK1, hD1⟩ := hB
      rw [ht] at hP1
      have hP := hP1
      have hD := hD1.weaken (fun _ q _ h => hFc _ h)
      exact (k_42 c_14 c_24 a39 i39 u39_0 u39_1 u39_2 he39 hf39) r _ hw H1 locs ls (lv_sub hl [0, 1, 2, 3] rfl) hP hD hS
    · refine lv_iconst (v := 0) hx hb d_Ed_study_27 (by decide) ?_
      refine lv_goto (tgt := 45) hx hb d_Ed_study_28 (by decide) ?_
      exact (k_45 c_14 c_24) H locs ls (lv_sub hl [0, 1, 2, 3] rfl) hP hD hS
set_option maxHeartbeats 1000000 in
set_option maxRecDepth 100000 in
theorem k_Ed_study_45 {C : CT} (X : cM C "QuestionText$Edition" b_Ed_study 6 none) (Post : va_W → Prop) {P_74 : Int32 → va_W → Prop} (x1 : Nat) (x2 : Int64) (x4 : Int32) (y0 : Int32) (P : va_W) (h0 : Nat) (qa : Nat) (ka : Nat) (es : Int32) (e1 : Int64) (e2 : Int64) (e3 : Int64) (fq : Nat → Option Nat) (fk : Nat → Option Nat) (lf : Nat → Int64) (i2 : Nat) (i3 : Nat) (c0 s0 : Nat) (hqa : P[i2]? = some (qa, .inl (C.1.2.2.2.1 3, 61, .inr (.inr (.inr (.inr fq)))))) (hka : P[i3]? = some (ka, .inl (C.1.2.2.2.1 4, 10, .inr (.inr (.inr (.inr fk))))))
    (k_92 : (y0 = 0) → zc_Ed_study C Post c0 s0 92 [(0, .ref h0), (1, .ref x1), (2, .long x2), (4, .int x4), (5, .int y0)] [] ([(x1, .inl (C.1.2.2.2.1 1, 61, .inr (.inl lf))), (h0, .inr (3, [.ref qa, .ref ka, .int es, .long e1, .long e2, .long e3]))] ++ (P)))
    (h_60 : (¬ y0 = 0) → vp_in (y0) 61)
    (h_72 : (¬ y0 = 0) → vp_in (y0) 61)
    (b_74 : (¬ y0 = 0) → c0 ≤ 1 ∧ s0 ≤ 61)
    (m_74 : (¬ y0 = 0) → uI C.1 y_Q_hasMember (Cond.code y_Q_hasMember b_Q_hasMember 3 (some .boolean)) 0 0 0 [.long (lf (y0 : Int32).toNatClampNeg), .int 0] ([]) P_74)
    (k_74 : (¬ y0 = 0) → ∀ (r : Int32) (u : va_W), P_74 r u → zc_Ed_study C Post c0 s0 77 [(0, .ref h0), (1, .ref x1), (2, .long (x2 ||| (((1 : Int64) <<< (y0.toInt64 &&& 63)) ||| (lf (y0 : Int32).toNatClampNeg)))), (4, .int x4), (5, .int y0)] [.int r, .long e3, .ref h0] ([(x1, .inl (C.1.2.2.2.1 1, 61, .inr (.inl lf))), (h0, .inr (3, [.ref qa, .ref ka, .int es, .long e1, .long e2, .long e3]))] ++ (P))) : zc_Ed_study C Post c0 s0 45 [(0, .ref h0), (1, .ref x1), (2, .long x2), (4, .int x4)] [.int y0] ([(x1, .inl (C.1.2.2.2.1 1, 61, .inr (.inl lf))), (h0, .inr (3, [.ref qa, .ref ka, .int es, .long e1, .long e2, .long e3]))] ++ (P)) := by
  obtain ⟨⟨l, dC, dI, k, a⟩, p, e, s, m, args, below, meth, c, A⟩ := C
  obtain ⟨hx, hb, hr, htz, hown, hlocks, hml, hE, hK, hA⟩ := X
  intro H locs ls hl hP hD hS
  have hl : lv_has ls 6 [(0, .ref h0), (1, .ref x1), (2, .long x2), (4, .int x4)] := hl
  have hP : va_P (dC, dI) classes ([(x1, .inl (k 1, 61, .inr (.inl lf))), (h0, .inr (3, [.ref qa, .ref ka, .int es, .long e1, .long e2, .long e3]))] ++ (P)) H := hP
  have hD : va_D A ([(x1, .inl (k 1, 61, .inr (.inl lf))), (h0, .inr (3, [.ref qa, .ref ka, .int es, .long e1, .long e2, .long e3]))] ++ (P)) := hD
  show W p l e (z_rm 5 1 61) s m args below meth c H locs c0 s0 _ (F0 m 45 ls [.int y0])
  refine lv_istore (lv' := [(5, .int y0), (0, .ref h0), (1, .ref x1), (2, .long x2), (4, .int x4)]) hx hb d_Ed_study_45 hl (by decide) rfl (fun ls hl => ?_)
  refine lv_iload hx hb d_Ed_study_47 (lv_at hl 0 rfl) ?_
  refine lv_if_eq (tgt := 92) hx hb d_Ed_study_49 (by decide) (fun c_49 => ?_) (fun c_49 => ?_)
  · exact (k_92 c_49) H locs ls (lv_sub hl [1, 2, 3, 4, 0] rfl) hP hD hS
  · refine lv_lload_n hx hb d_Ed_study_52 rfl (lv_at hl 3 rfl) ?_
    refine lv_lconst (v := 1) hx hb d_Ed_study_53 (by decide) ?_
    refine lv_iload hx hb d_Ed_study_54 (lv_at hl 0 rfl) ?_
    refine lv_lshl (v := (1 : Int64) <<< (y0.toInt64 &&& 63)) hx hb d_Ed_study_56 rfl ?_
    refine lv_aload_n hx hb d_Ed_study_57 rfl (lv_at hl 2 rfl) ?_
    refine lv_iload hx hb d_Ed_study_58 (lv_at hl 0 rfl) ?_
    refine va_lald hx hb hK hP 0 1 rfl rfl (h_60 c_49) d_Ed_study_60 ?_
    refine lv_lor hx hb d_Ed_study_61 ?_
    refine lv_lor hx hb d_Ed_study_62 ?_
    refine lv_lstore_n (lv' := [(2, .long (x2 ||| (((1 : Int64) <<< (y0.toInt64 &&& 63)) ||| (lf (y0 : Int32).toNatClampNeg)))), (5, .int y0), (0, .ref h0), (1, .ref x1), (4, .int x4)]) hx hb d_Ed_study_63 rfl hl (by decide) rfl (fun ls hl => ?_)
    refine lv_aload_n hx hb d_Ed_study_64 rfl (lv_at hl 2 rfl) ?_
    refine lv_dup hx hb d_Ed_study_65 rfl ?_
    refine va_get (D := (dC, dI)) (ci := 3) (v := .long e3) (C := R_Ed) (T := F_Ed) (N := 6) hx hb htz i_Ed hown hK hP 1 rfl rfl 5 (by decide) (htz _ kf_Ed_34) (fun _ h9 => h9) rfl d_Ed_study_66 ?_
    refine lv_aload_n hx hb d_Ed_study_69 rfl (lv_at hl 3 rfl) ?_
    refine lv_iload hx hb d_Ed_study_70 (lv_at hl 1 rfl) ?_
    refine va_lald hx hb hK hP 0 1 rfl rfl (h_72 c_49) d_Ed_study_72 ?_
    refine lv_iconst (v := 0) hx hb d_Ed_study_73 (by decide) ?_
    have hFc : ∀ q, va_A [] H.size q → A q := fun q h => h.elim (fun z => by obtain ⟨i9, e9, h9⟩ := z; cases h9) (fun z => hA q (Nat.le_trans hS.1 z))
    refine va_calli (va_runSN (As := [.long (lf (y0 : Int32).toNatClampNeg), .int 0]) (rest := [.long e3, .ref h0]) ⟨hx, hb, hml, hown, htz⟩ ((m_74 c_49) H.size) ⟨va_cnB 2 htz (z_gI (fun _ h => h) m_Q_hasMember) rfl rfl rfl (hE.2.1 _ km_Ed_52) (htz _ ini_Q) (by decide +kernel) ⟨(Nat.le_of_ble_eq_true rfl), (Nat.le_of_ble_eq_true rfl)⟩, htz _ st_Q_hasMember, trivial⟩ ⟨z_blind, fun U hU hW => ⟨rfl, by rw [hU], hE.call hS hFc hU hW, by rw [hU]; exact zP0, va_K.moved hW.alike hK, zD0⟩⟩ rfl rfl hl.1 rfl (lv_room (Nat.le_of_ble_eq_true rfl)) d_Ed_study_74 (b_74 c_49)) hS (fun q _ h => hFc q h) hFc (fun r u t H1 locs ht hvm hw hB hz1 hk1 hS => ?_)
    obtain ⟨hP1, hK1, hD1⟩ := hB
    rw [ht] at hP1
    have hP : va_P (dC, dI) classes ([(x1, .inl (k 1, 61, .inr (.inl lf))), (h0, .inr (3, [.ref qa, .ref ka, .int es, .long e1, .long e2, .long e3]))] ++ (P)) H1 := hP.kept (fun j q hq => hk1 q.1 (hP j q hq).lt (fun z => z.elim (fun z => by obtain ⟨i9, e9, h9⟩ := z; cases h9) (fun z => absurd z (Nat.not_le.mpr (hP j q hq).lt))))
    exact (k_74 c_49) r _ hw H1 locs ls (lv_sub hl [2, 3, 0, 4, 1] rfl) hP hD hS
set_option maxHeartbeats 1000000 in
set_option maxRecDepth 100000 in
theorem k_Ed_study_77 {C : CT} (X : cM C "QuestionText$Edition" b_Ed_study 6 none) (Post : va_W → Prop) (x1 : Nat) (x2 : Int64) (x4 : Int32) (x5 : Int32) (y0 : Int32) (y1 : Int64) (P : va_W) (h0 : Nat) (qa : Nat) (ka : Nat) (es : Int32) (e1 : Int64) (e2 : Int64) (e3 : Int64) (fq : Nat → Option Nat) (fk : Nat → Option Nat) (lf : Nat → Int64) (i2 : Nat) (i3 : Nat) (c0 s0 : Nat) (hqa : P[i2]? = some (qa, .inl (C.1.2.2.2.1 3, 61, .inr (.inr (.inr (.inr fq)))))) (hka : P[i3]? = some (ka, .inl (C.1.2.2.2.1 4, 10, .inr (.inr (.inr (.inr fk))))))
    (k_88 : (y0 = 0) → zc_Ed_study C Post c0 s0 88 [(0, .ref h0), (1, .ref x1), (2, .long x2), (4, .int x4), (5, .int x5)] [.long ((1 : Int64) <<< (x4.toInt64 &&& 63)), .long y1, .ref h0] ([(x1, .inl (C.1.2.2.2.1 1, 61, .inr (.inl lf))), (h0, .inr (3, [.ref qa, .ref ka, .int es, .long e1, .long e2, .long e3]))] ++ (P)))
    (k_88_1 : (¬ y0 = 0) → zc_Ed_study C Post c0 s0 88 [(0, .ref h0), (1, .ref x1), (2, .long x2), (4, .int x4), (5, .int x5)] [.long 0, .long y1, .ref h0] ([(x1, .inl (C.1.2.2.2.1 1, 61, .inr (.inl lf))), (h0, .inr (3, [.ref qa, .ref ka, .int es, .long e1, .long e2, .long e3]))] ++ (P))) : zc_Ed_study C Post c0 s0 77 [(0, .ref h0), (1, .ref x1), (2, .long x2), (4, .int x4), (5, .int x5)] [.int y0, .long y1, .ref h0] ([(x1, .inl (C.1.2.2.2.1 1, 61, .inr (.inl lf))), (h0, .inr (3, [.ref qa, .ref ka, .int es, .long e1, .long e2, .long e3]))] ++ (P)) := by
  obtain ⟨⟨l, dC, dI, k, a⟩, p, e, s, m, args, below, meth, c, A⟩ := C
  obtain ⟨hx, hb, hr, htz, hown, hlocks, hml, hE, hK, hA⟩ := X
  intro H locs ls hl hP hD hS
  have hl : lv_has ls 6 [(0, .ref h0), (1, .ref x1), (2, .long x2), (4, .int x4), (5, .int x5)] := hl
  have hP : va_P (dC, dI) classes ([(x1, .inl (k 1, 61, .inr (.inl lf))), (h0, .inr (3, [.ref qa, .ref ka, .int es, .long e1, .long e2, .long e3]))] ++ (P)) H := hP
  have hD : va_D A ([(x1, .inl (k 1, 61, .inr (.inl lf))), (h0, .inr (3, [.ref qa, .ref ka, .int es, .long e1, .long e2, .long e3]))] ++ (P)) := hD
  show W p l e (z_rm 5 1 61) s m args below meth c H locs c0 s0 _ (F0 m 77 ls [.int y0, .long y1, .ref h0])
  refine lv_if_eq (tgt := 84) hx hb d_Ed_study_77 (by decide) (fun c_77 => ?_) (fun c_77 => ?_)
  · refine lv_lconst (v := 1) hx hb d_Ed_study_84 (by decide) ?_
    refine lv_iload hx hb d_Ed_study_85 (lv_at hl 3 rfl) ?_
    refine lv_lshl (v := (1 : Int64) <<< (x4.toInt64 &&& 63)) hx hb d_Ed_study_87 rfl ?_
    exact (k_88 c_77) H locs ls (lv_sub hl [0, 1, 2, 3, 4] rfl) hP hD hS
  · refine lv_lconst (v := 0) hx hb d_Ed_study_80 (by decide) ?_
    refine lv_goto (tgt := 88) hx hb d_Ed_study_81 (by decide) ?_
    exact (k_88_1 c_77) H locs ls (lv_sub hl [0, 1, 2, 3, 4] rfl) hP hD hS
set_option maxHeartbeats 1000000 in
set_option maxRecDepth 100000 in
theorem k_Ed_study_88 {C : CT} (X : cM C "QuestionText$Edition" b_Ed_study 6 none) (Post : va_W → Prop) (x1 : Nat) (x2 : Int64) (x4 : Int32) (x5 : Int32) (y0 : Int64) (y1 : Int64) (P : va_W) (h0 : Nat) (qa : Nat) (ka : Nat) (es : Int32) (e1 : Int64) (e2 : Int64) (e3 : Int64) (fq : Nat → Option Nat) (fk : Nat → Option Nat) (lf : Nat → Int64) (i2 : Nat) (i3 : Nat) (c0 s0 : Nat) (hqa : P[i2]? = some (qa, .inl (C.1.2.2.2.1 3, 61, .inr (.inr (.inr (.inr fq)))))) (hka : P[i3]? = some (ka, .inl (C.1.2.2.2.1 4, 10, .inr (.inr (.inr (.inr fk))))))
    (k_92 : zc_Ed_study C Post c0 s0 92 [(0, .ref h0), (1, .ref x1), (2, .long x2), (4, .int x4), (5, .int x5)] [] ([(x1, .inl (C.1.2.2.2.1 1, 61, .inr (.inl lf))), (h0, .inr (3, [.ref qa, .ref ka, .int es, .long e1, .long e2, .long (y1 ||| y0)]))] ++ (P))) : zc_Ed_study C Post c0 s0 88 [(0, .ref h0), (1, .ref x1), (2, .long x2), (4, .int x4), (5, .int x5)] [.long y0, .long y1, .ref h0] ([(x1, .inl (C.1.2.2.2.1 1, 61, .inr (.inl lf))), (h0, .inr (3, [.ref qa, .ref ka, .int es, .long e1, .long e2, .long e3]))] ++ (P)) := by
  obtain ⟨⟨l, dC, dI, k, a⟩, p, e, s, m, args, below, meth, c, A⟩ := C
  obtain ⟨hx, hb, hr, htz, hown, hlocks, hml, hE, hK, hA⟩ := X
  intro H locs ls hl hP hD hS
  have hl : lv_has ls 6 [(0, .ref h0), (1, .ref x1), (2, .long x2), (4, .int x4), (5, .int x5)] := hl
  have hP : va_P (dC, dI) classes ([(x1, .inl (k 1, 61, .inr (.inl lf))), (h0, .inr (3, [.ref qa, .ref ka, .int es, .long e1, .long e2, .long e3]))] ++ (P)) H := hP
  have hD : va_D A ([(x1, .inl (k 1, 61, .inr (.inl lf))), (h0, .inr (3, [.ref qa, .ref ka, .int es, .long e1, .long e2, .long e3]))] ++ (P)) := hD
  show W p l e (z_rm 5 1 61) s m args below meth c H locs c0 s0 _ (F0 m 88 ls [.long y0, .long y1, .ref h0])
  refine lv_lor hx hb d_Ed_study_88 ?_
  refine va_put (D := (dC, dI)) (ci := 3) (v := .long (y1 ||| y0)) (ty := .long) (C := R_Ed) (T := F_Ed) (N := 6) hx hb htz i_Ed t_Ed o_Ed n_Ed hown hK hP hD hS 1 rfl rfl 5 (by decide) (htz _ kf_Ed_34) (fun _ h9 => h9) rfl (by decide +kernel) rfl rfl (Nat.le_of_ble_eq_true rfl) d_Ed_study_89 (fun H locs hP hD hS => ?_)
  have hP : va_P (dC, dI) classes ([(x1, .inl (k 1, 61, .inr (.inl lf))), (h0, .inr (3, [.ref qa, .ref ka, .int es, .long e1, .long e2, .long (y1 ||| y0)]))] ++ (P)) H := hP
  have hD : va_D A ([(x1, .inl (k 1, 61, .inr (.inl lf))), (h0, .inr (3, [.ref qa, .ref ka, .int es, .long e1, .long e2, .long (y1 ||| y0)]))] ++ (P)) := hD
  exact k_92 H locs ls (lv_sub hl [0, 1, 2, 3, 4] rfl) hP hD hS
set_option maxHeartbeats 1000000 in
set_option maxRecDepth 100000 in
theorem k_Ed_study_92 {C : CT} (X : cM C "QuestionText$Edition" b_Ed_study 6 none) (Post : va_W → Prop) (x1 : Nat) (x2 : Int64) (x4 : Int32) (x5 : Int32) (P : va_W) (h0 : Nat) (qa : Nat) (ka : Nat) (es : Int32) (e1 : Int64) (e2 : Int64) (e3 : Int64) (fq : Nat → Option Nat) (fk : Nat → Option Nat) (lf : Nat → Int64) (i2 : Nat) (i3 : Nat) (c0 s0 : Nat) (hqa : P[i2]? = some (qa, .inl (C.1.2.2.2.1 3, 61, .inr (.inr (.inr (.inr fq)))))) (hka : P[i3]? = some (ka, .inl (C.1.2.2.2.1 4, 10, .inr (.inr (.inr (.inr fk))))))
    (k_10 : zc_Ed_study C Post c0 s0 10 [(0, .ref h0), (1, .ref x1), (2, .long x2), (4, .int (x4 + 1))] [] ([(x1, .inl (C.1.2.2.2.1 1, 61, .inr (.inl lf))), (h0, .inr (3, [.ref qa, .ref ka, .int es, .long e1, .long e2, .long e3]))] ++ (P))) : zc_Ed_study C Post c0 s0 92 [(0, .ref h0), (1, .ref x1), (2, .long x2), (4, .int x4), (5, .int x5)] [] ([(x1, .inl (C.1.2.2.2.1 1, 61, .inr (.inl lf))), (h0, .inr (3, [.ref qa, .ref ka, .int es, .long e1, .long e2, .long e3]))] ++ (P)) := by
  obtain ⟨⟨l, dC, dI, k, a⟩, p, e, s, m, args, below, meth, c, A⟩ := C
  obtain ⟨hx, hb, hr, htz, hown, hlocks, hml, hE, hK, hA⟩ := X
  intro H locs ls hl hP hD hS
  have hl : lv_has ls 6 [(0, .ref h0), (1, .ref x1), (2, .long x2), (4, .int x4), (5, .int x5)] := hl
  have hP : va_P (dC, dI) classes ([(x1, .inl (k 1, 61, .inr (.inl lf))), (h0, .inr (3, [.ref qa, .ref ka, .int es, .long e1, .long e2, .long e3]))] ++ (P)) H := hP
  have hD : va_D A ([(x1, .inl (k 1, 61, .inr (.inl lf))), (h0, .inr (3, [.ref qa, .ref ka, .int es, .long e1, .long e2, .long e3]))] ++ (P)) := hD
  show W p l e (z_rm 5 1 61) s m args below meth c H locs c0 s0 _ (F0 m 92 ls [])
  refine lv_iinc (v := x4 + 1) (lv' := [(4, .int (x4 + 1)), (0, .ref h0), (1, .ref x1), (2, .long x2), (5, .int x5)]) hx hb d_Ed_study_92 hl (k := 3) rfl (rfl) (by decide) rfl (fun ls hl => ?_)
  refine lv_goto (tgt := 10) hx hb d_Ed_study_95 (by decide) ?_
  exact k_10 H locs ls (lv_sub hl [1, 2, 3, 0] rfl) hP hD hS
set_option maxHeartbeats 1000000 in
set_option maxRecDepth 100000 in
theorem k_Ed_study_101 {C : CT} (X : cM C "QuestionText$Edition" b_Ed_study 6 none) (Post : va_W → Prop) {P_139 : Int32 → va_W → Prop} (x1 : Nat) (x2 : Int64) (x4 : Int32) (P : va_W) (h0 : Nat) (qa : Nat) (ka : Nat) (es : Int32) (e1 : Int64) (e2 : Int64) (e3 : Int64) (fq : Nat → Option Nat) (fk : Nat → Option Nat) (lf : Nat → Int64) (i2 : Nat) (i3 : Nat) (c0 s0 : Nat) (hqa : P[i2]? = some (qa, .inl (C.1.2.2.2.1 3, 61, .inr (.inr (.inr (.inr fq)))))) (hka : P[i3]? = some (ka, .inl (C.1.2.2.2.1 4, 10, .inr (.inr (.inr (.inr fk))))))
    (b_189 : (60 < x4) → c0 ≤ 1 ∧ s0 ≤ 61)
    (q_189 : (60 < x4) → Post ([(x1, .inl (C.1.2.2.2.1 1, 61, .inr (.inl lf))), (h0, .inr (3, [.ref qa, .ref ka, .int es, .long e1, .long e2, .long e3]))] ++ (P)))
    (h_114 : (¬ 60 < x4) → vp_in (x4) 61)
    (k_183 : (¬ 60 < x4) → (fq (x4 : Int32).toNatClampNeg = none) → zc_Ed_study C Post c0 s0 183 [(0, .ref h0), (1, .ref x1), (2, .long x2), (4, .int x4)] [] ([(x1, .inl (C.1.2.2.2.1 1, 61, .inr (.inl lf))), (h0, .inr (3, [.ref qa, .ref ka, .int es, .long e1, .long e2, .long e3]))] ++ (P)))
    (h_136 : (¬ 60 < x4) → (¬ fq (x4 : Int32).toNatClampNeg = none) → vp_in (x4) 61)
    (b_139 : (¬ 60 < x4) → (¬ fq (x4 : Int32).toNatClampNeg = none) → c0 ≤ 1 ∧ s0 ≤ 61)
    (m_139 : (¬ 60 < x4) → (¬ fq (x4 : Int32).toNatClampNeg = none) → uI C.1 y_Q_hasMember (Cond.code y_Q_hasMember b_Q_hasMember 3 (some .boolean)) 0 0 0 [.long (lf (x4 : Int32).toNatClampNeg), .int x4] ([]) P_139)
    (k_139 : (¬ 60 < x4) → (¬ fq (x4 : Int32).toNatClampNeg = none) → ∀ (r : Int32) (u : va_W), P_139 r u → zc_Ed_study C Post c0 s0 142 [(0, .ref h0), (1, .ref x1), (2, .long x2), (4, .int x4)] [.int r, .long e1, .ref h0] ([(x1, .inl (C.1.2.2.2.1 1, 61, .inr (.inl lf))), (h0, .inr (3, [.ref qa, .ref ka, .int (es + 1), .long e1, .long e2, .long e3]))] ++ (P))) : zc_Ed_study C Post c0 s0 101 [(0, .ref h0), (1, .ref x1), (2, .long x2), (4, .int x4)] [] ([(x1, .inl (C.1.2.2.2.1 1, 61, .inr (.inl lf))), (h0, .inr (3, [.ref qa, .ref ka, .int es, .long e1, .long e2, .long e3]))] ++ (P)) := by
  obtain ⟨⟨l, dC, dI, k, a⟩, p, e, s, m, args, below, meth, c, A⟩ := C
  obtain ⟨hx, hb, hr, htz, hown, hlocks, hml, hE, hK, hA⟩ := X
  intro H locs ls hl hP hD hS
  have hl : lv_has ls 6 [(0, .ref h0), (1, .ref x1), (2, .long x2), (4, .int x4)] := hl
  have hP : va_P (dC, dI) classes ([(x1, .inl (k 1, 61, .inr (.inl lf))), (h0, .inr (3, [.ref qa, .ref ka, .int es, .long e1, .long e2, .long e3]))] ++ (P)) H := hP
  have hD : va_D A ([(x1, .inl (k 1, 61, .inr (.inl lf))), (h0, .inr (3, [.ref qa, .ref ka, .int es, .long e1, .long e2, .long e3]))] ++ (P)) := hD
  show W p l e (z_rm 5 1 61) s m args below meth c H locs c0 s0 _ (F0 m 101 ls [])
  refine lv_iload hx hb d_Ed_study_101 (lv_at hl 3 rfl) ?_
  refine lv_bipush (v := 60) hx hb d_Ed_study_103 (by decide) ?_
  refine lv_icmp_gt (tgt := 189) hx hb d_Ed_study_105 (by decide) (fun c_105 => ?_) (fun c_105 => ?_)
  · refine W.widen (k := 1) (n := 61) (b_189 c_105).1 (b_189 c_105).2 ?_
    exact W.vret hx hb hr (fun t ht hW => ⟨⟨([(x1, .inl (k 1, 61, .inr (.inl lf))), (h0, .inr (3, [.ref qa, .ref ka, .int es, .long e1, .long e2, .long e3]))] ++ (P)), rfl, (q_189 c_105), by rw [ht]; exact hP, va_K.moved hW.alike hK, hD⟩, hS.F ht⟩) hS.2.2 d_Ed_study_189
  · refine lv_aload_n hx hb d_Ed_study_108 rfl (lv_at hl 0 rfl) ?_
    refine va_get (D := (dC, dI)) (ci := 3) (v := .ref qa) (C := R_Ed) (T := F_Ed) (N := 6) hx hb htz i_Ed hown hK hP 1 rfl rfl 0 (by decide) (htz _ kf_Ed_11) (fun _ h9 => h9) rfl d_Ed_study_109 ?_
    refine lv_iload hx hb d_Ed_study_112 (lv_at hl 3 rfl) ?_
    refine va_aldq hx hb hK hP (i2 + 2) 3 hqa rfl (h_114 c_105) d_Ed_study_114 ?_
    refine qv_nl (tgt := 183) hx hb d_Ed_study_115 (by decide) (fun c_115 => ?_) (fun c_115 => ?_)
    · exact (k_183 c_105 c_115) H locs ls (lv_sub hl [0, 1, 2, 3] rfl) hP hD hS
    · refine lv_aload_n hx hb d_Ed_study_118 rfl (lv_at hl 0 rfl) ?_
      refine lv_dup hx hb d_Ed_study_119 rfl ?_
      refine va_get (D := (dC, dI)) (ci := 3) (v := .int es) (C := R_Ed) (T := F_Ed) (N := 6) hx hb htz i_Ed hown hK hP 1 rfl rfl 2 (by decide) (htz _ kf_Ed_23) (fun _ h9 => h9) rfl d_Ed_study_120 ?_
      refine lv_iconst (v := 1) hx hb d_Ed_study_123 (by decide) ?_
      refine lv_iadd hx hb d_Ed_study_124 ?_
      refine va_put (D := (dC, dI)) (ci := 3) (v := .int (es + 1)) (ty := .int) (C := R_Ed) (T := F_Ed) (N := 6) hx hb htz i_Ed t_Ed o_Ed n_Ed hown hK hP hD hS 1 rfl rfl 2 (by decide) (htz _ kf_Ed_23) (fun _ h9 => h9) rfl (by decide +kernel) rfl rfl (Nat.le_of_ble_eq_true rfl) d_Ed_study_125 (fun H locs hP hD hS => ?_)
      have hP : va_P (dC, dI) classes ([(x1, .inl (k 1, 61, .inr (.inl lf))), (h0, .inr (3, [.ref qa, .ref ka, .int (es + 1), .long e1, .long e2, .long e3]))] ++ (P)) H := hP
      have hD : va_D A ([(x1, .inl (k 1, 61, .inr (.inl lf))), (h0, .inr (3, [.ref qa, .ref ka, .int (es + 1), .long e1, .long e2, .long e3]))] ++ (P)) := hD
      refine lv_aload_n hx hb d_Ed_study_128 rfl (lv_at hl 0 rfl) ?_
      refine lv_dup hx hb d_Ed_study_129 rfl ?_
      refine va_get (D := (dC, dI)) (ci := 3) (v := .long e1) (C := R_Ed) (T := F_Ed) (N := 6) hx hb htz i_Ed hown hK hP 1 rfl rfl 3 (by decide) (htz _ kf_Ed_27) (fun _ h9 => h9) rfl d_Ed_study_130 ?_
      refine lv_aload_n hx hb d_Ed_study_133 rfl (lv_at hl 1 rfl) ?_
      refine lv_iload hx hb d_Ed_study_134 (lv_at hl 3 rfl) ?_
      refine va_lald hx hb hK hP 0 1 rfl rfl (h_136 c_105 c_115) d_Ed_study_136 ?_
      refine lv_iload hx hb d_Ed_study_137 (lv_at hl 3 rfl) ?_
      have hFc : ∀ q, va_A [] H.size q → A q := fun q h => h.elim (fun z => by obtain ⟨i9, e9, h9⟩ := z; cases h9) (fun z => hA q (Nat.le_trans hS.1 z))
      refine va_calli (va_runSN (As := [.long (lf (x4 : Int32).toNatClampNeg), .int x4]) (rest := [.long e1, .ref h0]) ⟨hx, hb, hml, hown, htz⟩ ((m_139 c_105 c_115) H.size) ⟨va_cnB 2 htz (z_gI (fun _ h => h) m_Q_hasMember) rfl rfl rfl (hE.2.1 _ km_Ed_52) (htz _ ini_Q) (by decide +kernel) ⟨(Nat.le_of_ble_eq_true rfl), (Nat.le_of_ble_eq_true rfl)⟩, htz _ st_Q_hasMember, trivial⟩ ⟨z_blind, fun U hU hW => ⟨rfl, by rw [hU], hE.call hS hFc hU hW, by rw [hU]; exact zP0, va_K.moved hW.alike hK, zD0⟩⟩ rfl rfl hl.1 rfl (lv_room (Nat.le_of_ble_eq_true rfl)) d_Ed_study_139 (b_139 c_105 c_115)) hS (fun q _ h => hFc q h) hFc (fun r u t H1 locs ht hvm hw hB hz1 hk1 hS => ?_)
      obtain ⟨hP1, hK1, hD1⟩ := hB
      rw [ht] at hP1
      have hP : va_P (dC, dI) classes ([(x1, .inl (k 1, 61, .inr (.inl lf))), (h0, .inr (3, [.ref qa, .ref ka, .int (es + 1), .long e1, .long e2, .long e3]))] ++ (P)) H1 := hP.kept (fun j q hq => hk1 q.1 (hP j q hq).lt (fun z => z.elim (fun z => by obtain ⟨i9, e9, h9⟩ := z; cases h9) (fun z => absurd z (Nat.not_le.mpr (hP j q hq).lt))))
      exact (k_139 c_105 c_115) r _ hw H1 locs ls (lv_sub hl [0, 1, 2, 3] rfl) hP hD hS
set_option maxHeartbeats 1000000 in
set_option maxRecDepth 100000 in
theorem k_Ed_study_142 {C : CT} (X : cM C "QuestionText$Edition" b_Ed_study 6 none) (Post : va_W → Prop) (x1 : Nat) (x2 : Int64) (x4 : Int32) (y0 : Int32) (y1 : Int64) (P : va_W) (h0 : Nat) (qa : Nat) (ka : Nat) (es : Int32) (e1 : Int64) (e2 : Int64) (e3 : Int64) (fq : Nat → Option Nat) (fk : Nat → Option Nat) (lf : Nat → Int64) (i2 : Nat) (i3 : Nat) (c0 s0 : Nat) (hqa : P[i2]? = some (qa, .inl (C.1.2.2.2.1 3, 61, .inr (.inr (.inr (.inr fq)))))) (hka : P[i3]? = some (ka, .inl (C.1.2.2.2.1 4, 10, .inr (.inr (.inr (.inr fk))))))
    (k_153 : (y0 = 0) → zc_Ed_study C Post c0 s0 153 [(0, .ref h0), (1, .ref x1), (2, .long x2), (4, .int x4)] [.long 0, .long y1, .ref h0] ([(x1, .inl (C.1.2.2.2.1 1, 61, .inr (.inl lf))), (h0, .inr (3, [.ref qa, .ref ka, .int es, .long e1, .long e2, .long e3]))] ++ (P)))
    (k_153_1 : (¬ y0 = 0) → zc_Ed_study C Post c0 s0 153 [(0, .ref h0), (1, .ref x1), (2, .long x2), (4, .int x4)] [.long ((1 : Int64) <<< (x4.toInt64 &&& 63)), .long y1, .ref h0] ([(x1, .inl (C.1.2.2.2.1 1, 61, .inr (.inl lf))), (h0, .inr (3, [.ref qa, .ref ka, .int es, .long e1, .long e2, .long e3]))] ++ (P))) : zc_Ed_study C Post c0 s0 142 [(0, .ref h0), (1, .ref x1), (2, .long x2), (4, .int x4)] [.int y0, .long y1, .ref h0] ([(x1, .inl (C.1.2.2.2.1 1, 61, .inr (.inl lf))), (h0, .inr (3, [.ref qa, .ref ka, .int es, .long e1, .long e2, .long e3]))] ++ (P)) := by
  obtain ⟨⟨l, dC, dI, k, a⟩, p, e, s, m, args, below, meth, c, A⟩ := C
  obtain ⟨hx, hb, hr, htz, hown, hlocks, hml, hE, hK, hA⟩ := X
  intro H locs ls hl hP hD hS
  have hl : lv_has ls 6 [(0, .ref h0), (1, .ref x1), (2, .long x2), (4, .int x4)] := hl
  have hP : va_P (dC, dI) classes ([(x1, .inl (k 1, 61, .inr (.inl lf))), (h0, .inr (3, [.ref qa, .ref ka, .int es, .long e1, .long e2, .long e3]))] ++ (P)) H := hP
  have hD : va_D A ([(x1, .inl (k 1, 61, .inr (.inl lf))), (h0, .inr (3, [.ref qa, .ref ka, .int es, .long e1, .long e2, .long e3]))] ++ (P)) := hD
  show W p l e (z_rm 5 1 61) s m args below meth c H locs c0 s0 _ (F0 m 142 ls [.int y0, .long y1, .ref h0])
  refine lv_if_eq (tgt := 152) hx hb d_Ed_study_142 (by decide) (fun c_142 => ?_) (fun c_142 => ?_)
  · refine lv_lconst (v := 0) hx hb d_Ed_study_152 (by decide) ?_
    exact (k_153 c_142) H locs ls (lv_sub hl [0, 1, 2, 3] rfl) hP hD hS
  · refine lv_lconst (v := 1) hx hb d_Ed_study_145 (by decide) ?_
    refine lv_iload hx hb d_Ed_study_146 (lv_at hl 3 rfl) ?_
    refine lv_lshl (v := (1 : Int64) <<< (x4.toInt64 &&& 63)) hx hb d_Ed_study_148 rfl ?_
    refine lv_goto (tgt := 153) hx hb d_Ed_study_149 (by decide) ?_
    exact (k_153_1 c_142) H locs ls (lv_sub hl [0, 1, 2, 3] rfl) hP hD hS
set_option maxHeartbeats 1000000 in
set_option maxRecDepth 100000 in
theorem k_Ed_study_153 {C : CT} (X : cM C "QuestionText$Edition" b_Ed_study 6 none) (Post : va_W → Prop) {P_165 : Int32 → va_W → Prop} (x1 : Nat) (x2 : Int64) (x4 : Int32) (y0 : Int64) (y1 : Int64) (P : va_W) (h0 : Nat) (qa : Nat) (ka : Nat) (es : Int32) (e1 : Int64) (e2 : Int64) (e3 : Int64) (fq : Nat → Option Nat) (fk : Nat → Option Nat) (lf : Nat → Int64) (i2 : Nat) (i3 : Nat) (c0 s0 : Nat) (hqa : P[i2]? = some (qa, .inl (C.1.2.2.2.1 3, 61, .inr (.inr (.inr (.inr fq)))))) (hka : P[i3]? = some (ka, .inl (C.1.2.2.2.1 4, 10, .inr (.inr (.inr (.inr fk))))))
    (b_165 : c0 ≤ 1 ∧ s0 ≤ 61)
    (m_165 : uI C.1 y_Q_hasMember (Cond.code y_Q_hasMember b_Q_hasMember 3 (some .boolean)) 0 0 0 [.long x2, .int x4] ([]) P_165)
    (k_165 : ∀ (r : Int32) (u : va_W), P_165 r u → zc_Ed_study C Post c0 s0 168 [(0, .ref h0), (1, .ref x1), (2, .long x2), (4, .int x4)] [.int r, .long e2, .ref h0] ([(x1, .inl (C.1.2.2.2.1 1, 61, .inr (.inl lf))), (h0, .inr (3, [.ref qa, .ref ka, .int es, .long (y1 ||| y0), .long e2, .long e3]))] ++ (P))) : zc_Ed_study C Post c0 s0 153 [(0, .ref h0), (1, .ref x1), (2, .long x2), (4, .int x4)] [.long y0, .long y1, .ref h0] ([(x1, .inl (C.1.2.2.2.1 1, 61, .inr (.inl lf))), (h0, .inr (3, [.ref qa, .ref ka, .int es, .long e1, .long e2, .long e3]))] ++ (P)) := by
  obtain ⟨⟨l, dC, dI, k, a⟩, p, e, s, m, args, below, meth, c, A⟩ := C
  obtain ⟨hx, hb, hr, htz, hown, hlocks, hml, hE, hK, hA⟩ := X
  intro H locs ls hl hP hD hS
  have hl : lv_has ls 6 [(0, .ref h0), (1, .ref x1), (2, .long x2), (4, .int x4)] := hl
  have hP : va_P (dC, dI) classes ([(x1, .inl (k 1, 61, .inr (.inl lf))), (h0, .inr (3, [.ref qa, .ref ka, .int es, .long e1, .long e2, .long e3]))] ++ (P)) H := hP
  have hD : va_D A ([(x1, .inl (k 1, 61, .inr (.inl lf))), (h0, .inr (3, [.ref qa, .ref ka, .int es, .long e1, .long e2, .long e3]))] ++ (P)) := hD
  show W p l e (z_rm 5 1 61) s m args below meth c H locs c0 s0 _ (F0 m 153 ls [.long y0, .long y1, .ref h0])
  refine lv_lor hx hb d_Ed_study_153 ?_
  refine va_put (D := (dC, dI)) (ci := 3) (v := .long (y1 ||| y0)) (ty := .long) (C := R_Ed) (T := F_Ed) (N := 6) hx hb htz i_Ed t_Ed o_Ed n_Ed hown hK hP hD hS 1 rfl rfl 3 (by decide) (htz _ kf_Ed_27) (fun _ h9 => h9) rfl (by decide +kernel) rfl rfl (Nat.le_of_ble_eq_true rfl) d_Ed_study_154 (fun H locs hP hD hS => ?_)
  have hP : va_P (dC, dI) classes ([(x1, .inl (k 1, 61, .inr (.inl lf))), (h0, .inr (3, [.ref qa, .ref ka, .int es, .long (y1 ||| y0), .long e2, .long e3]))] ++ (P)) H := hP
  have hD : va_D A ([(x1, .inl (k 1, 61, .inr (.inl lf))), (h0, .inr (3, [.ref qa, .ref ka, .int es, .long (y1 ||| y0), .long e2, .long e3]))] ++ (P)) := hD
  refine lv_aload_n hx hb d_Ed_study_157 rfl (lv_at hl 0 rfl) ?_
  refine lv_dup hx hb d_Ed_study_158 rfl ?_
  refine va_get (D := (dC, dI)) (ci := 3) (v := .long e2) (C := R_Ed) (T := F_Ed) (N := 6) hx hb htz i_Ed hown hK hP 1 rfl rfl 4 (by decide) (htz _ kf_Ed_31) (fun _ h9 => h9) rfl d_Ed_study_159 ?_
  refine lv_lload_n hx hb d_Ed_study_162 rfl (lv_at hl 2 rfl) ?_
  refine lv_iload hx hb d_Ed_study_163 (lv_at hl 3 rfl) ?_
  have hFc : ∀ q, va_A [] H.size q → A q := fun q h => h.elim (fun z => by obtain ⟨i9, e9, h9⟩ := z; cases h9) (fun z => hA q (Nat.le_trans hS.1 z))
  refine va_calli (va_runSN (As := [.long x2, .int x4]) (rest := [.long e2, .ref h0]) ⟨hx, hb, hml, hown, htz⟩ (m_165 H.size) ⟨va_cnB 2 htz (z_gI (fun _ h => h) m_Q_hasMember) rfl rfl rfl (hE.2.1 _ km_Ed_52) (htz _ ini_Q) (by decide +kernel) ⟨(Nat.le_of_ble_eq_true rfl), (Nat.le_of_ble_eq_true rfl)⟩, htz _ st_Q_hasMember, trivial⟩ ⟨z_blind, fun U hU hW => ⟨rfl, by rw [hU], hE.call hS hFc hU hW, by rw [hU]; exact zP0, va_K.moved hW.alike hK, zD0⟩⟩ rfl rfl hl.1 rfl (lv_room (Nat.le_of_ble_eq_true rfl)) d_Ed_study_165 b_165) hS (fun q _ h => hFc q h) hFc (fun r u t H1 locs ht hvm hw hB hz1 hk1 hS => ?_)
  obtain ⟨hP1, hK1, hD1⟩ := hB
  rw [ht] at hP1
  have hP : va_P (dC, dI) classes ([(x1, .inl (k 1, 61, .inr (.inl lf))), (h0, .inr (3, [.ref qa, .ref ka, .int es, .long (y1 ||| y0), .long e2, .long e3]))] ++ (P)) H1 := hP.kept (fun j q hq => hk1 q.1 (hP j q hq).lt (fun z => z.elim (fun z => by obtain ⟨i9, e9, h9⟩ := z; cases h9) (fun z => absurd z (Nat.not_le.mpr (hP j q hq).lt))))
  exact k_165 r _ hw H1 locs ls (lv_sub hl [0, 1, 2, 3] rfl) hP hD hS
set_option maxHeartbeats 1000000 in
set_option maxRecDepth 100000 in
theorem k_Ed_study_168 {C : CT} (X : cM C "QuestionText$Edition" b_Ed_study 6 none) (Post : va_W → Prop) (x1 : Nat) (x2 : Int64) (x4 : Int32) (y0 : Int32) (y1 : Int64) (P : va_W) (h0 : Nat) (qa : Nat) (ka : Nat) (es : Int32) (e1 : Int64) (e2 : Int64) (e3 : Int64) (fq : Nat → Option Nat) (fk : Nat → Option Nat) (lf : Nat → Int64) (i2 : Nat) (i3 : Nat) (c0 s0 : Nat) (hqa : P[i2]? = some (qa, .inl (C.1.2.2.2.1 3, 61, .inr (.inr (.inr (.inr fq)))))) (hka : P[i3]? = some (ka, .inl (C.1.2.2.2.1 4, 10, .inr (.inr (.inr (.inr fk))))))
    (k_179 : (y0 = 0) → zc_Ed_study C Post c0 s0 179 [(0, .ref h0), (1, .ref x1), (2, .long x2), (4, .int x4)] [.long ((1 : Int64) <<< (x4.toInt64 &&& 63)), .long y1, .ref h0] ([(x1, .inl (C.1.2.2.2.1 1, 61, .inr (.inl lf))), (h0, .inr (3, [.ref qa, .ref ka, .int es, .long e1, .long e2, .long e3]))] ++ (P)))
    (k_179_1 : (¬ y0 = 0) → zc_Ed_study C Post c0 s0 179 [(0, .ref h0), (1, .ref x1), (2, .long x2), (4, .int x4)] [.long 0, .long y1, .ref h0] ([(x1, .inl (C.1.2.2.2.1 1, 61, .inr (.inl lf))), (h0, .inr (3, [.ref qa, .ref ka, .int es, .long e1, .long e2, .long e3]))] ++ (P))) : zc_Ed_study C Post c0 s0 168 [(0, .ref h0), (1, .ref x1), (2, .long x2), (4, .int x4)] [.int y0, .long y1, .ref h0] ([(x1, .inl (C.1.2.2.2.1 1, 61, .inr (.inl lf))), (h0, .inr (3, [.ref qa, .ref ka, .int es, .long e1, .long e2, .long e3]))] ++ (P)) := by
  obtain ⟨⟨l, dC, dI, k, a⟩, p, e, s, m, args, below, meth, c, A⟩ := C
  obtain ⟨hx, hb, hr, htz, hown, hlocks, hml, hE, hK, hA⟩ := X
  intro H locs ls hl hP hD hS
  have hl : lv_has ls 6 [(0, .ref h0), (1, .ref x1), (2, .long x2), (4, .int x4)] := hl
  have hP : va_P (dC, dI) classes ([(x1, .inl (k 1, 61, .inr (.inl lf))), (h0, .inr (3, [.ref qa, .ref ka, .int es, .long e1, .long e2, .long e3]))] ++ (P)) H := hP
  have hD : va_D A ([(x1, .inl (k 1, 61, .inr (.inl lf))), (h0, .inr (3, [.ref qa, .ref ka, .int es, .long e1, .long e2, .long e3]))] ++ (P)) := hD
  show W p l e (z_rm 5 1 61) s m args below meth c H locs c0 s0 _ (F0 m 168 ls [.int y0, .long y1, .ref h0])
  refine lv_if_eq (tgt := 175) hx hb d_Ed_study_168 (by decide) (fun c_168 => ?_) (fun c_168 => ?_)
  · refine lv_lconst (v := 1) hx hb d_Ed_study_175 (by decide) ?_
    refine lv_iload hx hb d_Ed_study_176 (lv_at hl 3 rfl) ?_
    refine lv_lshl (v := (1 : Int64) <<< (x4.toInt64 &&& 63)) hx hb d_Ed_study_178 rfl ?_
    exact (k_179 c_168) H locs ls (lv_sub hl [0, 1, 2, 3] rfl) hP hD hS
  · refine lv_lconst (v := 0) hx hb d_Ed_study_171 (by decide) ?_
    refine lv_goto (tgt := 179) hx hb d_Ed_study_172 (by decide) ?_
    exact (k_179_1 c_168) H locs ls (lv_sub hl [0, 1, 2, 3] rfl) hP hD hS
set_option maxHeartbeats 1000000 in
set_option maxRecDepth 100000 in
theorem k_Ed_study_179 {C : CT} (X : cM C "QuestionText$Edition" b_Ed_study 6 none) (Post : va_W → Prop) (x1 : Nat) (x2 : Int64) (x4 : Int32) (y0 : Int64) (y1 : Int64) (P : va_W) (h0 : Nat) (qa : Nat) (ka : Nat) (es : Int32) (e1 : Int64) (e2 : Int64) (e3 : Int64) (fq : Nat → Option Nat) (fk : Nat → Option Nat) (lf : Nat → Int64) (i2 : Nat) (i3 : Nat) (c0 s0 : Nat) (hqa : P[i2]? = some (qa, .inl (C.1.2.2.2.1 3, 61, .inr (.inr (.inr (.inr fq)))))) (hka : P[i3]? = some (ka, .inl (C.1.2.2.2.1 4, 10, .inr (.inr (.inr (.inr fk))))))
    (k_183 : zc_Ed_study C Post c0 s0 183 [(0, .ref h0), (1, .ref x1), (2, .long x2), (4, .int x4)] [] ([(x1, .inl (C.1.2.2.2.1 1, 61, .inr (.inl lf))), (h0, .inr (3, [.ref qa, .ref ka, .int es, .long e1, .long (y1 ||| y0), .long e3]))] ++ (P))) : zc_Ed_study C Post c0 s0 179 [(0, .ref h0), (1, .ref x1), (2, .long x2), (4, .int x4)] [.long y0, .long y1, .ref h0] ([(x1, .inl (C.1.2.2.2.1 1, 61, .inr (.inl lf))), (h0, .inr (3, [.ref qa, .ref ka, .int es, .long e1, .long e2, .long e3]))] ++ (P)) := by
  obtain ⟨⟨l, dC, dI, k, a⟩, p, e, s, m, args, below, meth, c, A⟩ := C
  obtain ⟨hx, hb, hr, htz, hown, hlocks, hml, hE, hK, hA⟩ := X
  intro H locs ls hl hP hD hS
  have hl : lv_has ls 6 [(0, .ref h0), (1, .ref x1), (2, .long x2), (4, .int x4)] := hl
  have hP : va_P (dC, dI) classes ([(x1, .inl (k 1, 61, .inr (.inl lf))), (h0, .inr (3, [.ref qa, .ref ka, .int es, .long e1, .long e2, .long e3]))] ++ (P)) H := hP
  have hD : va_D A ([(x1, .inl (k 1, 61, .inr (.inl lf))), (h0, .inr (3, [.ref qa, .ref ka, .int es, .long e1, .long e2, .long e3]))] ++ (P)) := hD
  show W p l e (z_rm 5 1 61) s m args below meth c H locs c0 s0 _ (F0 m 179 ls [.long y0, .long y1, .ref h0])
  refine lv_lor hx hb d_Ed_study_179 ?_
  refine va_put (D := (dC, dI)) (ci := 3) (v := .long (y1 ||| y0)) (ty := .long) (C := R_Ed) (T := F_Ed) (N := 6) hx hb htz i_Ed t_Ed o_Ed n_Ed hown hK hP hD hS 1 rfl rfl 4 (by decide) (htz _ kf_Ed_31) (fun _ h9 => h9) rfl (by decide +kernel) rfl rfl (Nat.le_of_ble_eq_true rfl) d_Ed_study_180 (fun H locs hP hD hS => ?_)
  have hP : va_P (dC, dI) classes ([(x1, .inl (k 1, 61, .inr (.inl lf))), (h0, .inr (3, [.ref qa, .ref ka, .int es, .long e1, .long (y1 ||| y0), .long e3]))] ++ (P)) H := hP
  have hD : va_D A ([(x1, .inl (k 1, 61, .inr (.inl lf))), (h0, .inr (3, [.ref qa, .ref ka, .int es, .long e1, .long (y1 ||| y0), .long e3]))] ++ (P)) := hD
  exact k_183 H locs ls (lv_sub hl [0, 1, 2, 3] rfl) hP hD hS
set_option maxHeartbeats 1000000 in
set_option maxRecDepth 100000 in
theorem k_Ed_study_183 {C : CT} (X : cM C "QuestionText$Edition" b_Ed_study 6 none) (Post : va_W → Prop) (x1 : Nat) (x2 : Int64) (x4 : Int32) (P : va_W) (h0 : Nat) (qa : Nat) (ka : Nat) (es : Int32) (e1 : Int64) (e2 : Int64) (e3 : Int64) (fq : Nat → Option Nat) (fk : Nat → Option Nat) (lf : Nat → Int64) (i2 : Nat) (i3 : Nat) (c0 s0 : Nat) (hqa : P[i2]? = some (qa, .inl (C.1.2.2.2.1 3, 61, .inr (.inr (.inr (.inr fq)))))) (hka : P[i3]? = some (ka, .inl (C.1.2.2.2.1 4, 10, .inr (.inr (.inr (.inr fk))))))
    (k_101 : zc_Ed_study C Post c0 s0 101 [(0, .ref h0), (1, .ref x1), (2, .long x2), (4, .int (x4 + 1))] [] ([(x1, .inl (C.1.2.2.2.1 1, 61, .inr (.inl lf))), (h0, .inr (3, [.ref qa, .ref ka, .int es, .long e1, .long e2, .long e3]))] ++ (P))) : zc_Ed_study C Post c0 s0 183 [(0, .ref h0), (1, .ref x1), (2, .long x2), (4, .int x4)] [] ([(x1, .inl (C.1.2.2.2.1 1, 61, .inr (.inl lf))), (h0, .inr (3, [.ref qa, .ref ka, .int es, .long e1, .long e2, .long e3]))] ++ (P)) := by
  obtain ⟨⟨l, dC, dI, k, a⟩, p, e, s, m, args, below, meth, c, A⟩ := C
  obtain ⟨hx, hb, hr, htz, hown, hlocks, hml, hE, hK, hA⟩ := X
  intro H locs ls hl hP hD hS
  have hl : lv_has ls 6 [(0, .ref h0), (1, .ref x1), (2, .long x2), (4, .int x4)] := hl
  have hP : va_P (dC, dI) classes ([(x1, .inl (k 1, 61, .inr (.inl lf))), (h0, .inr (3, [.ref qa, .ref ka, .int es, .long e1, .long e2, .long e3]))] ++ (P)) H := hP
  have hD : va_D A ([(x1, .inl (k 1, 61, .inr (.inl lf))), (h0, .inr (3, [.ref qa, .ref ka, .int es, .long e1, .long e2, .long e3]))] ++ (P)) := hD
  show W p l e (z_rm 5 1 61) s m args below meth c H locs c0 s0 _ (F0 m 183 ls [])
  refine lv_iinc (v := x4 + 1) (lv' := [(4, .int (x4 + 1)), (0, .ref h0), (1, .ref x1), (2, .long x2)]) hx hb d_Ed_study_183 hl (k := 3) rfl (rfl) (by decide) rfl (fun ls hl => ?_)
  refine lv_goto (tgt := 101) hx hb d_Ed_study_186 (by decide) ?_
  exact k_101 H locs ls (lv_sub hl [1, 2, 3, 0] rfl) hP hD hS
set_option maxHeartbeats 1000000 in
set_option maxRecDepth 100000 in
theorem e_Ed_study (T : ST) (Post : va_W → Prop) (P : va_W) (h0 : Nat) (qa : Nat) (ka : Nat) (es : Int32) (e1 : Int64) (e2 : Int64) (e3 : Int64) (fq : Nat → Option Nat) (fk : Nat → Option Nat) (lf : Nat → Int64) (h : ∀ C : CT, C.1 = T → cM C "QuestionText$Edition" b_Ed_study 6 none → zc_Ed_study C Post 0 0 0 [(0, .ref h0)] [] ([(h0, .inr (3, [.ref qa, .ref ka, .int es, .long e1, .long e2, .long e3]))] ++ (P))) : uV T y_Ed_study (Cond.code y_Ed_study b_Ed_study 6 none) 5 1 61 [.ref h0] ([(h0, .inr (3, [.ref qa, .ref ka, .int es, .long e1, .long e2, .long e3]))] ++ (P)) Post := by
  obtain ⟨l, dC, dI, k, a⟩ := T
  intro sz
  refine Met.ofW (cc := b_Ed_study) (maxL := 6) (ret := none) (by decide) rfl ?_
  intro p e s m args below meth c s₁ B hml hv
  obtain ⟨rfl, hsz, hE, hP, hK, hD0⟩ := hv
  have hts := atoms_spec (ws := (Cond.code y_Ed_study b_Ed_study 6 none) :: z_T) B.pre
  have htz : ∀ w ∈ z_T, w.before _ s = true := fun w h => hts w (z_cons w h)
  subst hsz
  have hD := hD0.self (sz := s.heap.size)
  generalize hAe : va_A ([(h0, .inr (3, [.ref qa, .ref ka, .int es, .long e1, .long e2, .long e3]))] ++ (P)) s.heap.size = A at hD hE ⊢
  have hA : ∀ q : Nat, s.heap.size ≤ q → A q := fun q h => by rw [← hAe]; exact Or.inr h
  have hl := lv_entry ([.ref h0]) (n := 6) (Nat.le_of_ble_eq_true rfl)
  rw [lg_entry_eq]
  generalize (lg_sl ([.ref h0]) ++ List.replicate (6 - (lg_sl ([.ref h0])).length) Slot.unset).toArray = ls at hl ⊢
  exact h ((l, dC, dI, k, a), p, e, s, m, ([.ref h0] : List Value).toArray, below, meth, c, A) rfl ⟨B.exec, B.bytes, B.returns, htz, findClass_of_methodNamed B.named, B.notSynchronized, hml, hE, hK, hA⟩ s.heap [] ls hl hP hD va_S.rf
def zc_Ed_putRows (C : CT) (Post : va_W → Prop) (c0 s0 pc : Nat) (loc : List (Nat × Value)) (st : List Value) (ws : va_W) : Prop := zW C (z_rm 0 0 0) 4 (oV C 0 0 Post) c0 s0 pc loc st ws
set_option maxHeartbeats 1000000 in
set_option maxRecDepth 100000 in
theorem k_Ed_putRows_0 {C : CT} (X : cM C "QuestionText$Edition" b_Ed_putRows 4 none) (Post : va_W → Prop) (x1 : Nat) (x2 : Nat) (P : va_W) (h0 : Nat) (qa : Nat) (ka : Nat) (es : Int32) (e1 : Int64) (e2 : Int64) (e3 : Int64) (fq : Nat → Option Nat) (fk : Nat → Option Nat) (gq : Nat → Option Nat) (gk : Nat → Option Nat) (i4 : Nat) (i5 : Nat) (c0 s0 : Nat) (h1 : P[i4]? = some (x1, .inl (C.1.2.2.2.1 3, 61, .inr (.inr (.inr (.inr gq)))))) (h2 : P[i5]? = some (x2, .inl (C.1.2.2.2.1 4, 10, .inr (.inr (.inr (.inr gk))))))
    (k_2 : zc_Ed_putRows C Post c0 s0 2 [(0, .ref h0), (1, .ref x1), (2, .ref x2), (3, .int 1)] [] ([(h0, .inr (3, [.ref qa, .ref ka, .int es, .long e1, .long e2, .long e3])), (qa, .inl (C.1.2.2.2.1 3, 61, .inr (.inr (.inr (.inr fq))))), (ka, .inl (C.1.2.2.2.1 4, 10, .inr (.inr (.inr (.inr fk)))))] ++ (P))) : zc_Ed_putRows C Post c0 s0 0 [(0, .ref h0), (1, .ref x1), (2, .ref x2)] [] ([(h0, .inr (3, [.ref qa, .ref ka, .int es, .long e1, .long e2, .long e3])), (qa, .inl (C.1.2.2.2.1 3, 61, .inr (.inr (.inr (.inr fq))))), (ka, .inl (C.1.2.2.2.1 4, 10, .inr (.inr (.inr (.inr fk)))))] ++ (P)) := by
  obtain ⟨⟨l, dC, dI, k, a⟩, p, e, s, m, args, below, meth, c, A⟩ := C
  obtain ⟨hx, hb, hr, htz, hown, hlocks, hml, hE, hK, hA⟩ := X
  intro H locs ls hl hP hD hS
  have hl : lv_has ls 4 [(0, .ref h0), (1, .ref x1), (2, .ref x2)] := hl
  have hP : va_P (dC, dI) classes ([(h0, .inr (3, [.ref qa, .ref ka, .int es, .long e1, .long e2, .long e3])), (qa, .inl (k 3, 61, .inr (.inr (.inr (.inr fq))))), (ka, .inl (k 4, 10, .inr (.inr (.inr (.inr fk)))))] ++ (P)) H := hP
  have hD : va_D A ([(h0, .inr (3, [.ref qa, .ref ka, .int es, .long e1, .long e2, .long e3])), (qa, .inl (k 3, 61, .inr (.inr (.inr (.inr fq))))), (ka, .inl (k 4, 10, .inr (.inr (.inr (.inr fk)))))] ++ (P)) := hD
  show W p l e (z_rm 0 0 0) s m args below meth c H locs c0 s0 _ (F0 m 0 ls [])
  refine lv_iconst (v := 1) hx hb d_Ed_putRows_0 (by decide) ?_
  refine lv_istore_n (lv' := [(3, .int 1), (0, .ref h0), (1, .ref x1), (2, .ref x2)]) hx hb d_Ed_putRows_1 rfl hl (by decide) rfl (fun ls hl => ?_)
  exact k_2 H locs ls (lv_sub hl [1, 2, 3, 0] rfl) hP hD hS
set_option maxHeartbeats 1000000 in
set_option maxRecDepth 100000 in
theorem k_Ed_putRows_2 {C : CT} (X : cM C "QuestionText$Edition" b_Ed_putRows 4 none) (Post : va_W → Prop) (x1 : Nat) (x2 : Nat) (x3 : Int32) (P : va_W) (h0 : Nat) (qa : Nat) (ka : Nat) (es : Int32) (e1 : Int64) (e2 : Int64) (e3 : Int64) (fq : Nat → Option Nat) (fk : Nat → Option Nat) (gq : Nat → Option Nat) (gk : Nat → Option Nat) (i4 : Nat) (i5 : Nat) (c0 s0 : Nat) (h1 : P[i4]? = some (x1, .inl (C.1.2.2.2.1 3, 61, .inr (.inr (.inr (.inr gq)))))) (h2 : P[i5]? = some (x2, .inl (C.1.2.2.2.1 4, 10, .inr (.inr (.inr (.inr gk))))))
    (k_35 : (60 < x3) → zc_Ed_putRows C Post c0 s0 35 [(0, .ref h0), (1, .ref x1), (2, .ref x2), (3, .int x3)] [] ([(h0, .inr (3, [.ref qa, .ref ka, .int es, .long e1, .long e2, .long e3])), (qa, .inl (C.1.2.2.2.1 3, 61, .inr (.inr (.inr (.inr fq))))), (ka, .inl (C.1.2.2.2.1 4, 10, .inr (.inr (.inr (.inr fk)))))] ++ (P)))
    (k_35_1 : (¬ 60 < x3) → (nI 61 ≤ x3) → zc_Ed_putRows C Post c0 s0 35 [(0, .ref h0), (1, .ref x1), (2, .ref x2), (3, .int x3)] [] ([(h0, .inr (3, [.ref qa, .ref ka, .int es, .long e1, .long e2, .long e3])), (qa, .inl (C.1.2.2.2.1 3, 61, .inr (.inr (.inr (.inr fq))))), (ka, .inl (C.1.2.2.2.1 4, 10, .inr (.inr (.inr (.inr fk)))))] ++ (P)))
    (h_16 : (¬ 60 < x3) → (¬ nI 61 ≤ x3) → vp_in (x3) 61)
    (k_29 : (¬ 60 < x3) → (¬ nI 61 ≤ x3) → (gq (x3 : Int32).toNatClampNeg = none) → zc_Ed_putRows C Post c0 s0 29 [(0, .ref h0), (1, .ref x1), (2, .ref x2), (3, .int x3)] [] ([(h0, .inr (3, [.ref qa, .ref ka, .int es, .long e1, .long e2, .long e3])), (qa, .inl (C.1.2.2.2.1 3, 61, .inr (.inr (.inr (.inr fq))))), (ka, .inl (C.1.2.2.2.1 4, 10, .inr (.inr (.inr (.inr fk)))))] ++ (P)))
    (h_27 : (¬ 60 < x3) → (¬ nI 61 ≤ x3) → (¬ gq (x3 : Int32).toNatClampNeg = none) → vp_in (x3) 61)
    (g_28 : (¬ 60 < x3) → (¬ nI 61 ≤ x3) → (¬ gq (x3 : Int32).toNatClampNeg = none) → ∃ (a28 i28 : Nat) (u28_0 : Int32) (u28_1 : Nat) (u28_2 : Nat) (u28_3 : Nat) (u28_4 : Nat) (u28_5 : Nat), gq (x3 : Int32).toNatClampNeg = some a28 ∧ P[i28]? = some (a28, .inr (6, [.int u28_0, .ref u28_1, .ref u28_2, .ref u28_3, .ref u28_4, .ref u28_5])))
    (h_28 : (¬ 60 < x3) → (¬ nI 61 ≤ x3) → (¬ gq (x3 : Int32).toNatClampNeg = none) → ∀ (a28 i28 : Nat) (u28_0 : Int32) (u28_1 : Nat) (u28_2 : Nat) (u28_3 : Nat) (u28_4 : Nat) (u28_5 : Nat), gq (x3 : Int32).toNatClampNeg = some a28 → P[i28]? = some (a28, .inr (6, [.int u28_0, .ref u28_1, .ref u28_2, .ref u28_3, .ref u28_4, .ref u28_5])) → vp_in (x3) 61)
    (k_29_1 : (¬ 60 < x3) → (¬ nI 61 ≤ x3) → (¬ gq (x3 : Int32).toNatClampNeg = none) → ∀ (a28 i28 : Nat) (u28_0 : Int32) (u28_1 : Nat) (u28_2 : Nat) (u28_3 : Nat) (u28_4 : Nat) (u28_5 : Nat), gq (x3 : Int32).toNatClampNeg = some a28 → P[i28]? = some (a28, .inr (6, [.int u28_0, .ref u28_1, .ref u28_2, .ref u28_3, .ref u28_4, .ref u28_5])) → zc_Ed_putRows C Post c0 s0 29 [(0, .ref h0), (1, .ref x1), (2, .ref x2), (3, .int x3)] [] ([(h0, .inr (3, [.ref qa, .ref ka, .int es, .long e1, .long e2, .long e3])), (qa, .inl (C.1.2.2.2.1 3, 61, .inr (.inr (.inr (.inr (va_up fq (x3 : Int32).toNatClampNeg (some a28))))))), (ka, .inl (C.1.2.2.2.1 4, 10, .inr (.inr (.inr (.inr fk)))))] ++ (P))) : zc_Ed_putRows C Post c0 s0 2 [(0, .ref h0), (1, .ref x1), (2, .ref x2), (3, .int x3)] [] ([(h0, .inr (3, [.ref qa, .ref ka, .int es, .long e1, .long e2, .long e3])), (qa, .inl (C.1.2.2.2.1 3, 61, .inr (.inr (.inr (.inr fq))))), (ka, .inl (C.1.2.2.2.1 4, 10, .inr (.inr (.inr (.inr fk)))))] ++ (P)) := by
  obtain ⟨⟨l, dC, dI, k, a⟩, p, e, s, m, args, below, meth, c, A⟩ := C
  obtain ⟨hx, hb, hr, htz, hown, hlocks, hml, hE, hK, hA⟩ := X
  intro H locs ls hl hP hD hS
  have hl : lv_has ls 4 [(0, .ref h0), (1, .ref x1), (2, .ref x2), (3, .int x3)] := hl
  have hP : va_P (dC, dI) classes ([(h0, .inr (3, [.ref qa, .ref ka, .int es, .long e1, .long e2, .long e3])), (qa, .inl (k 3, 61, .inr (.inr (.inr (.inr fq))))), (ka, .inl (k 4, 10, .inr (.inr (.inr (.inr fk)))))] ++ (P)) H := hP
  have hD : va_D A ([(h0, .inr (3, [.ref qa, .ref ka, .int es, .long e1, .long e2, .long e3])), (qa, .inl (k 3, 61, .inr (.inr (.inr (.inr fq))))), (ka, .inl (k 4, 10, .inr (.inr (.inr (.inr fk)))))] ++ (P)) := hD
  show W p l e (z_rm 0 0 0) s m args below meth c H locs c0 s0 _ (F0 m 2 ls [])
  refine lv_iload_n hx hb d_Ed_putRows_2 rfl (lv_at hl 3 rfl) ?_
  refine lv_bipush (v := 60) hx hb d_Ed_putRows_3 (by decide) ?_
  refine lv_icmp_gt (tgt := 35) hx hb d_Ed_putRows_5 (by decide) (fun c_5 => ?_) (fun c_5 => ?_)
  · exact (k_35 c_5) H locs ls (lv_sub hl [0, 1, 2, 3] rfl) hP hD hS
  · refine lv_iload_n hx hb d_Ed_putRows_8 rfl (lv_at hl 3 rfl) ?_
    refine lv_aload_n hx hb d_Ed_putRows_9 rfl (lv_at hl 1 rfl) ?_
    refine va_alen hx hb hK hP (i4 + 3) 3 h1 rfl (v := nI 61) rfl d_Ed_putRows_10 ?_
    refine lv_icmp_ge (tgt := 35) hx hb d_Ed_putRows_11 (by decide) (fun c_11 => ?_) (fun c_11 => ?_)
    · exact (k_35_1 c_5 c_11) H locs ls (lv_sub hl [0, 1, 2, 3] rfl) hP hD hS
    · refine lv_aload_n hx hb d_Ed_putRows_14 rfl (lv_at hl 1 rfl) ?_
      refine lv_iload_n hx hb d_Ed_putRows_15 rfl (lv_at hl 3 rfl) ?_
      refine va_aldq hx hb hK hP (i4 + 3) 3 h1 rfl (h_16 c_5 c_11) d_Ed_putRows_16 ?_
      refine qv_nl (tgt := 29) hx hb d_Ed_putRows_17 (by decide) (fun c_17 => ?_) (fun c_17 => ?_)
      · exact (k_29 c_5 c_11 c_17) H locs ls (lv_sub hl [0, 1, 2, 3] rfl) hP hD hS
      · refine lv_aload_n hx hb d_Ed_putRows_20 rfl (lv_at hl 0 rfl) ?_
        refine va_get (D := (dC, dI)) (ci := 3) (v := .ref qa) (C := R_Ed) (T := F_Ed) (N := 6) hx hb htz i_Ed hown hK hP 0 rfl rfl 0 (by decide) (htz _ kf_Ed_11) (fun _ h9 => h9) rfl d_Ed_putRows_21 ?_
        refine lv_iload_n hx hb d_Ed_putRows_24 rfl (lv_at hl 3 rfl) ?_
        refine lv_aload_n hx hb d_Ed_putRows_25 rfl (lv_at hl 1 rfl) ?_
        refine lv_iload_n hx hb d_Ed_putRows_26 rfl (lv_at hl 3 rfl) ?_
        refine va_aldq hx hb hK hP (i4 + 3) 3 h1 rfl (h_27 c_5 c_11 c_17) d_Ed_putRows_27 ?_
        obtain ⟨a28, i28, u28_0, u28_1, u28_2, u28_3, u28_4, u28_5, he28, hf28⟩ := (g_28 c_5 c_11 c_17)
        rw [he28]
        refine va_astq hx hb hK hP hD hS 1 3 (i28 + 3) 6 rfl rfl hf28 rfl (h_28 c_5 c_11 c_17 a28 i28 u28_0 u28_1 u28_2 u28_3 u28_4 u28_5 he28 hf28) d_Ed_putRows_28 (fun H locs hP hD hS => ?_)
        have hP : va_P (dC, dI) classes ([(h0, .inr (3, [.ref qa, .ref ka, .int es, .long e1, .long e2, .long e3])), (qa, .inl (k 3, 61, .inr (.inr (.inr (.inr (va_up fq (x3 : Int32).toNatClampNeg (some a28))))))), (ka, .inl (k 4, 10, .inr (.inr (.inr (.inr fk)))))] ++ (P)) H := hP
        have hD : va_D A ([(h0, .inr (3, [.ref qa, .ref ka, .int es, .long e1, .long e2, .long e3])), (qa, .inl (k 3, 61, .inr (.inr (.inr (.inr (va_up fq (x3 : Int32).toNatClampNeg (some a28))))))), (ka, .inl (k 4, 10, .inr (.inr (.inr (.inr fk)))))] ++ (P)) := hD
        exact (k_29_1 c_5 c_11 c_17 a28 i28 u28_0 u28_1 u28_2 u28_3 u28_4 u28_5 he28 hf28) H locs ls (lv_sub hl [0, 1, 2, 3] rfl) hP hD hS
set_option maxHeartbeats 1000000 in
set_option maxRecDepth 100000 in
theorem k_Ed_putRows_29 {C : CT} (X : cM C "QuestionText$Edition" b_Ed_putRows 4 none) (Post : va_W → Prop) (x1 : Nat) (x2 : Nat) (x3 : Int32) (P : va_W) (h0 : Nat) (qa : Nat) (ka : Nat) (es : Int32) (e1 : Int64) (e2 : Int64) (e3 : Int64) (fq : Nat → Option Nat) (fk : Nat → Option Nat) (gq : Nat → Option Nat) (gk : Nat → Option Nat) (i4 : Nat) (i5 : Nat) (c0 s0 : Nat) (h1 : P[i4]? = some (x1, .inl (C.1.2.2.2.1 3, 61, .inr (.inr (.inr (.inr gq)))))) (h2 : P[i5]? = some (x2, .inl (C.1.2.2.2.1 4, 10, .inr (.inr (.inr (.inr gk))))))
    (k_2 : zc_Ed_putRows C Post c0 s0 2 [(0, .ref h0), (1, .ref x1), (2, .ref x2), (3, .int (x3 + 1))] [] ([(h0, .inr (3, [.ref qa, .ref ka, .int es, .long e1, .long e2, .long e3])), (qa, .inl (C.1.2.2.2.1 3, 61, .inr (.inr (.inr (.inr fq))))), (ka, .inl (C.1.2.2.2.1 4, 10, .inr (.inr (.inr (.inr fk)))))] ++ (P))) : zc_Ed_putRows C Post c0 s0 29 [(0, .ref h0), (1, .ref x1), (2, .ref x2), (3, .int x3)] [] ([(h0, .inr (3, [.ref qa, .ref ka, .int es, .long e1, .long e2, .long e3])), (qa, .inl (C.1.2.2.2.1 3, 61, .inr (.inr (.inr (.inr fq))))), (ka, .inl (C.1.2.2.2.1 4, 10, .inr (.inr (.inr (.inr fk)))))] ++ (P)) := by
  obtain ⟨⟨l, dC, dI, k, a⟩, p, e, s, m, args, below, meth, c, A⟩ := C
  obtain ⟨hx, hb, hr, htz, hown, hlocks, hml, hE, hK, hA⟩ := X
  intro H locs ls hl hP hD hS
  have hl : lv_has ls 4 [(0, .ref h0), (1, .ref x1), (2, .ref x2), (3, .int x3)] := hl
  have hP : va_P (dC, dI) classes ([(h0, .inr (3, [.ref qa, .ref ka, .int es, .long e1, .long e2, .long e3])), (qa, .inl (k 3, 61, .inr (.inr (.inr (.inr fq))))), (ka, .inl (k 4, 10, .inr (.inr (.inr (.inr fk)))))] ++ (P)) H := hP
  have hD : va_D A ([(h0, .inr (3, [.ref qa, .ref ka, .int es, .long e1, .long e2, .long e3])), (qa, .inl (k 3, 61, .inr (.inr (.inr (.inr fq))))), (ka, .inl (k 4, 10, .inr (.inr (.inr (.inr fk)))))] ++ (P)) := hD
  show W p l e (z_rm 0 0 0) s m args below meth c H locs c0 s0 _ (F0 m 29 ls [])
  refine lv_iinc (v := x3 + 1) (lv' := [(3, .int (x3 + 1)), (0, .ref h0), (1, .ref x1), (2, .ref x2)]) hx hb d_Ed_putRows_29 hl (k := 3) rfl (rfl) (by decide) rfl (fun ls hl => ?_)
  refine lv_goto (tgt := 2) hx hb d_Ed_putRows_32 (by decide) ?_
  exact k_2 H locs ls (lv_sub hl [1, 2, 3, 0] rfl) hP hD hS
set_option maxHeartbeats 1000000 in
set_option maxRecDepth 100000 in
theorem k_Ed_putRows_35 {C : CT} (X : cM C "QuestionText$Edition" b_Ed_putRows 4 none) (Post : va_W → Prop) (x1 : Nat) (x2 : Nat) (x3 : Int32) (P : va_W) (h0 : Nat) (qa : Nat) (ka : Nat) (es : Int32) (e1 : Int64) (e2 : Int64) (e3 : Int64) (fq : Nat → Option Nat) (fk : Nat → Option Nat) (gq : Nat → Option Nat) (gk : Nat → Option Nat) (i4 : Nat) (i5 : Nat) (c0 s0 : Nat) (h1 : P[i4]? = some (x1, .inl (C.1.2.2.2.1 3, 61, .inr (.inr (.inr (.inr gq)))))) (h2 : P[i5]? = some (x2, .inl (C.1.2.2.2.1 4, 10, .inr (.inr (.inr (.inr gk))))))
    (k_37 : zc_Ed_putRows C Post c0 s0 37 [(0, .ref h0), (1, .ref x1), (2, .ref x2), (3, .int 1)] [] ([(h0, .inr (3, [.ref qa, .ref ka, .int es, .long e1, .long e2, .long e3])), (qa, .inl (C.1.2.2.2.1 3, 61, .inr (.inr (.inr (.inr fq))))), (ka, .inl (C.1.2.2.2.1 4, 10, .inr (.inr (.inr (.inr fk)))))] ++ (P))) : zc_Ed_putRows C Post c0 s0 35 [(0, .ref h0), (1, .ref x1), (2, .ref x2), (3, .int x3)] [] ([(h0, .inr (3, [.ref qa, .ref ka, .int es, .long e1, .long e2, .long e3])), (qa, .inl (C.1.2.2.2.1 3, 61, .inr (.inr (.inr (.inr fq))))), (ka, .inl (C.1.2.2.2.1 4, 10, .inr (.inr (.inr (.inr fk)))))] ++ (P)) := by
  obtain ⟨⟨l, dC, dI, k, a⟩, p, e, s, m, args, below, meth, c, A⟩ := C
  obtain ⟨hx, hb, hr, htz, hown, hlocks, hml, hE, hK, hA⟩ := X
  intro H locs ls hl hP hD hS
  have hl : lv_has ls 4 [(0, .ref h0), (1, .ref x1), (2, .ref x2), (3, .int x3)] := hl
  have hP : va_P (dC, dI) classes ([(h0, .inr (3, [.ref qa, .ref ka, .int es, .long e1, .long e2, .long e3])), (qa, .inl (k 3, 61, .inr (.inr (.inr (.inr fq))))), (ka, .inl (k 4, 10, .inr (.inr (.inr (.inr fk)))))] ++ (P)) H := hP
  have hD : va_D A ([(h0, .inr (3, [.ref qa, .ref ka, .int es, .long e1, .long e2, .long e3])), (qa, .inl (k 3, 61, .inr (.inr (.inr (.inr fq))))), (ka, .inl (k 4, 10, .inr (.inr (.inr (.inr fk)))))] ++ (P)) := hD
  show W p l e (z_rm 0 0 0) s m args below meth c H locs c0 s0 _ (F0 m 35 ls [])
  refine lv_iconst (v := 1) hx hb d_Ed_putRows_35 (by decide) ?_
  refine lv_istore_n (lv' := [(3, .int 1), (0, .ref h0), (1, .ref x1), (2, .ref x2)]) hx hb d_Ed_putRows_36 rfl hl (by decide) rfl (fun ls hl => ?_)
  exact k_37 H locs ls (lv_sub hl [1, 2, 3, 0] rfl) hP hD hS
set_option maxHeartbeats 1000000 in
set_option maxRecDepth 100000 in
theorem k_Ed_putRows_37 {C : CT} (X : cM C "QuestionText$Edition" b_Ed_putRows 4 none) (Post : va_W → Prop) (x1 : Nat) (x2 : Nat) (x3 : Int32) (P : va_W) (h0 : Nat) (qa : Nat) (ka : Nat) (es : Int32) (e1 : Int64) (e2 : Int64) (e3 : Int64) (fq : Nat → Option Nat) (fk : Nat → Option Nat) (gq : Nat → Option Nat) (gk : Nat → Option Nat) (i4 : Nat) (i5 : Nat) (c0 s0 : Nat) (h1 : P[i4]? = some (x1, .inl (C.1.2.2.2.1 3, 61, .inr (.inr (.inr (.inr gq)))))) (h2 : P[i5]? = some (x2, .inl (C.1.2.2.2.1 4, 10, .inr (.inr (.inr (.inr gk))))))
    (k_70 : (9 < x3) → zc_Ed_putRows C Post c0 s0 70 [(0, .ref h0), (1, .ref x1), (2, .ref x2), (3, .int x3)] [] ([(h0, .inr (3, [.ref qa, .ref ka, .int es, .long e1, .long e2, .long e3])), (qa, .inl (C.1.2.2.2.1 3, 61, .inr (.inr (.inr (.inr fq))))), (ka, .inl (C.1.2.2.2.1 4, 10, .inr (.inr (.inr (.inr fk)))))] ++ (P)))
    (k_70_1 : (¬ 9 < x3) → (nI 10 ≤ x3) → zc_Ed_putRows C Post c0 s0 70 [(0, .ref h0), (1, .ref x1), (2, .ref x2), (3, .int x3)] [] ([(h0, .inr (3, [.ref qa, .ref ka, .int es, .long e1, .long e2, .long e3])), (qa, .inl (C.1.2.2.2.1 3, 61, .inr (.inr (.inr (.inr fq))))), (ka, .inl (C.1.2.2.2.1 4, 10, .inr (.inr (.inr (.inr fk)))))] ++ (P)))
    (h_51 : (¬ 9 < x3) → (¬ nI 10 ≤ x3) → vp_in (x3) 10)
    (k_64 : (¬ 9 < x3) → (¬ nI 10 ≤ x3) → (gk (x3 : Int32).toNatClampNeg = none) → zc_Ed_putRows C Post c0 s0 64 [(0, .ref h0), (1, .ref x1), (2, .ref x2), (3, .int x3)] [] ([(h0, .inr (3, [.ref qa, .ref ka, .int es, .long e1, .long e2, .long e3])), (qa, .inl (C.1.2.2.2.1 3, 61, .inr (.inr (.inr (.inr fq))))), (ka, .inl (C.1.2.2.2.1 4, 10, .inr (.inr (.inr (.inr fk)))))] ++ (P)))
    (h_62 : (¬ 9 < x3) → (¬ nI 10 ≤ x3) → (¬ gk (x3 : Int32).toNatClampNeg = none) → vp_in (x3) 10)
    (g_63 : (¬ 9 < x3) → (¬ nI 10 ≤ x3) → (¬ gk (x3 : Int32).toNatClampNeg = none) → ∃ (a63 i63 : Nat) (u63_0 : Int32) (u63_1 : Int32) (u63_2 : Nat), gk (x3 : Int32).toNatClampNeg = some a63 ∧ P[i63]? = some (a63, .inr (5, [.int u63_0, .int u63_1, .ref u63_2])))
    (h_63 : (¬ 9 < x3) → (¬ nI 10 ≤ x3) → (¬ gk (x3 : Int32).toNatClampNeg = none) → ∀ (a63 i63 : Nat) (u63_0 : Int32) (u63_1 : Int32) (u63_2 : Nat), gk (x3 : Int32).toNatClampNeg = some a63 → P[i63]? = some (a63, .inr (5, [.int u63_0, .int u63_1, .ref u63_2])) → vp_in (x3) 10)
    (k_64_1 : (¬ 9 < x3) → (¬ nI 10 ≤ x3) → (¬ gk (x3 : Int32).toNatClampNeg = none) → ∀ (a63 i63 : Nat) (u63_0 : Int32) (u63_1 : Int32) (u63_2 : Nat), gk (x3 : Int32).toNatClampNeg = some a63 → P[i63]? = some (a63, .inr (5, [.int u63_0, .int u63_1, .ref u63_2])) → zc_Ed_putRows C Post c0 s0 64 [(0, .ref h0), (1, .ref x1), (2, .ref x2), (3, .int x3)] [] ([(h0, .inr (3, [.ref qa, .ref ka, .int es, .long e1, .long e2, .long e3])), (qa, .inl (C.1.2.2.2.1 3, 61, .inr (.inr (.inr (.inr fq))))), (ka, .inl (C.1.2.2.2.1 4, 10, .inr (.inr (.inr (.inr (va_up fk (x3 : Int32).toNatClampNeg (some a63)))))))] ++ (P))) : zc_Ed_putRows C Post c0 s0 37 [(0, .ref h0), (1, .ref x1), (2, .ref x2), (3, .int x3)] [] ([(h0, .inr (3, [.ref qa, .ref ka, .int es, .long e1, .long e2, .long e3])), (qa, .inl (C.1.2.2.2.1 3, 61, .inr (.inr (.inr (.inr fq))))), (ka, .inl (C.1.2.2.2.1 4, 10, .inr (.inr (.inr (.inr fk)))))] ++ (P)) := by
  obtain ⟨⟨l, dC, dI, k, a⟩, p, e, s, m, args, below, meth, c, A⟩ := C
  obtain ⟨hx, hb, hr, htz, hown, hlocks, hml, hE, hK, hA⟩ := X
  intro H locs ls hl hP hD hS
  have hl : lv_has ls 4 [(0, .ref h0), (1, .ref x1), (2, .ref x2), (3, .int x3)] := hl
  have hP : va_P (dC, dI) classes ([(h0, .inr (3, [.ref qa, .ref ka, .int es, .long e1, .long e2, .long e3])), (qa, .inl (k 3, 61, .inr (.inr (.inr (.inr fq))))), (ka, .inl (k 4, 10, .inr (.inr (.inr (.inr fk)))))] ++ (P)) H := hP
  have hD : va_D A ([(h0, .inr (3, [.ref qa, .ref ka, .int es, .long e1, .long e2, .long e3])), (qa, .inl (k 3, 61, .inr (.inr (.inr (.inr fq))))), (ka, .inl (k 4, 10, .inr (.inr (.inr (.inr fk)))))] ++ (P)) := hD
  show W p l e (z_rm 0 0 0) s m args below meth c H locs c0 s0 _ (F0 m 37 ls [])
  refine lv_iload_n hx hb d_Ed_putRows_37 rfl (lv_at hl 3 rfl) ?_
  refine lv_bipush (v := 9) hx hb d_Ed_putRows_38 (by decide) ?_
  refine lv_icmp_gt (tgt := 70) hx hb d_Ed_putRows_40 (by decide) (fun c_40 => ?_) (fun c_40 => ?_)
  · exact (k_70 c_40) H locs ls (lv_sub hl [0, 1, 2, 3] rfl) hP hD hS
  · refine lv_iload_n hx hb d_Ed_putRows_43 rfl (lv_at hl 3 rfl) ?_
    refine lv_aload_n hx hb d_Ed_putRows_44 rfl (lv_at hl 2 rfl) ?_
    refine va_alen hx hb hK hP (i5 + 3) 4 h2 rfl (v := nI 10) rfl d_Ed_putRows_45 ?_
    refine lv_icmp_ge (tgt := 70) hx hb d_Ed_putRows_46 (by decide) (fun c_46 => ?_) (fun c_46 => ?_)
    · exact (k_70_1 c_40 c_46) H locs ls (lv_sub hl [0, 1, 2, 3] rfl) hP hD hS
    · refine lv_aload_n hx hb d_Ed_putRows_49 rfl (lv_at hl 2 rfl) ?_
      refine lv_iload_n hx hb d_Ed_putRows_50 rfl (lv_at hl 3 rfl) ?_
      refine va_aldq hx hb hK hP (i5 + 3) 4 h2 rfl (h_51 c_40 c_46) d_Ed_putRows_51 ?_
      refine qv_nl (tgt := 64) hx hb d_Ed_putRows_52 (by decide) (fun c_52 => ?_) (fun c_52 => ?_)
      · exact (k_64 c_40 c_46 c_52) H locs ls (lv_sub hl [0, 1, 2, 3] rfl) hP hD hS
      · refine lv_aload_n hx hb d_Ed_putRows_55 rfl (lv_at hl 0 rfl) ?_
        refine va_get (D := (dC, dI)) (ci := 3) (v := .ref ka) (C := R_Ed) (T := F_Ed) (N := 6) hx hb htz i_Ed hown hK hP 0 rfl rfl 1 (by decide) (htz _ kf_Ed_19) (fun _ h9 => h9) rfl d_Ed_putRows_56 ?_
        refine lv_iload_n hx hb d_Ed_putRows_59 rfl (lv_at hl 3 rfl) ?_
        refine lv_aload_n hx hb d_Ed_putRows_60 rfl (lv_at hl 2 rfl) ?_
        refine lv_iload_n hx hb d_Ed_putRows_61 rfl (lv_at hl 3 rfl) ?_
        refine va_aldq hx hb hK hP (i5 + 3) 4 h2 rfl (h_62 c_40 c_46 c_52) d_Ed_putRows_62 ?_
        obtain ⟨a63, i63, u63_0, u63_1, u63_2, he63, hf63⟩ := (g_63 c_40 c_46 c_52)
        rw [he63]
        refine va_astq hx hb hK hP hD hS 2 4 (i63 + 3) 5 rfl rfl hf63 rfl (h_63 c_40 c_46 c_52 a63 i63 u63_0 u63_1 u63_2 he63 hf63) d_Ed_putRows_63 (fun H locs hP hD hS => ?_)
        have hP : va_P (dC, dI) classes ([(h0, .inr (3, [.ref qa, .ref ka, .int es, .long e1, .long e2, .long e3])), (qa, .inl (k 3, 61, .inr (.inr (.inr (.inr fq))))), (ka, .inl (k 4, 10, .inr (.inr (.inr (.inr (va_up fk (x3 : Int32).toNatClampNeg (some a63)))))))] ++ (P)) H := hP
        have hD : va_D A ([(h0, .inr (3, [.ref qa, .ref ka, .int es, .long e1, .long e2, .long e3])), (qa, .inl (k 3, 61, .inr (.inr (.inr (.inr fq))))), (ka, .inl (k 4, 10, .inr (.inr (.inr (.inr (va_up fk (x3 : Int32).toNatClampNeg (some a63)))))))] ++ (P)) := hD
        exact (k_64_1 c_40 c_46 c_52 a63 i63 u63_0 u63_1 u63_2 he63 hf63) H locs ls (lv_sub hl [0, 1, 2, 3] rfl) hP hD hS
set_option maxHeartbeats 1000000 in
set_option maxRecDepth 100000 in
theorem k_Ed_putRows_64 {C : CT} (X : cM C "QuestionText$Edition" b_Ed_putRows 4 none) (Post : va_W → Prop) (x1 : Nat) (x2 : Nat) (x3 : Int32) (P : va_W) (h0 : Nat) (qa : Nat) (ka : Nat) (es : Int32) (e1 : Int64) (e2 : Int64) (e3 : Int64) (fq : Nat → Option Nat) (fk : Nat → Option Nat) (gq : Nat → Option Nat) (gk : Nat → Option Nat) (i4 : Nat) (i5 : Nat) (c0 s0 : Nat) (h1 : P[i4]? = some (x1, .inl (C.1.2.2.2.1 3, 61, .inr (.inr (.inr (.inr gq)))))) (h2 : P[i5]? = some (x2, .inl (C.1.2.2.2.1 4, 10, .inr (.inr (.inr (.inr gk))))))
    (k_37 : zc_Ed_putRows C Post c0 s0 37 [(0, .ref h0), (1, .ref x1), (2, .ref x2), (3, .int (x3 + 1))] [] ([(h0, .inr (3, [.ref qa, .ref ka, .int es, .long e1, .long e2, .long e3])), (qa, .inl (C.1.2.2.2.1 3, 61, .inr (.inr (.inr (.inr fq))))), (ka, .inl (C.1.2.2.2.1 4, 10, .inr (.inr (.inr (.inr fk)))))] ++ (P))) : zc_Ed_putRows C Post c0 s0 64 [(0, .ref h0), (1, .ref x1), (2, .ref x2), (3, .int x3)] [] ([(h0, .inr (3, [.ref qa, .ref ka, .int es, .long e1, .long e2, .long e3])), (qa, .inl (C.1.2.2.2.1 3, 61, .inr (.inr (.inr (.inr fq))))), (ka, .inl (C.1.2.2.2.1 4, 10, .inr (.inr (.inr (.inr fk)))))] ++ (P)) := by
  obtain ⟨⟨l, dC, dI, k, a⟩, p, e, s, m, args, below, meth, c, A⟩ := C
  obtain ⟨hx, hb, hr, htz, hown, hlocks, hml, hE, hK, hA⟩ := X
  intro H locs ls hl hP hD hS
  have hl : lv_has ls 4 [(0, .ref h0), (1, .ref x1), (2, .ref x2), (3, .int x3)] := hl
  have hP : va_P (dC, dI) classes ([(h0, .inr (3, [.ref qa, .ref ka, .int es, .long e1, .long e2, .long e3])), (qa, .inl (k 3, 61, .inr (.inr (.inr (.inr fq))))), (ka, .inl (k 4, 10, .inr (.inr (.inr (.inr fk)))))] ++ (P)) H := hP
  have hD : va_D A ([(h0, .inr (3, [.ref qa, .ref ka, .int es, .long e1, .long e2, .long e3])), (qa, .inl (k 3, 61, .inr (.inr (.inr (.inr fq))))), (ka, .inl (k 4, 10, .inr (.inr (.inr (.inr fk)))))] ++ (P)) := hD
  show W p l e (z_rm 0 0 0) s m args below meth c H locs c0 s0 _ (F0 m 64 ls [])
  refine lv_iinc (v := x3 + 1) (lv' := [(3, .int (x3 + 1)), (0, .ref h0), (1, .ref x1), (2, .ref x2)]) hx hb d_Ed_putRows_64 hl (k := 3) rfl (rfl) (by decide) rfl (fun ls hl => ?_)
  refine lv_goto (tgt := 37) hx hb d_Ed_putRows_67 (by decide) ?_
  exact k_37 H locs ls (lv_sub hl [1, 2, 3, 0] rfl) hP hD hS
set_option maxHeartbeats 1000000 in
set_option maxRecDepth 100000 in
theorem k_Ed_putRows_70 {C : CT} (X : cM C "QuestionText$Edition" b_Ed_putRows 4 none) (Post : va_W → Prop) (x1 : Nat) (x2 : Nat) (x3 : Int32) (P : va_W) (h0 : Nat) (qa : Nat) (ka : Nat) (es : Int32) (e1 : Int64) (e2 : Int64) (e3 : Int64) (fq : Nat → Option Nat) (fk : Nat → Option Nat) (gq : Nat → Option Nat) (gk : Nat → Option Nat) (i4 : Nat) (i5 : Nat) (c0 s0 : Nat) (h1 : P[i4]? = some (x1, .inl (C.1.2.2.2.1 3, 61, .inr (.inr (.inr (.inr gq)))))) (h2 : P[i5]? = some (x2, .inl (C.1.2.2.2.1 4, 10, .inr (.inr (.inr (.inr gk))))))
    (b_70 : c0 ≤ 0 ∧ s0 ≤ 0)
    (q_70 : Post ([(h0, .inr (3, [.ref qa, .ref ka, .int es, .long e1, .long e2, .long e3])), (qa, .inl (C.1.2.2.2.1 3, 61, .inr (.inr (.inr (.inr fq))))), (ka, .inl (C.1.2.2.2.1 4, 10, .inr (.inr (.inr (.inr fk)))))] ++ (P))) : zc_Ed_putRows C Post c0 s0 70 [(0, .ref h0), (1, .ref x1), (2, .ref x2), (3, .int x3)] [] ([(h0, .inr (3, [.ref qa, .ref ka, .int es, .long e1, .long e2, .long e3])), (qa, .inl (C.1.2.2.2.1 3, 61, .inr (.inr (.inr (.inr fq))))), (ka, .inl (C.1.2.2.2.1 4, 10, .inr (.inr (.inr (.inr fk)))))] ++ (P)) := by
  obtain ⟨⟨l, dC, dI, k, a⟩, p, e, s, m, args, below, meth, c, A⟩ := C
  obtain ⟨hx, hb, hr, htz, hown, hlocks, hml, hE, hK, hA⟩ := X
  intro H locs ls hl hP hD hS
  have hl : lv_has ls 4 [(0, .ref h0), (1, .ref x1), (2, .ref x2), (3, .int x3)] := hl
  have hP : va_P (dC, dI) classes ([(h0, .inr (3, [.ref qa, .ref ka, .int es, .long e1, .long e2, .long e3])), (qa, .inl (k 3, 61, .inr (.inr (.inr (.inr fq))))), (ka, .inl (k 4, 10, .inr (.inr (.inr (.inr fk)))))] ++ (P)) H := hP
  have hD : va_D A ([(h0, .inr (3, [.ref qa, .ref ka, .int es, .long e1, .long e2, .long e3])), (qa, .inl (k 3, 61, .inr (.inr (.inr (.inr fq))))), (ka, .inl (k 4, 10, .inr (.inr (.inr (.inr fk)))))] ++ (P)) := hD
  show W p l e (z_rm 0 0 0) s m args below meth c H locs c0 s0 _ (F0 m 70 ls [])
  refine W.widen (k := 0) (n := 0) b_70.1 b_70.2 ?_
  exact W.vret hx hb hr (fun t ht hW => ⟨⟨([(h0, .inr (3, [.ref qa, .ref ka, .int es, .long e1, .long e2, .long e3])), (qa, .inl (k 3, 61, .inr (.inr (.inr (.inr fq))))), (ka, .inl (k 4, 10, .inr (.inr (.inr (.inr fk)))))] ++ (P)), rfl, q_70, by rw [ht]; exact hP, va_K.moved hW.alike hK, hD⟩, hS.F ht⟩) hS.2.2 d_Ed_putRows_70
set_option maxHeartbeats 1000000 in
set_option maxRecDepth 100000 in
theorem e_Ed_putRows (T : ST) (Post : va_W → Prop) (x1 : Nat) (x2 : Nat) (P : va_W) (h0 : Nat) (qa : Nat) (ka : Nat) (es : Int32) (e1 : Int64) (e2 : Int64) (e3 : Int64) (fq : Nat → Option Nat) (fk : Nat → Option Nat) (gq : Nat → Option Nat) (gk : Nat → Option Nat) (h : ∀ C : CT, C.1 = T → cM C "QuestionText$Edition" b_Ed_putRows 4 none → zc_Ed_putRows C Post 0 0 0 [(0, .ref h0), (1, .ref x1), (2, .ref x2)] [] ([(h0, .inr (3, [.ref qa, .ref ka, .int es, .long e1, .long e2, .long e3])), (qa, .inl (C.1.2.2.2.1 3, 61, .inr (.inr (.inr (.inr fq))))), (ka, .inl (C.1.2.2.2.1 4, 10, .inr (.inr (.inr (.inr fk)))))] ++ (P))) : uV T y_Ed_putRows (Cond.code y_Ed_putRows b_Ed_putRows 4 none) 0 0 0 [.ref h0, .ref x1, .ref x2] ([(h0, .inr (3, [.ref qa, .ref ka, .int es, .long e1, .long e2, .long e3])), (qa, .inl (T.2.2.2.1 3, 61, .inr (.inr (.inr (.inr fq))))), (ka, .inl (T.2.2.2.1 4, 10, .inr (.inr (.inr (.inr fk)))))] ++ (P)) Post := by
  obtain ⟨l, dC, dI, k, a⟩ := T
  intro sz
  refine Met.ofW (cc := b_Ed_putRows) (maxL := 4) (ret := none) (by decide) rfl ?_
  intro p e s m args below meth c s₁ B hml hv
  obtain ⟨rfl, hsz, hE, hP, hK, hD0⟩ := hv
  have hts := atoms_spec (ws := (Cond.code y_Ed_putRows b_Ed_putRows 4 none) :: z_T) B.pre
  have htz : ∀ w ∈ z_T, w.before _ s = true := fun w h => hts w (z_cons w h)
  subst hsz
  have hD := hD0.self (sz := s.heap.size)
  generalize hAe : va_A ([(h0, .inr (3, [.ref qa, .ref ka, .int es, .long e1, .long e2, .long e3])), (qa, .inl (k 3, 61, .inr (.inr (.inr (.inr fq))))), (ka, .inl (k 4, 10, .inr (.inr (.inr (.inr fk)))))] ++ (P)) s.heap.size = A at hD hE ⊢
  have hA : ∀ q : Nat, s.heap.size ≤ q → A q := fun q h => by rw [← hAe]; exact Or.inr h
  have hl := lv_entry ([.ref h0, .ref x1, .ref x2]) (n := 4) (Nat.le_of_ble_eq_true rfl)
  rw [lg_entry_eq]
  generalize (lg_sl ([.ref h0, .ref x1, .ref x2]) ++ List.replicate (4 - (lg_sl ([.ref h0, .ref x1, .ref x2])).length) Slot.unset).toArray = ls at hl ⊢
  exact h ((l, dC, dI, k, a), p, e, s, m, ([.ref h0, .ref x1, .ref x2] : List Value).toArray, below, meth, c, A) rfl ⟨B.exec, B.bytes, B.returns, htz, findClass_of_methodNamed B.named, B.notSynchronized, hml, hE, hK, hA⟩ s.heap [] ls hl hP hD va_S.rf
def zc_Ed_init (C : CT) (Post : va_W → Prop) (c0 s0 pc : Nat) (loc : List (Nat × Value)) (st : List Value) (ws : va_W) : Prop := zW C (z_rm 0 2 71) 1 (oV C 2 71 Post) c0 s0 pc loc st ws
set_option maxHeartbeats 1000000 in
set_option maxRecDepth 100000 in
theorem k_Ed_init_0 {C : CT} (X : cN C "QuestionText$Edition" b_Ed_init 1 none) (Post : va_W → Prop) (h0 : Nat) (c0 s0 : Nat)
    (b_7 : c0 + 1 ≤ 2 ∧ s0 + 61 ≤ 71)
    (b_16 : ∀ w7 : Nat, c0 + 1 + 1 ≤ 2 ∧ s0 + 61 + 10 ≤ 71)
    (b_42 : ∀ w7 : Nat, ∀ w16 : Nat, c0 + 1 + 1 ≤ 2 ∧ s0 + 61 + 10 ≤ 71)
    (q_42 : ∀ w7 : Nat, ∀ w16 : Nat, Post ([(w16, .inl (C.1.2.2.2.1 4, 10, .inr (.inr (.inr (.inr (fun _ => none)))))), (w7, .inl (C.1.2.2.2.1 3, 61, .inr (.inr (.inr (.inr (fun _ => none)))))), (h0, .inr (3, [.ref w7, .ref w16, .int 0, .long 0, .long 0, .long 0]))])) : zc_Ed_init C Post c0 s0 0 [(0, .ref h0)] [] ([(h0, .inr (3, [.null, .null, .int 0, .long 0, .long 0, .long 0]))]) := by
  obtain ⟨⟨l, dC, dI, k, a⟩, p, e, s, m, args, below, meth, c, A⟩ := C
  obtain ⟨⟨hx, hb, hr, htz, hown, hlocks, hml, hE, hK, hA⟩, hin⟩ := X
  intro H locs ls hl hP hD hS
  have hl : lv_has ls 1 [(0, .ref h0)] := hl
  have hP : va_P (dC, dI) classes ([(h0, .inr (3, [.null, .null, .int 0, .long 0, .long 0, .long 0]))]) H := hP
  have hD : va_D A ([(h0, .inr (3, [.null, .null, .int 0, .long 0, .long 0, .long 0]))]) := hD
  show W p l e (z_rm 0 2 71) s m args below meth c H locs c0 s0 _ (F0 m 0 ls [])
  refine lv_aload_n hx hb d_Ed_init_0 rfl (lv_at hl 0 rfl) ?_
  refine W.objInit hx hb hown (htz _ km_Ed_3) (htz _ in_Obj) (htz _ m_Obj) rfl (hl.1.trans hml.symm) rfl d_Ed_init_1 (Nat.le_of_ble_eq_true rfl) (Nat.le_of_ble_eq_true rfl) ?_
  refine lv_aload_n hx hb d_Ed_init_4 rfl (lv_at hl 0 rfl) ?_
  refine lv_bipush (v := 61) hx hb d_Ed_init_5 (by decide) ?_
  refine z_newq hx hb hown (htz _ kc_Ed_9) (hE.2.2.1 _ (by decide)) hK hP hD hS hA 3 rfl (by decide) (N' := 61) (by decide) (Nat.le_of_ble_eq_true rfl) b_7.1 b_7.2 d_Ed_init_7 (fun w7 H hP hD hS => ?_)
  replace hP := zsP hP
  replace hD := zsD hD
  have hP : va_P (dC, dI) classes ([(w7, .inl (k 3, 61, .inr (.inr (.inr (.inr (fun _ => none)))))), (h0, .inr (3, [.null, .null, .int 0, .long 0, .long 0, .long 0]))]) H := hP
  have hD : va_D A ([(w7, .inl (k 3, 61, .inr (.inr (.inr (.inr (fun _ => none)))))), (h0, .inr (3, [.null, .null, .int 0, .long 0, .long 0, .long 0]))]) := hD
  refine va_putF (D := (dC, dI)) (ci := 3) (v := .ref w7) (ty := .array (.object "QuestionText$Question")) (C := R_Ed) (T := F_Ed) (N := 6) hx hb htz i_Ed t_Ed o_Ed n_Ed hown hK hP hD hS 1 rfl rfl 0 (by decide) (htz _ kf_Ed_11) (fun _ h9 => h9) rfl hin rfl (by decide +kernel) rfl rfl (Nat.le_of_ble_eq_true rfl) d_Ed_init_10 (fun H locs hP hD hS => ?_)
  have hP : va_P (dC, dI) classes ([(w7, .inl (k 3, 61, .inr (.inr (.inr (.inr (fun _ => none)))))), (h0, .inr (3, [.ref w7, .null, .int 0, .long 0, .long 0, .long 0]))]) H := hP
  have hD : va_D A ([(w7, .inl (k 3, 61, .inr (.inr (.inr (.inr (fun _ => none)))))), (h0, .inr (3, [.ref w7, .null, .int 0, .long 0, .long 0, .long 0]))]) := hD
  refine lv_aload_n hx hb d_Ed_init_13 rfl (lv_at hl 0 rfl) ?_
  refine lv_bipush (v := 10) hx hb d_Ed_init_14 (by decide) ?_
  refine z_newq hx hb hown (htz _ kc_Ed_17) (hE.2.2.1 _ (by decide)) hK hP hD hS hA 4 rfl (by decide) (N' := 10) (by decide) (Nat.le_of_ble_eq_true rfl) (b_16 w7).1 (b_16 w7).2 d_Ed_init_16 (fun w16 H hP hD hS => ?_)
  replace hP := zsP hP
  replace hD := zsD hD
  have hP : va_P (dC, dI) classes ([(w16, .inl (k 4, 10, .inr (.inr (.inr (.inr (fun _ => none)))))), (w7, .inl (k 3, 61, .inr (.inr (.inr (.inr (fun _ => none)))))), (h0, .inr (3, [.ref w7, .null, .int 0, .long 0, .long 0, .long 0]))]) H := hP
  have hD : va_D A ([(w16, .inl (k 4, 10, .inr (.inr (.inr (.inr (fun _ => none)))))), (w7, .inl (k 3, 61, .inr (.inr (.inr (.inr (fun _ => none)))))), (h0, .inr (3, [.ref w7, .null, .int 0, .long 0, .long 0, .long 0]))]) := hD
  refine va_putF (D := (dC, dI)) (ci := 3) (v := .ref w16) (ty := .array (.object "QuestionText$Kind")) (C := R_Ed) (T := F_Ed) (N := 6) hx hb htz i_Ed t_Ed o_Ed n_Ed hown hK hP hD hS 2 rfl rfl 1 (by decide) (htz _ kf_Ed_19) (fun _ h9 => h9) rfl hin rfl (by decide +kernel) rfl rfl (Nat.le_of_ble_eq_true rfl) d_Ed_init_19 (fun H locs hP hD hS => ?_)
  have hP : va_P (dC, dI) classes ([(w16, .inl (k 4, 10, .inr (.inr (.inr (.inr (fun _ => none)))))), (w7, .inl (k 3, 61, .inr (.inr (.inr (.inr (fun _ => none)))))), (h0, .inr (3, [.ref w7, .ref w16, .int 0, .long 0, .long 0, .long 0]))]) H := hP
  have hD : va_D A ([(w16, .inl (k 4, 10, .inr (.inr (.inr (.inr (fun _ => none)))))), (w7, .inl (k 3, 61, .inr (.inr (.inr (.inr (fun _ => none)))))), (h0, .inr (3, [.ref w7, .ref w16, .int 0, .long 0, .long 0, .long 0]))]) := hD
  refine lv_aload_n hx hb d_Ed_init_22 rfl (lv_at hl 0 rfl) ?_
  refine lv_iconst (v := 0) hx hb d_Ed_init_23 (by decide) ?_
  refine va_put (D := (dC, dI)) (ci := 3) (v := .int 0) (ty := .int) (C := R_Ed) (T := F_Ed) (N := 6) hx hb htz i_Ed t_Ed o_Ed n_Ed hown hK hP hD hS 2 rfl rfl 2 (by decide) (htz _ kf_Ed_23) (fun _ h9 => h9) rfl (by decide +kernel) rfl rfl (Nat.le_of_ble_eq_true rfl) d_Ed_init_24 (fun H locs hP hD hS => ?_)
  have hP : va_P (dC, dI) classes ([(w16, .inl (k 4, 10, .inr (.inr (.inr (.inr (fun _ => none)))))), (w7, .inl (k 3, 61, .inr (.inr (.inr (.inr (fun _ => none)))))), (h0, .inr (3, [.ref w7, .ref w16, .int 0, .long 0, .long 0, .long 0]))]) H := hP
  have hD : va_D A ([(w16, .inl (k 4, 10, .inr (.inr (.inr (.inr (fun _ => none)))))), (w7, .inl (k 3, 61, .inr (.inr (.inr (.inr (fun _ => none)))))), (h0, .inr (3, [.ref w7, .ref w16, .int 0, .long 0, .long 0, .long 0]))]) := hD
  refine lv_aload_n hx hb d_Ed_init_27 rfl (lv_at hl 0 rfl) ?_
  refine lv_lconst (v := 0) hx hb d_Ed_init_28 (by decide) ?_
  refine va_put (D := (dC, dI)) (ci := 3) (v := .long 0) (ty := .long) (C := R_Ed) (T := F_Ed) (N := 6) hx hb htz i_Ed t_Ed o_Ed n_Ed hown hK hP hD hS 2 rfl rfl 3 (by decide) (htz _ kf_Ed_27) (fun _ h9 => h9) rfl (by decide +kernel) rfl rfl (Nat.le_of_ble_eq_true rfl) d_Ed_init_29 (fun H locs hP hD hS => ?_)
  have hP : va_P (dC, dI) classes ([(w16, .inl (k 4, 10, .inr (.inr (.inr (.inr (fun _ => none)))))), (w7, .inl (k 3, 61, .inr (.inr (.inr (.inr (fun _ => none)))))), (h0, .inr (3, [.ref w7, .ref w16, .int 0, .long 0, .long 0, .long 0]))]) H := hP
  have hD : va_D A ([(w16, .inl (k 4, 10, .inr (.inr (.inr (.inr (fun _ => none)))))), (w7, .inl (k 3, 61, .inr (.inr (.inr (.inr (fun _ => none)))))), (h0, .inr (3, [.ref w7, .ref w16, .int 0, .long 0, .long 0, .long 0]))]) := hD
  refine lv_aload_n hx hb d_Ed_init_32 rfl (lv_at hl 0 rfl) ?_
  refine lv_lconst (v := 0) hx hb d_Ed_init_33 (by decide) ?_
  refine va_put (D := (dC, dI)) (ci := 3) (v := .long 0) (ty := .long) (C := R_Ed) (T := F_Ed) (N := 6) hx hb htz i_Ed t_Ed o_Ed n_Ed hown hK hP hD hS 2 rfl rfl 4 (by decide) (htz _ kf_Ed_31) (fun _ h9 => h9) rfl (by decide +kernel) rfl rfl (Nat.le_of_ble_eq_true rfl) d_Ed_init_34 (fun H locs hP hD hS => ?_)
  have hP : va_P (dC, dI) classes ([(w16, .inl (k 4, 10, .inr (.inr (.inr (.inr (fun _ => none)))))), (w7, .inl (k 3, 61, .inr (.inr (.inr (.inr (fun _ => none)))))), (h0, .inr (3, [.ref w7, .ref w16, .int 0, .long 0, .long 0, .long 0]))]) H := hP
  have hD : va_D A ([(w16, .inl (k 4, 10, .inr (.inr (.inr (.inr (fun _ => none)))))), (w7, .inl (k 3, 61, .inr (.inr (.inr (.inr (fun _ => none)))))), (h0, .inr (3, [.ref w7, .ref w16, .int 0, .long 0, .long 0, .long 0]))]) := hD
  refine lv_aload_n hx hb d_Ed_init_37 rfl (lv_at hl 0 rfl) ?_
  refine lv_lconst (v := 0) hx hb d_Ed_init_38 (by decide) ?_
  refine va_put (D := (dC, dI)) (ci := 3) (v := .long 0) (ty := .long) (C := R_Ed) (T := F_Ed) (N := 6) hx hb htz i_Ed t_Ed o_Ed n_Ed hown hK hP hD hS 2 rfl rfl 5 (by decide) (htz _ kf_Ed_34) (fun _ h9 => h9) rfl (by decide +kernel) rfl rfl (Nat.le_of_ble_eq_true rfl) d_Ed_init_39 (fun H locs hP hD hS => ?_)
  have hP : va_P (dC, dI) classes ([(w16, .inl (k 4, 10, .inr (.inr (.inr (.inr (fun _ => none)))))), (w7, .inl (k 3, 61, .inr (.inr (.inr (.inr (fun _ => none)))))), (h0, .inr (3, [.ref w7, .ref w16, .int 0, .long 0, .long 0, .long 0]))]) H := hP
  have hD : va_D A ([(w16, .inl (k 4, 10, .inr (.inr (.inr (.inr (fun _ => none)))))), (w7, .inl (k 3, 61, .inr (.inr (.inr (.inr (fun _ => none)))))), (h0, .inr (3, [.ref w7, .ref w16, .int 0, .long 0, .long 0, .long 0]))]) := hD
  refine W.widen (k := 2) (n := 71) (b_42 w7 w16).1 (b_42 w7 w16).2 ?_
  exact W.vret hx hb hr (fun t ht hW => ⟨⟨([(w16, .inl (k 4, 10, .inr (.inr (.inr (.inr (fun _ => none)))))), (w7, .inl (k 3, 61, .inr (.inr (.inr (.inr (fun _ => none)))))), (h0, .inr (3, [.ref w7, .ref w16, .int 0, .long 0, .long 0, .long 0]))]), rfl, (q_42 w7 w16), by rw [ht]; exact hP, va_K.moved hW.alike hK, hD⟩, hS.F ht⟩) hS.2.2 d_Ed_init_42
set_option maxHeartbeats 1000000 in
set_option maxRecDepth 100000 in
theorem e_Ed_init (T : ST) (Post : va_W → Prop) (h0 : Nat) (h : ∀ C : CT, C.1 = T → cN C "QuestionText$Edition" b_Ed_init 1 none → zc_Ed_init C Post 0 0 0 [(0, .ref h0)] [] ([(h0, .inr (3, [.null, .null, .int 0, .long 0, .long 0, .long 0]))])) : uV T y_Ed_init (Cond.code y_Ed_init b_Ed_init 1 none) 0 2 71 [.ref h0] ([(h0, .inr (3, [.null, .null, .int 0, .long 0, .long 0, .long 0]))]) Post := by
  obtain ⟨l, dC, dI, k, a⟩ := T
  intro sz
  refine Met.ofW (cc := b_Ed_init) (maxL := 1) (ret := none) (by decide) rfl ?_
  intro p e s m args below meth c s₁ B hml hv
  obtain ⟨rfl, hsz, hE, hP, hK, hD0⟩ := hv
  have hts := atoms_spec (ws := (Cond.code y_Ed_init b_Ed_init 1 none) :: z_T) B.pre
  have htz : ∀ w ∈ z_T, w.before _ s = true := fun w h => hts w (z_cons w h)
  subst hsz
  have hD := hD0.self (sz := s.heap.size)
  generalize hAe : va_A ([(h0, .inr (3, [.null, .null, .int 0, .long 0, .long 0, .long 0]))]) s.heap.size = A at hD hE ⊢
  have hA : ∀ q : Nat, s.heap.size ≤ q → A q := fun q h => by rw [← hAe]; exact Or.inr h
  have hl := lv_entry ([.ref h0]) (n := 1) (Nat.le_of_ble_eq_true rfl)
  rw [lg_entry_eq]
  generalize (lg_sl ([.ref h0]) ++ List.replicate (1 - (lg_sl ([.ref h0])).length) Slot.unset).toArray = ls at hl ⊢
  exact h ((l, dC, dI, k, a), p, e, s, m, ([.ref h0] : List Value).toArray, below, meth, c, A) rfl ⟨⟨B.exec, B.bytes, B.returns, htz, findClass_of_methodNamed B.named, B.notSynchronized, hml, hE, hK, hA⟩, (name_of_methodNamed B.named B.method).1⟩ s.heap [] ls hl hP hD va_S.rf
