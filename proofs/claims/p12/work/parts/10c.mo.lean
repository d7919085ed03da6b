def zn_copy (C : CT) (Post : FT → GT → Prop) (pc : Nat) (loc : List (Nat × Value)) (st : List Value) (f : FT) (g : GT) : Prop := zW C (z_rm 0 0 0) 8 (qV C Post) 0 0 pc loc st (mM C.1 f g)
set_option maxHeartbeats 1000000 in
set_option maxRecDepth 100000 in
theorem k_Mo_copy_0 {C : CT} (X : cM C "QuestionTextModel" b_Mo_copy 8 none) (Post : FT → GT → Prop) (x1 : Int32) (x2 : Int32) (f : FT) (g : GT)
    (k_2 : zn_copy C Post 2 [(0, .ref (ad C.1 0)), (1, .int x1), (2, .int x2), (3, .int 0)] [] f g) : zn_copy C Post 0 [(0, .ref (ad C.1 0)), (1, .int x1), (2, .int x2)] [] f g := by
  obtain ⟨⟨l, dC, dI, k, a⟩, p, e, s, m, args, below, meth, c, A⟩ := C
  obtain ⟨hx, hb, hr, htz, hown, hlocks, hml, hE, hK, hA⟩ := X
  intro H locs ls hl hP hD hS
  have hl : lv_has ls 8 [(0, .ref (a 0)), (1, .int x1), (2, .int x2)] := hl
  have hP : va_P (dC, dI) classes (mw k a f g) H := hP
  have hD : va_D A (mw k a f g) := hD
  show W p l e (z_rm 0 0 0) s m args below meth c H locs 0 0 _ (F0 m 0 ls [])
  refine lv_iconst (v := 0) hx hb d_Mo_copy_0 (by decide) ?_
  refine lv_istore_n (lv' := [(3, .int 0), (0, .ref (a 0)), (1, .int x1), (2, .int x2)]) hx hb d_Mo_copy_1 rfl hl (by decide) rfl (fun ls hl => ?_)
  exact k_2 H locs ls (lv_sub hl [1, 2, 3, 0] rfl) hP hD hS
set_option maxHeartbeats 1000000 in
set_option maxRecDepth 100000 in
theorem k_Mo_copy_2 {C : CT} (X : cM C "QuestionTextModel" b_Mo_copy 8 none) (Post : FT → GT → Prop) (x1 : Int32) (x2 : Int32) (x3 : Int32) (f : FT) (g : GT)
    (k_237 : (61 ≤ x3) → zn_copy C Post 237 [(0, .ref (ad C.1 0)), (1, .int x1), (2, .int x2), (3, .int 84), (4, .int 0)] [] f g)
    (h_36 : (¬ 61 ≤ x3) → vp_in ((x1 * 61) + x3) 610)
    (h_37 : (¬ 61 ≤ x3) → vp_in ((x2 * 61) + x3) 610)
    (h_50 : (¬ 61 ≤ x3) → vp_in ((x1 * 61) + x3) 610)
    (h_51 : (¬ 61 ≤ x3) → vp_in ((x2 * 61) + x3) 610)
    (h_64 : (¬ 61 ≤ x3) → vp_in ((x1 * 61) + x3) 610)
    (h_65 : (¬ 61 ≤ x3) → vp_in ((x2 * 61) + x3) 610)
    (h_78 : (¬ 61 ≤ x3) → vp_in ((x1 * 61) + x3) 610)
    (h_79 : (¬ 61 ≤ x3) → vp_in ((x2 * 61) + x3) 610)
    (h_92 : (¬ 61 ≤ x3) → vp_in ((x1 * 61) + x3) 610)
    (h_93 : (¬ 61 ≤ x3) → vp_in ((x2 * 61) + x3) 610)
    (k_97 : (¬ 61 ≤ x3) → zn_copy C Post 97 [(0, .ref (ad C.1 0)), (1, .int x1), (2, .int x2), (3, .int x3), (4, .int ((x1 * 61) + x3)), (5, .int ((x2 * 61) + x3)), (6, .int 0)] [] f (va_up (va_up (va_up (va_up (va_up g 1 (upd (g 1) ((x2 * 61) + x3 : Int32).toNatClampNeg (vp_nar .boolean (g 1 ((x1 * 61) + x3 : Int32).toNatClampNeg)))) 2 (upd (g 2) ((x2 * 61) + x3 : Int32).toNatClampNeg (vp_nar .boolean (g 2 ((x1 * 61) + x3 : Int32).toNatClampNeg)))) 3 (upd (g 3) ((x2 * 61) + x3 : Int32).toNatClampNeg (g 3 ((x1 * 61) + x3 : Int32).toNatClampNeg))) 4 (upd (g 4) ((x2 * 61) + x3 : Int32).toNatClampNeg (g 4 ((x1 * 61) + x3 : Int32).toNatClampNeg))) 7 (upd (g 7) ((x2 * 61) + x3 : Int32).toNatClampNeg (g 7 ((x1 * 61) + x3 : Int32).toNatClampNeg)))) : zn_copy C Post 2 [(0, .ref (ad C.1 0)), (1, .int x1), (2, .int x2), (3, .int x3)] [] f g := by
  obtain ⟨⟨l, dC, dI, k, a⟩, p, e, s, m, args, below, meth, c, A⟩ := C
  obtain ⟨hx, hb, hr, htz, hown, hlocks, hml, hE, hK, hA⟩ := X
  intro H locs ls hl hP hD hS
  have hl : lv_has ls 8 [(0, .ref (a 0)), (1, .int x1), (2, .int x2), (3, .int x3)] := hl
  have hP : va_P (dC, dI) classes (mw k a f g) H := hP
  have hD : va_D A (mw k a f g) := hD
  show W p l e (z_rm 0 0 0) s m args below meth c H locs 0 0 _ (F0 m 2 ls [])
  refine lv_iload_n hx hb d_Mo_copy_2 rfl (lv_at hl 3 rfl) ?_
  refine lv_bipush (v := 61) hx hb d_Mo_copy_3 (by decide) ?_
  refine lv_icmp_ge (tgt := 231) hx hb d_Mo_copy_5 (by decide) (fun c_5 => ?_) (fun c_5 => ?_)
  · refine lv_bipush (v := 84) hx hb d_Mo_copy_231 (by decide) ?_
    refine lv_istore_n (lv' := [(3, .int 84), (0, .ref (a 0)), (1, .int x1), (2, .int x2)]) hx hb d_Mo_copy_233 rfl hl (by decide) rfl (fun ls hl => ?_)
    refine lv_iconst (v := 0) hx hb d_Mo_copy_234 (by decide) ?_
    refine lv_istore (lv' := [(4, .int 0), (3, .int 84), (0, .ref (a 0)), (1, .int x1), (2, .int x2)]) hx hb d_Mo_copy_235 hl (by decide) rfl (fun ls hl => ?_)
    exact (k_237 c_5) H locs ls (lv_sub hl [2, 3, 4, 1, 0] rfl) hP hD hS
  · refine lv_iload_n hx hb d_Mo_copy_8 rfl (lv_at hl 1 rfl) ?_
    refine lv_bipush (v := 61) hx hb d_Mo_copy_9 (by decide) ?_
    refine lv_imul hx hb d_Mo_copy_11 ?_
    refine lv_iload_n hx hb d_Mo_copy_12 rfl (lv_at hl 3 rfl) ?_
    refine lv_iadd hx hb d_Mo_copy_13 ?_
    refine lv_istore (lv' := [(4, .int ((x1 * 61) + x3)), (0, .ref (a 0)), (1, .int x1), (2, .int x2), (3, .int x3)]) hx hb d_Mo_copy_14 hl (by decide) rfl (fun ls hl => ?_)
    refine lv_iload_n hx hb d_Mo_copy_16 rfl (lv_at hl 3 rfl) ?_
    refine lv_bipush (v := 61) hx hb d_Mo_copy_17 (by decide) ?_
    refine lv_imul hx hb d_Mo_copy_19 ?_
    refine lv_iload_n hx hb d_Mo_copy_20 rfl (lv_at hl 4 rfl) ?_
    refine lv_iadd hx hb d_Mo_copy_21 ?_
    refine lv_istore (lv' := [(5, .int ((x2 * 61) + x3)), (4, .int ((x1 * 61) + x3)), (0, .ref (a 0)), (1, .int x1), (2, .int x2), (3, .int x3)]) hx hb d_Mo_copy_22 hl (by decide) rfl (fun ls hl => ?_)
    refine lv_aload_n hx hb d_Mo_copy_24 rfl (lv_at hl 2 rfl) ?_
    refine va_get (D := (dC, dI)) (ci := 4) (v := .ref (a 2)) (C := R_Mo) (T := F_Mo) (N := 31) hx hb htz i_Mo hown hK hP 0 rfl rfl 6 (by decide) (htz _ kf_Mo_17) (fun _ h9 => h9) rfl d_Mo_copy_25 ?_
    refine lv_iload hx hb d_Mo_copy_28 (lv_at hl 0 rfl) ?_
    refine lv_aload_n hx hb d_Mo_copy_30 rfl (lv_at hl 2 rfl) ?_
    refine va_get (D := (dC, dI)) (ci := 4) (v := .ref (a 2)) (C := R_Mo) (T := F_Mo) (N := 31) hx hb htz i_Mo hown hK hP 0 rfl rfl 6 (by decide) (htz _ kf_Mo_17) (fun _ h9 => h9) rfl d_Mo_copy_31 ?_
    refine lv_iload hx hb d_Mo_copy_34 (lv_at hl 1 rfl) ?_
    refine va_zald hx hb hK hP 2 2 rfl rfl (h_36 c_5) d_Mo_copy_36 ?_
    refine va_zast hx hb hK hP hD hS 2 2 rfl rfl (h_37 c_5) d_Mo_copy_37 (fun H locs hP hD hS => ?_)
    replace hP := mg_1 (c := upd (g 1) ((x2 * 61) + x3 : Int32).toNatClampNeg (vp_nar .boolean (g 1 ((x1 * 61) + x3 : Int32).toNatClampNeg))) hP
    replace hD := mh_1 (c := upd (g 1) ((x2 * 61) + x3 : Int32).toNatClampNeg (vp_nar .boolean (g 1 ((x1 * 61) + x3 : Int32).toNatClampNeg))) hD
    refine lv_aload_n hx hb d_Mo_copy_38 rfl (lv_at hl 2 rfl) ?_
    refine va_get (D := (dC, dI)) (ci := 4) (v := .ref (a 3)) (C := R_Mo) (T := F_Mo) (N := 31) hx hb htz i_Mo hown hK hP 0 rfl rfl 7 (by decide) (htz _ kf_Mo_21) (fun _ h9 => h9) rfl d_Mo_copy_39 ?_
    refine lv_iload hx hb d_Mo_copy_42 (lv_at hl 0 rfl) ?_
    refine lv_aload_n hx hb d_Mo_copy_44 rfl (lv_at hl 2 rfl) ?_
    refine va_get (D := (dC, dI)) (ci := 4) (v := .ref (a 3)) (C := R_Mo) (T := F_Mo) (N := 31) hx hb htz i_Mo hown hK hP 0 rfl rfl 7 (by decide) (htz _ kf_Mo_21) (fun _ h9 => h9) rfl d_Mo_copy_45 ?_
    refine lv_iload hx hb d_Mo_copy_48 (lv_at hl 1 rfl) ?_
    refine va_zald hx hb hK hP 3 2 rfl rfl (h_50 c_5) d_Mo_copy_50 ?_
    refine va_zast hx hb hK hP hD hS 3 2 rfl rfl (h_51 c_5) d_Mo_copy_51 (fun H locs hP hD hS => ?_)
    replace hP := mg_2 (c := upd (g 2) ((x2 * 61) + x3 : Int32).toNatClampNeg (vp_nar .boolean (g 2 ((x1 * 61) + x3 : Int32).toNatClampNeg))) hP
    replace hD := mh_2 (c := upd (g 2) ((x2 * 61) + x3 : Int32).toNatClampNeg (vp_nar .boolean (g 2 ((x1 * 61) + x3 : Int32).toNatClampNeg))) hD
    refine lv_aload_n hx hb d_Mo_copy_52 rfl (lv_at hl 2 rfl) ?_
    refine va_get (D := (dC, dI)) (ci := 4) (v := .ref (a 4)) (C := R_Mo) (T := F_Mo) (N := 31) hx hb htz i_Mo hown hK hP 0 rfl rfl 8 (by decide) (htz _ kf_Mo_24) (fun _ h9 => h9) rfl d_Mo_copy_53 ?_
    refine lv_iload hx hb d_Mo_copy_56 (lv_at hl 0 rfl) ?_
    refine lv_aload_n hx hb d_Mo_copy_58 rfl (lv_at hl 2 rfl) ?_
    refine va_get (D := (dC, dI)) (ci := 4) (v := .ref (a 4)) (C := R_Mo) (T := F_Mo) (N := 31) hx hb htz i_Mo hown hK hP 0 rfl rfl 8 (by decide) (htz _ kf_Mo_24) (fun _ h9 => h9) rfl d_Mo_copy_59 ?_
    refine lv_iload hx hb d_Mo_copy_62 (lv_at hl 1 rfl) ?_
    refine va_iald hx hb hK hP 4 0 rfl rfl (h_64 c_5) d_Mo_copy_64 ?_
    refine va_iast hx hb hK hP hD hS 4 0 rfl rfl (h_65 c_5) d_Mo_copy_65 (fun H locs hP hD hS => ?_)
    replace hP := mg_3 (c := upd (g 3) ((x2 * 61) + x3 : Int32).toNatClampNeg (g 3 ((x1 * 61) + x3 : Int32).toNatClampNeg)) hP
    replace hD := mh_3 (c := upd (g 3) ((x2 * 61) + x3 : Int32).toNatClampNeg (g 3 ((x1 * 61) + x3 : Int32).toNatClampNeg)) hD
    refine lv_aload_n hx hb d_Mo_copy_66 rfl (lv_at hl 2 rfl) ?_
    refine va_get (D := (dC, dI)) (ci := 4) (v := .ref (a 5)) (C := R_Mo) (T := F_Mo) (N := 31) hx hb htz i_Mo hown hK hP 0 rfl rfl 9 (by decide) (htz _ kf_Mo_27) (fun _ h9 => h9) rfl d_Mo_copy_67 ?_
    refine lv_iload hx hb d_Mo_copy_70 (lv_at hl 0 rfl) ?_
    refine lv_aload_n hx hb d_Mo_copy_72 rfl (lv_at hl 2 rfl) ?_
    refine va_get (D := (dC, dI)) (ci := 4) (v := .ref (a 5)) (C := R_Mo) (T := F_Mo) (N := 31) hx hb htz i_Mo hown hK hP 0 rfl rfl 9 (by decide) (htz _ kf_Mo_27) (fun _ h9 => h9) rfl d_Mo_copy_73 ?_
    refine lv_iload hx hb d_Mo_copy_76 (lv_at hl 1 rfl) ?_
    refine va_iald hx hb hK hP 5 0 rfl rfl (h_78 c_5) d_Mo_copy_78 ?_
    refine va_iast hx hb hK hP hD hS 5 0 rfl rfl (h_79 c_5) d_Mo_copy_79 (fun H locs hP hD hS => ?_)
    replace hP := mg_4 (c := upd (g 4) ((x2 * 61) + x3 : Int32).toNatClampNeg (g 4 ((x1 * 61) + x3 : Int32).toNatClampNeg)) hP
    replace hD := mh_4 (c := upd (g 4) ((x2 * 61) + x3 : Int32).toNatClampNeg (g 4 ((x1 * 61) + x3 : Int32).toNatClampNeg)) hD
    refine lv_aload_n hx hb d_Mo_copy_80 rfl (lv_at hl 2 rfl) ?_
    refine va_get (D := (dC, dI)) (ci := 4) (v := .ref (a 8)) (C := R_Mo) (T := F_Mo) (N := 31) hx hb htz i_Mo hown hK hP 0 rfl rfl 12 (by decide) (htz _ kf_Mo_36) (fun _ h9 => h9) rfl d_Mo_copy_81 ?_
    refine lv_iload hx hb d_Mo_copy_84 (lv_at hl 0 rfl) ?_
    refine lv_aload_n hx hb d_Mo_copy_86 rfl (lv_at hl 2 rfl) ?_
    refine va_get (D := (dC, dI)) (ci := 4) (v := .ref (a 8)) (C := R_Mo) (T := F_Mo) (N := 31) hx hb htz i_Mo hown hK hP 0 rfl rfl 12 (by decide) (htz _ kf_Mo_36) (fun _ h9 => h9) rfl d_Mo_copy_87 ?_
    refine lv_iload hx hb d_Mo_copy_90 (lv_at hl 1 rfl) ?_
    refine va_iald hx hb hK hP 8 0 rfl rfl (h_92 c_5) d_Mo_copy_92 ?_
    refine va_iast hx hb hK hP hD hS 8 0 rfl rfl (h_93 c_5) d_Mo_copy_93 (fun H locs hP hD hS => ?_)
    replace hP := mg_7 (c := upd (g 7) ((x2 * 61) + x3 : Int32).toNatClampNeg (g 7 ((x1 * 61) + x3 : Int32).toNatClampNeg)) hP
    replace hD := mh_7 (c := upd (g 7) ((x2 * 61) + x3 : Int32).toNatClampNeg (g 7 ((x1 * 61) + x3 : Int32).toNatClampNeg)) hD
    refine lv_iconst (v := 0) hx hb d_Mo_copy_94 (by decide) ?_
    refine lv_istore (lv' := [(6, .int 0), (5, .int ((x2 * 61) + x3)), (4, .int ((x1 * 61) + x3)), (0, .ref (a 0)), (1, .int x1), (2, .int x2), (3, .int x3)]) hx hb d_Mo_copy_95 hl (by decide) rfl (fun ls hl => ?_)
    exact (k_97 c_5) H locs ls (lv_sub hl [3, 4, 5, 6, 2, 1, 0] rfl) hP hD hS
set_option maxHeartbeats 1000000 in
set_option maxRecDepth 100000 in
theorem k_Mo_copy_97 {C : CT} (X : cM C "QuestionTextModel" b_Mo_copy 8 none) (Post : FT → GT → Prop) (x1 : Int32) (x2 : Int32) (x3 : Int32) (x4 : Int32) (x5 : Int32) (x6 : Int32) (f : FT) (g : GT)
    (k_136 : (2 ≤ x6) → zn_copy C Post 136 [(0, .ref (ad C.1 0)), (1, .int x1), (2, .int x2), (3, .int x3), (4, .int x4), (5, .int x5), (6, .int 0)] [] f g)
    (h_125 : (¬ 2 ≤ x6) → vp_in ((2 * x4) + x6) 1220)
    (h_126 : (¬ 2 ≤ x6) → vp_in ((2 * x5) + x6) 1220)
    (k_97 : (¬ 2 ≤ x6) → zn_copy C Post 97 [(0, .ref (ad C.1 0)), (1, .int x1), (2, .int x2), (3, .int x3), (4, .int x4), (5, .int x5), (6, .int (x6 + 1))] [] f (va_up g 5 (upd (g 5) ((2 * x5) + x6 : Int32).toNatClampNeg (g 5 ((2 * x4) + x6 : Int32).toNatClampNeg)))) : zn_copy C Post 97 [(0, .ref (ad C.1 0)), (1, .int x1), (2, .int x2), (3, .int x3), (4, .int x4), (5, .int x5), (6, .int x6)] [] f g := by
  obtain ⟨⟨l, dC, dI, k, a⟩, p, e, s, m, args, below, meth, c, A⟩ := C
  obtain ⟨hx, hb, hr, htz, hown, hlocks, hml, hE, hK, hA⟩ := X
  intro H locs ls hl hP hD hS
  have hl : lv_has ls 8 [(0, .ref (a 0)), (1, .int x1), (2, .int x2), (3, .int x3), (4, .int x4), (5, .int x5), (6, .int x6)] := hl
  have hP : va_P (dC, dI) classes (mw k a f g) H := hP
  have hD : va_D A (mw k a f g) := hD
  show W p l e (z_rm 0 0 0) s m args below meth c H locs 0 0 _ (F0 m 97 ls [])
  refine lv_iload hx hb d_Mo_copy_97 (lv_at hl 6 rfl) ?_
  refine lv_iconst (v := 2) hx hb d_Mo_copy_99 (by decide) ?_
  refine lv_icmp_ge (tgt := 133) hx hb d_Mo_copy_100 (by decide) (fun c_100 => ?_) (fun c_100 => ?_)
  · refine lv_iconst (v := 0) hx hb d_Mo_copy_133 (by decide) ?_
    refine lv_istore (lv' := [(6, .int 0), (0, .ref (a 0)), (1, .int x1), (2, .int x2), (3, .int x3), (4, .int x4), (5, .int x5)]) hx hb d_Mo_copy_134 hl (by decide) rfl (fun ls hl => ?_)
    exact (k_136 c_100) H locs ls (lv_sub hl [1, 2, 3, 4, 5, 6, 0] rfl) hP hD hS
  · refine lv_aload_n hx hb d_Mo_copy_103 rfl (lv_at hl 0 rfl) ?_
    refine va_get (D := (dC, dI)) (ci := 4) (v := .ref (a 6)) (C := R_Mo) (T := F_Mo) (N := 31) hx hb htz i_Mo hown hK hP 0 rfl rfl 10 (by decide) (htz _ kf_Mo_30) (fun _ h9 => h9) rfl d_Mo_copy_104 ?_
    refine lv_iconst (v := 2) hx hb d_Mo_copy_107 (by decide) ?_
    refine lv_iload hx hb d_Mo_copy_108 (lv_at hl 5 rfl) ?_
    refine lv_imul hx hb d_Mo_copy_110 ?_
    refine lv_iload hx hb d_Mo_copy_111 (lv_at hl 6 rfl) ?_
    refine lv_iadd hx hb d_Mo_copy_113 ?_
    refine lv_aload_n hx hb d_Mo_copy_114 rfl (lv_at hl 0 rfl) ?_
    refine va_get (D := (dC, dI)) (ci := 4) (v := .ref (a 6)) (C := R_Mo) (T := F_Mo) (N := 31) hx hb htz i_Mo hown hK hP 0 rfl rfl 10 (by decide) (htz _ kf_Mo_30) (fun _ h9 => h9) rfl d_Mo_copy_115 ?_
    refine lv_iconst (v := 2) hx hb d_Mo_copy_118 (by decide) ?_
    refine lv_iload hx hb d_Mo_copy_119 (lv_at hl 4 rfl) ?_
    refine lv_imul hx hb d_Mo_copy_121 ?_
    refine lv_iload hx hb d_Mo_copy_122 (lv_at hl 6 rfl) ?_
    refine lv_iadd hx hb d_Mo_copy_124 ?_
    refine va_iald hx hb hK hP 6 0 rfl rfl (h_125 c_100) d_Mo_copy_125 ?_
    refine va_iast hx hb hK hP hD hS 6 0 rfl rfl (h_126 c_100) d_Mo_copy_126 (fun H locs hP hD hS => ?_)
    replace hP := mg_5 (c := upd (g 5) ((2 * x5) + x6 : Int32).toNatClampNeg (g 5 ((2 * x4) + x6 : Int32).toNatClampNeg)) hP
    replace hD := mh_5 (c := upd (g 5) ((2 * x5) + x6 : Int32).toNatClampNeg (g 5 ((2 * x4) + x6 : Int32).toNatClampNeg)) hD
    refine lv_iinc (v := x6 + 1) (lv' := [(6, .int (x6 + 1)), (0, .ref (a 0)), (1, .int x1), (2, .int x2), (3, .int x3), (4, .int x4), (5, .int x5)]) hx hb d_Mo_copy_127 hl (k := 6) rfl (rfl) (by decide) rfl (fun ls hl => ?_)
    refine lv_goto (tgt := 97) hx hb d_Mo_copy_130 (by decide) ?_
    exact (k_97 c_100) H locs ls (lv_sub hl [1, 2, 3, 4, 5, 6, 0] rfl) hP hD hS
set_option maxHeartbeats 1000000 in
set_option maxRecDepth 100000 in
theorem k_Mo_copy_136 {C : CT} (X : cM C "QuestionTextModel" b_Mo_copy 8 none) (Post : FT → GT → Prop) (x1 : Int32) (x2 : Int32) (x3 : Int32) (x4 : Int32) (x5 : Int32) (x6 : Int32) (f : FT) (g : GT)
    (k_182 : (24 ≤ x6) → zn_copy C Post 182 [(0, .ref (ad C.1 0)), (1, .int x1), (2, .int x2), (3, .int x3), (4, .int x4), (5, .int x5), (6, .int 0)] [] f g)
    (h_171 : (¬ 24 ≤ x6) → vp_in (((x4 * 2) * 12) + x6) 14640)
    (h_172 : (¬ 24 ≤ x6) → vp_in (((x5 * 2) * 12) + x6) 14640)
    (k_136 : (¬ 24 ≤ x6) → zn_copy C Post 136 [(0, .ref (ad C.1 0)), (1, .int x1), (2, .int x2), (3, .int x3), (4, .int x4), (5, .int x5), (6, .int (x6 + 1))] [] f (va_up g 6 (upd (g 6) (((x5 * 2) * 12) + x6 : Int32).toNatClampNeg (g 6 (((x4 * 2) * 12) + x6 : Int32).toNatClampNeg)))) : zn_copy C Post 136 [(0, .ref (ad C.1 0)), (1, .int x1), (2, .int x2), (3, .int x3), (4, .int x4), (5, .int x5), (6, .int x6)] [] f g := by
  obtain ⟨⟨l, dC, dI, k, a⟩, p, e, s, m, args, below, meth, c, A⟩ := C
  obtain ⟨hx, hb, hr, htz, hown, hlocks, hml, hE, hK, hA⟩ := X
  intro H locs ls hl hP hD hS
  have hl : lv_has ls 8 [(0, .ref (a 0)), (1, .int x1), (2, .int x2), (3, .int x3), (4, .int x4), (5, .int x5), (6, .int x6)] := hl
  have hP : va_P (dC, dI) classes (mw k a f g) H := hP
  have hD : va_D A (mw k a f g) := hD
  show W p l e (z_rm 0 0 0) s m args below meth c H locs 0 0 _ (F0 m 136 ls [])
  refine lv_iload hx hb d_Mo_copy_136 (lv_at hl 6 rfl) ?_
  refine lv_bipush (v := 24) hx hb d_Mo_copy_138 (by decide) ?_
  refine lv_icmp_ge (tgt := 179) hx hb d_Mo_copy_140 (by decide) (fun c_140 => ?_) (fun c_140 => ?_)
  · refine lv_iconst (v := 0) hx hb d_Mo_copy_179 (by decide) ?_
    refine lv_istore (lv' := [(6, .int 0), (0, .ref (a 0)), (1, .int x1), (2, .int x2), (3, .int x3), (4, .int x4), (5, .int x5)]) hx hb d_Mo_copy_180 hl (by decide) rfl (fun ls hl => ?_)
    exact (k_182 c_140) H locs ls (lv_sub hl [1, 2, 3, 4, 5, 6, 0] rfl) hP hD hS
  · refine lv_aload_n hx hb d_Mo_copy_143 rfl (lv_at hl 0 rfl) ?_
    refine va_get (D := (dC, dI)) (ci := 4) (v := .ref (a 7)) (C := R_Mo) (T := F_Mo) (N := 31) hx hb htz i_Mo hown hK hP 0 rfl rfl 11 (by decide) (htz _ kf_Mo_33) (fun _ h9 => h9) rfl d_Mo_copy_144 ?_
    refine lv_iload hx hb d_Mo_copy_147 (lv_at hl 5 rfl) ?_
    refine lv_iconst (v := 2) hx hb d_Mo_copy_149 (by decide) ?_
    refine lv_imul hx hb d_Mo_copy_150 ?_
    refine lv_bipush (v := 12) hx hb d_Mo_copy_151 (by decide) ?_
    refine lv_imul hx hb d_Mo_copy_153 ?_
    refine lv_iload hx hb d_Mo_copy_154 (lv_at hl 6 rfl) ?_
    refine lv_iadd hx hb d_Mo_copy_156 ?_
    refine lv_aload_n hx hb d_Mo_copy_157 rfl (lv_at hl 0 rfl) ?_
    refine va_get (D := (dC, dI)) (ci := 4) (v := .ref (a 7)) (C := R_Mo) (T := F_Mo) (N := 31) hx hb htz i_Mo hown hK hP 0 rfl rfl 11 (by decide) (htz _ kf_Mo_33) (fun _ h9 => h9) rfl d_Mo_copy_158 ?_
    refine lv_iload hx hb d_Mo_copy_161 (lv_at hl 4 rfl) ?_
    refine lv_iconst (v := 2) hx hb d_Mo_copy_163 (by decide) ?_
    refine lv_imul hx hb d_Mo_copy_164 ?_
    refine lv_bipush (v := 12) hx hb d_Mo_copy_165 (by decide) ?_
    refine lv_imul hx hb d_Mo_copy_167 ?_
    refine lv_iload hx hb d_Mo_copy_168 (lv_at hl 6 rfl) ?_
    refine lv_iadd hx hb d_Mo_copy_170 ?_
    refine va_iald hx hb hK hP 7 0 rfl rfl (h_171 c_140) d_Mo_copy_171 ?_
    refine va_iast hx hb hK hP hD hS 7 0 rfl rfl (h_172 c_140) d_Mo_copy_172 (fun H locs hP hD hS => ?_)
    replace hP := mg_6 (c := upd (g 6) (((x5 * 2) * 12) + x6 : Int32).toNatClampNeg (g 6 (((x4 * 2) * 12) + x6 : Int32).toNatClampNeg)) hP
    replace hD := mh_6 (c := upd (g 6) (((x5 * 2) * 12) + x6 : Int32).toNatClampNeg (g 6 (((x4 * 2) * 12) + x6 : Int32).toNatClampNeg)) hD
    refine lv_iinc (v := x6 + 1) (lv' := [(6, .int (x6 + 1)), (0, .ref (a 0)), (1, .int x1), (2, .int x2), (3, .int x3), (4, .int x4), (5, .int x5)]) hx hb d_Mo_copy_173 hl (k := 6) rfl (rfl) (by decide) rfl (fun ls hl => ?_)
    refine lv_goto (tgt := 136) hx hb d_Mo_copy_176 (by decide) ?_
    exact (k_136 c_140) H locs ls (lv_sub hl [1, 2, 3, 4, 5, 6, 0] rfl) hP hD hS
set_option maxHeartbeats 1000000 in
set_option maxRecDepth 100000 in
theorem k_Mo_copy_182 {C : CT} (X : cM C "QuestionTextModel" b_Mo_copy 8 none) (Post : FT → GT → Prop) (x1 : Int32) (x2 : Int32) (x3 : Int32) (x4 : Int32) (x5 : Int32) (x6 : Int32) (f : FT) (g : GT)
    (k_2 : (24 ≤ x6) → zn_copy C Post 2 [(0, .ref (ad C.1 0)), (1, .int x1), (2, .int x2), (3, .int (x3 + 1))] [] f g)
    (h_217 : (¬ 24 ≤ x6) → vp_in (((x4 * 6) * 4) + x6) 14640)
    (h_218 : (¬ 24 ≤ x6) → vp_in (((x5 * 6) * 4) + x6) 14640)
    (k_182 : (¬ 24 ≤ x6) → zn_copy C Post 182 [(0, .ref (ad C.1 0)), (1, .int x1), (2, .int x2), (3, .int x3), (4, .int x4), (5, .int x5), (6, .int (x6 + 1))] [] f (va_up g 8 (upd (g 8) (((x5 * 6) * 4) + x6 : Int32).toNatClampNeg (g 8 (((x4 * 6) * 4) + x6 : Int32).toNatClampNeg)))) : zn_copy C Post 182 [(0, .ref (ad C.1 0)), (1, .int x1), (2, .int x2), (3, .int x3), (4, .int x4), (5, .int x5), (6, .int x6)] [] f g := by
  obtain ⟨⟨l, dC, dI, k, a⟩, p, e, s, m, args, below, meth, c, A⟩ := C
  obtain ⟨hx, hb, hr, htz, hown, hlocks, hml, hE, hK, hA⟩ := X
  intro H locs ls hl hP hD hS
  have hl : lv_has ls 8 [(0, .ref (a 0)), (1, .int x1), (2, .int x2), (3, .int x3), (4, .int x4), (5, .int x5), (6, .int x6)] := hl
  have hP : va_P (dC, dI) classes (mw k a f g) H := hP
  have hD : va_D A (mw k a f g) := hD
  show W p l e (z_rm 0 0 0) s m args below meth c H locs 0 0 _ (F0 m 182 ls [])
  refine lv_iload hx hb d_Mo_copy_182 (lv_at hl 6 rfl) ?_
  refine lv_bipush (v := 24) hx hb d_Mo_copy_184 (by decide) ?_
  refine lv_icmp_ge (tgt := 225) hx hb d_Mo_copy_186 (by decide) (fun c_186 => ?_) (fun c_186 => ?_)
  · refine lv_iinc (v := x3 + 1) (lv' := [(3, .int (x3 + 1)), (0, .ref (a 0)), (1, .int x1), (2, .int x2), (4, .int x4), (5, .int x5), (6, .int x6)]) hx hb d_Mo_copy_225 hl (k := 3) rfl (rfl) (by decide) rfl (fun ls hl => ?_)
    refine lv_goto (tgt := 2) hx hb d_Mo_copy_228 (by decide) ?_
    exact (k_2 c_186) H locs ls (lv_sub hl [1, 2, 3, 0] rfl) hP hD hS
  · refine lv_aload_n hx hb d_Mo_copy_189 rfl (lv_at hl 0 rfl) ?_
    refine va_get (D := (dC, dI)) (ci := 4) (v := .ref (a 9)) (C := R_Mo) (T := F_Mo) (N := 31) hx hb htz i_Mo hown hK hP 0 rfl rfl 13 (by decide) (htz _ kf_Mo_39) (fun _ h9 => h9) rfl d_Mo_copy_190 ?_
    refine lv_iload hx hb d_Mo_copy_193 (lv_at hl 5 rfl) ?_
    refine lv_bipush (v := 6) hx hb d_Mo_copy_195 (by decide) ?_
    refine lv_imul hx hb d_Mo_copy_197 ?_
    refine lv_iconst (v := 4) hx hb d_Mo_copy_198 (by decide) ?_
    refine lv_imul hx hb d_Mo_copy_199 ?_
    refine lv_iload hx hb d_Mo_copy_200 (lv_at hl 6 rfl) ?_
    refine lv_iadd hx hb d_Mo_copy_202 ?_
    refine lv_aload_n hx hb d_Mo_copy_203 rfl (lv_at hl 0 rfl) ?_
    refine va_get (D := (dC, dI)) (ci := 4) (v := .ref (a 9)) (C := R_Mo) (T := F_Mo) (N := 31) hx hb htz i_Mo hown hK hP 0 rfl rfl 13 (by decide) (htz _ kf_Mo_39) (fun _ h9 => h9) rfl d_Mo_copy_204 ?_
    refine lv_iload hx hb d_Mo_copy_207 (lv_at hl 4 rfl) ?_
    refine lv_bipush (v := 6) hx hb d_Mo_copy_209 (by decide) ?_
    refine lv_imul hx hb d_Mo_copy_211 ?_
    refine lv_iconst (v := 4) hx hb d_Mo_copy_212 (by decide) ?_
    refine lv_imul hx hb d_Mo_copy_213 ?_
    refine lv_iload hx hb d_Mo_copy_214 (lv_at hl 6 rfl) ?_
    refine lv_iadd hx hb d_Mo_copy_216 ?_
    refine va_iald hx hb hK hP 9 0 rfl rfl (h_217 c_186) d_Mo_copy_217 ?_
    refine va_iast hx hb hK hP hD hS 9 0 rfl rfl (h_218 c_186) d_Mo_copy_218 (fun H locs hP hD hS => ?_)
    replace hP := mg_8 (c := upd (g 8) (((x5 * 6) * 4) + x6 : Int32).toNatClampNeg (g 8 (((x4 * 6) * 4) + x6 : Int32).toNatClampNeg)) hP
    replace hD := mh_8 (c := upd (g 8) (((x5 * 6) * 4) + x6 : Int32).toNatClampNeg (g 8 (((x4 * 6) * 4) + x6 : Int32).toNatClampNeg)) hD
    refine lv_iinc (v := x6 + 1) (lv' := [(6, .int (x6 + 1)), (0, .ref (a 0)), (1, .int x1), (2, .int x2), (3, .int x3), (4, .int x4), (5, .int x5)]) hx hb d_Mo_copy_219 hl (k := 6) rfl (rfl) (by decide) rfl (fun ls hl => ?_)
    refine lv_goto (tgt := 182) hx hb d_Mo_copy_222 (by decide) ?_
    exact (k_182 c_186) H locs ls (lv_sub hl [1, 2, 3, 4, 5, 6, 0] rfl) hP hD hS
set_option maxHeartbeats 1000000 in
set_option maxRecDepth 100000 in
theorem k_Mo_copy_237 {C : CT} (X : cM C "QuestionTextModel" b_Mo_copy 8 none) (Post : FT → GT → Prop) (x1 : Int32) (x2 : Int32) (x3 : Int32) (x4 : Int32) (f : FT) (g : GT)
    (q_349 : (10 ≤ x4) → Post f g)
    (h_274 : (¬ 10 ≤ x4) → vp_in ((x1 * 10) + x4) 100)
    (h_275 : (¬ 10 ≤ x4) → vp_in ((x2 * 10) + x4) 100)
    (h_288 : (¬ 10 ≤ x4) → vp_in ((x1 * 10) + x4) 100)
    (h_289 : (¬ 10 ≤ x4) → vp_in ((x2 * 10) + x4) 100)
    (h_302 : (¬ 10 ≤ x4) → vp_in ((x1 * 10) + x4) 100)
    (h_303 : (¬ 10 ≤ x4) → vp_in ((x2 * 10) + x4) 100)
    (k_307 : (¬ 10 ≤ x4) → zn_copy C Post 307 [(0, .ref (ad C.1 0)), (1, .int x1), (2, .int x2), (3, .int x3), (4, .int x4), (5, .int ((x1 * 10) + x4)), (6, .int ((x2 * 10) + x4)), (7, .int 0)] [] f (va_up (va_up (va_up g 9 (upd (g 9) ((x2 * 10) + x4 : Int32).toNatClampNeg (g 9 ((x1 * 10) + x4 : Int32).toNatClampNeg))) 10 (upd (g 10) ((x2 * 10) + x4 : Int32).toNatClampNeg (g 10 ((x1 * 10) + x4 : Int32).toNatClampNeg))) 11 (upd (g 11) ((x2 * 10) + x4 : Int32).toNatClampNeg (g 11 ((x1 * 10) + x4 : Int32).toNatClampNeg)))) : zn_copy C Post 237 [(0, .ref (ad C.1 0)), (1, .int x1), (2, .int x2), (3, .int x3), (4, .int x4)] [] f g := by
  obtain ⟨⟨l, dC, dI, k, a⟩, p, e, s, m, args, below, meth, c, A⟩ := C
  obtain ⟨hx, hb, hr, htz, hown, hlocks, hml, hE, hK, hA⟩ := X
  intro H locs ls hl hP hD hS
  have hl : lv_has ls 8 [(0, .ref (a 0)), (1, .int x1), (2, .int x2), (3, .int x3), (4, .int x4)] := hl
  have hP : va_P (dC, dI) classes (mw k a f g) H := hP
  have hD : va_D A (mw k a f g) := hD
  show W p l e (z_rm 0 0 0) s m args below meth c H locs 0 0 _ (F0 m 237 ls [])
  refine lv_iload hx hb d_Mo_copy_237 (lv_at hl 4 rfl) ?_
  refine lv_bipush (v := 10) hx hb d_Mo_copy_239 (by decide) ?_
  refine lv_icmp_ge (tgt := 349) hx hb d_Mo_copy_241 (by decide) (fun c_241 => ?_) (fun c_241 => ?_)
  · exact W.vret hx hb hr (fun t ht hW => ⟨⟨(f, g), rfl, (q_349 c_241), by rw [ht]; exact hP, va_K.moved hW.alike hK, hD⟩, hS.F ht⟩) hS.2.2 d_Mo_copy_349
  · refine lv_iload_n hx hb d_Mo_copy_244 rfl (lv_at hl 1 rfl) ?_
    refine lv_bipush (v := 10) hx hb d_Mo_copy_245 (by decide) ?_
    refine lv_imul hx hb d_Mo_copy_247 ?_
    refine lv_iload hx hb d_Mo_copy_248 (lv_at hl 4 rfl) ?_
    refine lv_iadd hx hb d_Mo_copy_250 ?_
    refine lv_istore (lv' := [(5, .int ((x1 * 10) + x4)), (0, .ref (a 0)), (1, .int x1), (2, .int x2), (3, .int x3), (4, .int x4)]) hx hb d_Mo_copy_251 hl (by decide) rfl (fun ls hl => ?_)
    refine lv_iload_n hx hb d_Mo_copy_253 rfl (lv_at hl 3 rfl) ?_
    refine lv_bipush (v := 10) hx hb d_Mo_copy_254 (by decide) ?_
    refine lv_imul hx hb d_Mo_copy_256 ?_
    refine lv_iload hx hb d_Mo_copy_257 (lv_at hl 5 rfl) ?_
    refine lv_iadd hx hb d_Mo_copy_259 ?_
    refine lv_istore (lv' := [(6, .int ((x2 * 10) + x4)), (5, .int ((x1 * 10) + x4)), (0, .ref (a 0)), (1, .int x1), (2, .int x2), (3, .int x3), (4, .int x4)]) hx hb d_Mo_copy_260 hl (by decide) rfl (fun ls hl => ?_)
    refine lv_aload_n hx hb d_Mo_copy_262 rfl (lv_at hl 2 rfl) ?_
    refine va_get (D := (dC, dI)) (ci := 4) (v := .ref (a 10)) (C := R_Mo) (T := F_Mo) (N := 31) hx hb htz i_Mo hown hK hP 0 rfl rfl 14 (by decide) (htz _ kf_Mo_42) (fun _ h9 => h9) rfl d_Mo_copy_263 ?_
    refine lv_iload hx hb d_Mo_copy_266 (lv_at hl 0 rfl) ?_
    refine lv_aload_n hx hb d_Mo_copy_268 rfl (lv_at hl 2 rfl) ?_
    refine va_get (D := (dC, dI)) (ci := 4) (v := .ref (a 10)) (C := R_Mo) (T := F_Mo) (N := 31) hx hb htz i_Mo hown hK hP 0 rfl rfl 14 (by decide) (htz _ kf_Mo_42) (fun _ h9 => h9) rfl d_Mo_copy_269 ?_
    refine lv_iload hx hb d_Mo_copy_272 (lv_at hl 1 rfl) ?_
    refine va_iald hx hb hK hP 10 0 rfl rfl (h_274 c_241) d_Mo_copy_274 ?_
    refine va_iast hx hb hK hP hD hS 10 0 rfl rfl (h_275 c_241) d_Mo_copy_275 (fun H locs hP hD hS => ?_)
    replace hP := mg_9 (c := upd (g 9) ((x2 * 10) + x4 : Int32).toNatClampNeg (g 9 ((x1 * 10) + x4 : Int32).toNatClampNeg)) hP
    replace hD := mh_9 (c := upd (g 9) ((x2 * 10) + x4 : Int32).toNatClampNeg (g 9 ((x1 * 10) + x4 : Int32).toNatClampNeg)) hD
    refine lv_aload_n hx hb d_Mo_copy_276 rfl (lv_at hl 2 rfl) ?_
    refine va_get (D := (dC, dI)) (ci := 4) (v := .ref (a 11)) (C := R_Mo) (T := F_Mo) (N := 31) hx hb htz i_Mo hown hK hP 0 rfl rfl 15 (by decide) (htz _ kf_Mo_45) (fun _ h9 => h9) rfl d_Mo_copy_277 ?_
    refine lv_iload hx hb d_Mo_copy_280 (lv_at hl 0 rfl) ?_
    refine lv_aload_n hx hb d_Mo_copy_282 rfl (lv_at hl 2 rfl) ?_
    refine va_get (D := (dC, dI)) (ci := 4) (v := .ref (a 11)) (C := R_Mo) (T := F_Mo) (N := 31) hx hb htz i_Mo hown hK hP 0 rfl rfl 15 (by decide) (htz _ kf_Mo_45) (fun _ h9 => h9) rfl d_Mo_copy_283 ?_
    refine lv_iload hx hb d_Mo_copy_286 (lv_at hl 1 rfl) ?_
    refine va_iald hx hb hK hP 11 0 rfl rfl (h_288 c_241) d_Mo_copy_288 ?_
    refine va_iast hx hb hK hP hD hS 11 0 rfl rfl (h_289 c_241) d_Mo_copy_289 (fun H locs hP hD hS => ?_)
    replace hP := mg_10 (c := upd (g 10) ((x2 * 10) + x4 : Int32).toNatClampNeg (g 10 ((x1 * 10) + x4 : Int32).toNatClampNeg)) hP
    replace hD := mh_10 (c := upd (g 10) ((x2 * 10) + x4 : Int32).toNatClampNeg (g 10 ((x1 * 10) + x4 : Int32).toNatClampNeg)) hD
    refine lv_aload_n hx hb d_Mo_copy_290 rfl (lv_at hl 2 rfl) ?_
    refine va_get (D := (dC, dI)) (ci := 4) (v := .ref (a 12)) (C := R_Mo) (T := F_Mo) (N := 31) hx hb htz i_Mo hown hK hP 0 rfl rfl 16 (by decide) (htz _ kf_Mo_48) (fun _ h9 => h9) rfl d_Mo_copy_291 ?_
    refine lv_iload hx hb d_Mo_copy_294 (lv_at hl 0 rfl) ?_
    refine lv_aload_n hx hb d_Mo_copy_296 rfl (lv_at hl 2 rfl) ?_
    refine va_get (D := (dC, dI)) (ci := 4) (v := .ref (a 12)) (C := R_Mo) (T := F_Mo) (N := 31) hx hb htz i_Mo hown hK hP 0 rfl rfl 16 (by decide) (htz _ kf_Mo_48) (fun _ h9 => h9) rfl d_Mo_copy_297 ?_
    refine lv_iload hx hb d_Mo_copy_300 (lv_at hl 1 rfl) ?_
    refine va_iald hx hb hK hP 12 0 rfl rfl (h_302 c_241) d_Mo_copy_302 ?_
    refine va_iast hx hb hK hP hD hS 12 0 rfl rfl (h_303 c_241) d_Mo_copy_303 (fun H locs hP hD hS => ?_)
    replace hP := mg_11 (c := upd (g 11) ((x2 * 10) + x4 : Int32).toNatClampNeg (g 11 ((x1 * 10) + x4 : Int32).toNatClampNeg)) hP
    replace hD := mh_11 (c := upd (g 11) ((x2 * 10) + x4 : Int32).toNatClampNeg (g 11 ((x1 * 10) + x4 : Int32).toNatClampNeg)) hD
    refine lv_iconst (v := 0) hx hb d_Mo_copy_304 (by decide) ?_
    refine lv_istore (lv' := [(7, .int 0), (6, .int ((x2 * 10) + x4)), (5, .int ((x1 * 10) + x4)), (0, .ref (a 0)), (1, .int x1), (2, .int x2), (3, .int x3), (4, .int x4)]) hx hb d_Mo_copy_305 hl (by decide) rfl (fun ls hl => ?_)
    exact (k_307 c_241) H locs ls (lv_sub hl [3, 4, 5, 6, 7, 2, 1, 0] rfl) hP hD hS
set_option maxHeartbeats 1000000 in
set_option maxRecDepth 100000 in
theorem k_Mo_copy_307 {C : CT} (X : cM C "QuestionTextModel" b_Mo_copy 8 none) (Post : FT → GT → Prop) (x1 : Int32) (x2 : Int32) (x3 : Int32) (x4 : Int32) (x5 : Int32) (x6 : Int32) (x7 : Int32) (f : FT) (g : GT)
    (k_237 : (x3 ≤ x7) → zn_copy C Post 237 [(0, .ref (ad C.1 0)), (1, .int x1), (2, .int x2), (3, .int x3), (4, .int (x4 + 1))] [] f g)
    (h_335 : (¬ x3 ≤ x7) → vp_in ((x5 * x3) + x7) 8400)
    (h_336 : (¬ x3 ≤ x7) → vp_in ((x6 * x3) + x7) 8400)
    (k_307 : (¬ x3 ≤ x7) → zn_copy C Post 307 [(0, .ref (ad C.1 0)), (1, .int x1), (2, .int x2), (3, .int x3), (4, .int x4), (5, .int x5), (6, .int x6), (7, .int (x7 + 1))] [] f (va_up g 12 (upd (g 12) ((x6 * x3) + x7 : Int32).toNatClampNeg (g 12 ((x5 * x3) + x7 : Int32).toNatClampNeg)))) : zn_copy C Post 307 [(0, .ref (ad C.1 0)), (1, .int x1), (2, .int x2), (3, .int x3), (4, .int x4), (5, .int x5), (6, .int x6), (7, .int x7)] [] f g := by
  obtain ⟨⟨l, dC, dI, k, a⟩, p, e, s, m, args, below, meth, c, A⟩ := C
  obtain ⟨hx, hb, hr, htz, hown, hlocks, hml, hE, hK, hA⟩ := X
  intro H locs ls hl hP hD hS
  have hl : lv_has ls 8 [(0, .ref (a 0)), (1, .int x1), (2, .int x2), (3, .int x3), (4, .int x4), (5, .int x5), (6, .int x6), (7, .int x7)] := hl
  have hP : va_P (dC, dI) classes (mw k a f g) H := hP
  have hD : va_D A (mw k a f g) := hD
  show W p l e (z_rm 0 0 0) s m args below meth c H locs 0 0 _ (F0 m 307 ls [])
  refine lv_iload hx hb d_Mo_copy_307 (lv_at hl 7 rfl) ?_
  refine lv_iload_n hx hb d_Mo_copy_309 rfl (lv_at hl 3 rfl) ?_
  refine lv_icmp_ge (tgt := 343) hx hb d_Mo_copy_310 (by decide) (fun c_310 => ?_) (fun c_310 => ?_)
  · refine lv_iinc (v := x4 + 1) (lv' := [(4, .int (x4 + 1)), (0, .ref (a 0)), (1, .int x1), (2, .int x2), (3, .int x3), (5, .int x5), (6, .int x6), (7, .int x7)]) hx hb d_Mo_copy_343 hl (k := 4) rfl (rfl) (by decide) rfl (fun ls hl => ?_)
    refine lv_goto (tgt := 237) hx hb d_Mo_copy_346 (by decide) ?_
    exact (k_237 c_310) H locs ls (lv_sub hl [1, 2, 3, 4, 0] rfl) hP hD hS
  · refine lv_aload_n hx hb d_Mo_copy_313 rfl (lv_at hl 0 rfl) ?_
    refine va_get (D := (dC, dI)) (ci := 4) (v := .ref (a 13)) (C := R_Mo) (T := F_Mo) (N := 31) hx hb htz i_Mo hown hK hP 0 rfl rfl 17 (by decide) (htz _ kf_Mo_51) (fun _ h9 => h9) rfl d_Mo_copy_314 ?_
    refine lv_iload hx hb d_Mo_copy_317 (lv_at hl 6 rfl) ?_
    refine lv_iload_n hx hb d_Mo_copy_319 rfl (lv_at hl 3 rfl) ?_
    refine lv_imul hx hb d_Mo_copy_320 ?_
    refine lv_iload hx hb d_Mo_copy_321 (lv_at hl 7 rfl) ?_
    refine lv_iadd hx hb d_Mo_copy_323 ?_
    refine lv_aload_n hx hb d_Mo_copy_324 rfl (lv_at hl 0 rfl) ?_
    refine va_get (D := (dC, dI)) (ci := 4) (v := .ref (a 13)) (C := R_Mo) (T := F_Mo) (N := 31) hx hb htz i_Mo hown hK hP 0 rfl rfl 17 (by decide) (htz _ kf_Mo_51) (fun _ h9 => h9) rfl d_Mo_copy_325 ?_
    refine lv_iload hx hb d_Mo_copy_328 (lv_at hl 5 rfl) ?_
    refine lv_iload_n hx hb d_Mo_copy_330 rfl (lv_at hl 3 rfl) ?_
    refine lv_imul hx hb d_Mo_copy_331 ?_
    refine lv_iload hx hb d_Mo_copy_332 (lv_at hl 7 rfl) ?_
    refine lv_iadd hx hb d_Mo_copy_334 ?_
    refine va_iald hx hb hK hP 13 0 rfl rfl (h_335 c_310) d_Mo_copy_335 ?_
    refine va_iast hx hb hK hP hD hS 13 0 rfl rfl (h_336 c_310) d_Mo_copy_336 (fun H locs hP hD hS => ?_)
    replace hP := mg_12 (c := upd (g 12) ((x6 * x3) + x7 : Int32).toNatClampNeg (g 12 ((x5 * x3) + x7 : Int32).toNatClampNeg)) hP
    replace hD := mh_12 (c := upd (g 12) ((x6 * x3) + x7 : Int32).toNatClampNeg (g 12 ((x5 * x3) + x7 : Int32).toNatClampNeg)) hD
    refine lv_iinc (v := x7 + 1) (lv' := [(7, .int (x7 + 1)), (0, .ref (a 0)), (1, .int x1), (2, .int x2), (3, .int x3), (4, .int x4), (5, .int x5), (6, .int x6)]) hx hb d_Mo_copy_337 hl (k := 7) rfl (rfl) (by decide) rfl (fun ls hl => ?_)
    refine lv_goto (tgt := 307) hx hb d_Mo_copy_340 (by decide) ?_
    exact (k_307 c_310) H locs ls (lv_sub hl [1, 2, 3, 4, 5, 6, 7, 0] rfl) hP hD hS
set_option maxHeartbeats 1000000 in
set_option maxRecDepth 100000 in
theorem e_Mo_copy (T : ST) (Post : FT → GT → Prop) (x1 : Int32) (x2 : Int32) (f : FT) (g : GT) (h : ∀ C : CT, C.1 = T → cM C "QuestionTextModel" b_Mo_copy 8 none → zn_copy C Post 0 [(0, .ref (ad C.1 0)), (1, .int x1), (2, .int x2)] [] f g) : mV T y_Mo_copy (Cond.code y_Mo_copy b_Mo_copy 8 none) 0 [.ref (ad T 0), .int x1, .int x2] f g Post := by
  obtain ⟨l, dC, dI, k, a⟩ := T
  intro sz
  refine Met.ofW (cc := b_Mo_copy) (maxL := 8) (ret := none) (by decide) rfl ?_
  intro p e s m args below meth c s₁ B hml hv
  obtain ⟨rfl, hsz, hE, hP, hK, hD0⟩ := hv
  have hts := atoms_spec (ws := (Cond.code y_Mo_copy b_Mo_copy 8 none) :: z_T) B.pre
  have htz : ∀ w ∈ z_T, w.before _ s = true := fun w h => hts w (z_cons w h)
  subst hsz
  have hD := hD0.self (sz := s.heap.size)
  generalize hAe : va_A (mw k a f g) s.heap.size = A at hD hE ⊢
  have hA : ∀ q : Nat, s.heap.size ≤ q → A q := fun q h => by rw [← hAe]; exact Or.inr h
  have hl := lv_entry ([.ref (a 0), .int x1, .int x2]) (n := 8) (Nat.le_of_ble_eq_true rfl)
  rw [lg_entry_eq]
  generalize (lg_sl ([.ref (a 0), .int x1, .int x2]) ++ List.replicate (8 - (lg_sl ([.ref (a 0), .int x1, .int x2])).length) Slot.unset).toArray = ls at hl ⊢
  exact h ((l, dC, dI, k, a), p, e, s, m, ([.ref (a 0), .int x1, .int x2] : List Value).toArray, below, meth, c, A) rfl ⟨B.exec, B.bytes, B.returns, htz, findClass_of_methodNamed B.named, B.notSynchronized, hml, hE, hK, hA⟩ s.heap [] ls hl hP hD va_S.rf
def zn_read (C : CT) (Post : Int32 → FT → GT → Prop) (pc : Nat) (loc : List (Nat × Value)) (st : List Value) (f : FT) (g : GT) : Prop := zW C (z_rm 6 0 0) 2 (qI C Post) 0 0 pc loc st (mM C.1 f g)
set_option maxHeartbeats 1000000 in
set_option maxRecDepth 100000 in
theorem k_Mo_read_0 {C : CT} (X : cM C "QuestionTextModel" b_Mo_read 2 (some .int)) (Post : Int32 → FT → GT → Prop) {P_29 : FT → GT → Prop} (f : FT) (g : GT)
    (m_29 : mV C.1 y_Mo_copy (Cond.code y_Mo_copy b_Mo_copy 8 none) 0 [.ref (ad C.1 0), .int (f 4), .int ((f 3) + 1)] (va_up (va_up (va_up f 5 0) 6 (-1)) 8 ((f 3) + 1)) g P_29)
    (k_29 : ∀ (f1 : FT) (g1 : GT), P_29 f1 g1 → zn_read C Post 32 [(0, .ref (ad C.1 0))] [] f1 g1) : zn_read C Post 0 [(0, .ref (ad C.1 0))] [] f g := by
  obtain ⟨⟨l, dC, dI, k, a⟩, p, e, s, m, args, below, meth, c, A⟩ := C
  obtain ⟨hx, hb, hr, htz, hown, hlocks, hml, hE, hK, hA⟩ := X
  intro H locs ls hl hP hD hS
  have hl : lv_has ls 2 [(0, .ref (a 0))] := hl
  have hP : va_P (dC, dI) classes (mw k a f g) H := hP
  have hD : va_D A (mw k a f g) := hD
  show W p l e (z_rm 6 0 0) s m args below meth c H locs 0 0 _ (F0 m 0 ls [])
  refine lv_aload_n hx hb d_Mo_read_0 rfl (lv_at hl 0 rfl) ?_
  refine lv_iconst (v := 0) hx hb d_Mo_read_1 (by decide) ?_
  refine va_put (D := (dC, dI)) (ci := 4) (v := .int 0) (ty := .int) (C := R_Mo) (T := F_Mo) (N := 31) hx hb htz i_Mo t_Mo o_Mo n_Mo hown hK hP hD hS 0 rfl rfl 18 (by decide) (htz _ kf_Mo_79) (fun _ h9 => h9) rfl (by decide +kernel) rfl rfl (Nat.le_of_ble_eq_true rfl) d_Mo_read_2 (fun H locs hP hD hS => ?_)
  replace hP := mf_5 (v := 0) hP
  replace hD := md_5 (v := 0) hD
  refine lv_aload_n hx hb d_Mo_read_5 rfl (lv_at hl 0 rfl) ?_
  refine lv_iconst (v := -1) hx hb d_Mo_read_6 (by decide) ?_
  refine va_put (D := (dC, dI)) (ci := 4) (v := .int (-1)) (ty := .int) (C := R_Mo) (T := F_Mo) (N := 31) hx hb htz i_Mo t_Mo o_Mo n_Mo hown hK hP hD hS 0 rfl rfl 19 (by decide) (htz _ kf_Mo_86) (fun _ h9 => h9) rfl (by decide +kernel) rfl rfl (Nat.le_of_ble_eq_true rfl) d_Mo_read_7 (fun H locs hP hD hS => ?_)
  replace hP := mf_6 (v := (-1)) hP
  replace hD := md_6 (v := (-1)) hD
  refine lv_aload_n hx hb d_Mo_read_10 rfl (lv_at hl 0 rfl) ?_
  refine lv_aload_n hx hb d_Mo_read_11 rfl (lv_at hl 0 rfl) ?_
  refine va_get (D := (dC, dI)) (ci := 4) (v := .int (f 3)) (C := R_Mo) (T := F_Mo) (N := 31) hx hb htz i_Mo hown hK hP 0 rfl rfl 4 (by decide) (htz _ kf_Mo_129) (fun _ h9 => h9) rfl d_Mo_read_12 ?_
  refine lv_iconst (v := 1) hx hb d_Mo_read_15 (by decide) ?_
  refine lv_iadd hx hb d_Mo_read_16 ?_
  refine va_put (D := (dC, dI)) (ci := 4) (v := .int ((f 3) + 1)) (ty := .int) (C := R_Mo) (T := F_Mo) (N := 31) hx hb htz i_Mo t_Mo o_Mo n_Mo hown hK hP hD hS 0 rfl rfl 21 (by decide) (htz _ kf_Mo_106) (fun _ h9 => h9) rfl (by decide +kernel) rfl rfl (Nat.le_of_ble_eq_true rfl) d_Mo_read_17 (fun H locs hP hD hS => ?_)
  replace hP := mf_8 (v := (f 3) + 1) hP
  replace hD := md_8 (v := (f 3) + 1) hD
  refine lv_aload_n hx hb d_Mo_read_20 rfl (lv_at hl 0 rfl) ?_
  refine lv_aload_n hx hb d_Mo_read_21 rfl (lv_at hl 0 rfl) ?_
  refine va_get (D := (dC, dI)) (ci := 4) (v := .int (f 4)) (C := R_Mo) (T := F_Mo) (N := 31) hx hb htz i_Mo hown hK hP 0 rfl rfl 5 (by decide) (htz _ kf_Mo_126) (fun _ h9 => h9) rfl d_Mo_read_22 ?_
  refine lv_aload_n hx hb d_Mo_read_25 rfl (lv_at hl 0 rfl) ?_
  refine va_get (D := (dC, dI)) (ci := 4) (v := .int ((f 3) + 1)) (C := R_Mo) (T := F_Mo) (N := 31) hx hb htz i_Mo hown hK hP 0 rfl rfl 21 (by decide) (htz _ kf_Mo_106) (fun _ h9 => h9) rfl d_Mo_read_26 ?_
  have hFc := va_free (wc := mw k a (va_up (va_up (va_up f 5 0) 6 (-1)) 8 ((f 3) + 1)) g) hD hS hA [0, 1, 2, 3, 4, 5, 6, 7, 8, 9, 10, 11, 12, 13, 14, 15, 16, 17, 18] rfl
  refine va_callv (va_runV (As := [.int (f 4), .int ((f 3) + 1)]) (rest := []) ⟨hx, hb, hml, hown, htz⟩ (m_29 H.size) (cwV 2 htz (z_gV (fun _ h => h) km_Mo_132 in_Mo_copy se_Mo_copy ini_Mo m_Mo_copy) rfl rfl rfl (by decide +kernel) ⟨(Nat.le_of_ble_eq_true rfl), (Nat.le_of_ble_eq_true rfl)⟩) ⟨z_blind, va_recv hK hP (ci := 4) (q0 := 0) rfl rfl, fun U hU hW => ⟨rfl, by rw [hU], hE.call hS hFc hU hW, by rw [hU]; exact hP, va_K.moved hW.alike hK, hD.weaken (fun _ _ _ _ => trivial)⟩⟩ rfl rfl hl.1 rfl (lv_room (Nat.le_of_ble_eq_true rfl)) d_Mo_read_29 ⟨(Nat.le_of_ble_eq_true rfl), (Nat.le_of_ble_eq_true rfl)⟩) hS (fun q _ h => hFc q h) hFc (fun u t H1 locs ht hvm hw hB hz1 hk1 hS => ?_)
  obtain ⟨hP1, hK1, hD1⟩ := hB
  rw [ht] at hP1
  exact k_29 _ _ hw H1 locs ls (lv_sub hl [0] rfl) hP1 (hD1.weaken (fun _ q _ h => hFc _ h)) hS
set_option maxHeartbeats 1000000 in
set_option maxRecDepth 100000 in
theorem k_Mo_read_32 {C : CT} (X : cM C "QuestionTextModel" b_Mo_read 2 (some .int)) (Post : Int32 → FT → GT → Prop) (f : FT) (g : GT)
    (k_34 : zn_read C Post 34 [(0, .ref (ad C.1 0)), (1, .int 0)] [] f g) : zn_read C Post 32 [(0, .ref (ad C.1 0))] [] f g := by
  obtain ⟨⟨l, dC, dI, k, a⟩, p, e, s, m, args, below, meth, c, A⟩ := C
  obtain ⟨hx, hb, hr, htz, hown, hlocks, hml, hE, hK, hA⟩ := X
  intro H locs ls hl hP hD hS
  have hl : lv_has ls 2 [(0, .ref (a 0))] := hl
  have hP : va_P (dC, dI) classes (mw k a f g) H := hP
  have hD : va_D A (mw k a f g) := hD
  show W p l e (z_rm 6 0 0) s m args below meth c H locs 0 0 _ (F0 m 32 ls [])
  refine lv_iconst (v := 0) hx hb d_Mo_read_32 (by decide) ?_
  refine lv_istore_n (lv' := [(1, .int 0), (0, .ref (a 0))]) hx hb d_Mo_read_33 rfl hl (by decide) rfl (fun ls hl => ?_)
  exact k_34 H locs ls (lv_sub hl [1, 0] rfl) hP hD hS
set_option maxHeartbeats 1000000 in
set_option maxRecDepth 100000 in
theorem k_Mo_read_34 {C : CT} (X : cM C "QuestionTextModel" b_Mo_read 2 (some .int)) (Post : Int32 → FT → GT → Prop) (x1 : Int32) (f : FT) (g : GT)
    (k_55 : (61 ≤ x1) → zn_read C Post 55 [(0, .ref (ad C.1 0)), (1, .int 0)] [] f g)
    (h_46 : (¬ 61 ≤ x1) → vp_in (x1) 61)
    (k_34 : (¬ 61 ≤ x1) → zn_read C Post 34 [(0, .ref (ad C.1 0)), (1, .int (x1 + 1))] [] f (va_up g 13 (upd (g 13) (x1 : Int32).toNatClampNeg (vp_nar .boolean 0)))) : zn_read C Post 34 [(0, .ref (ad C.1 0)), (1, .int x1)] [] f g := by
  obtain ⟨⟨l, dC, dI, k, a⟩, p, e, s, m, args, below, meth, c, A⟩ := C
  obtain ⟨hx, hb, hr, htz, hown, hlocks, hml, hE, hK, hA⟩ := X
  intro H locs ls hl hP hD hS
  have hl : lv_has ls 2 [(0, .ref (a 0)), (1, .int x1)] := hl
  have hP : va_P (dC, dI) classes (mw k a f g) H := hP
  have hD : va_D A (mw k a f g) := hD
  show W p l e (z_rm 6 0 0) s m args below meth c H locs 0 0 _ (F0 m 34 ls [])
  refine lv_iload_n hx hb d_Mo_read_34 rfl (lv_at hl 1 rfl) ?_
  refine lv_bipush (v := 61) hx hb d_Mo_read_35 (by decide) ?_
  refine lv_icmp_ge (tgt := 53) hx hb d_Mo_read_37 (by decide) (fun c_37 => ?_) (fun c_37 => ?_)
  · refine lv_iconst (v := 0) hx hb d_Mo_read_53 (by decide) ?_
    refine lv_istore_n (lv' := [(1, .int 0), (0, .ref (a 0))]) hx hb d_Mo_read_54 rfl hl (by decide) rfl (fun ls hl => ?_)
    exact (k_55 c_37) H locs ls (lv_sub hl [1, 0] rfl) hP hD hS
  · refine lv_aload_n hx hb d_Mo_read_40 rfl (lv_at hl 0 rfl) ?_
    refine va_get (D := (dC, dI)) (ci := 4) (v := .ref (a 14)) (C := R_Mo) (T := F_Mo) (N := 31) hx hb htz i_Mo hown hK hP 0 rfl rfl 22 (by decide) (htz _ kf_Mo_54) (fun _ h9 => h9) rfl d_Mo_read_41 ?_
    refine lv_iload_n hx hb d_Mo_read_44 rfl (lv_at hl 1 rfl) ?_
    refine lv_iconst (v := 0) hx hb d_Mo_read_45 (by decide) ?_
    refine va_zast hx hb hK hP hD hS 14 2 rfl rfl (h_46 c_37) d_Mo_read_46 (fun H locs hP hD hS => ?_)
    replace hP := mg_13 (c := upd (g 13) (x1 : Int32).toNatClampNeg (vp_nar .boolean 0)) hP
    replace hD := mh_13 (c := upd (g 13) (x1 : Int32).toNatClampNeg (vp_nar .boolean 0)) hD
    refine lv_iinc (v := x1 + 1) (lv' := [(1, .int (x1 + 1)), (0, .ref (a 0))]) hx hb d_Mo_read_47 hl (k := 1) rfl (rfl) (by decide) rfl (fun ls hl => ?_)
    refine lv_goto (tgt := 34) hx hb d_Mo_read_50 (by decide) ?_
    exact (k_34 c_37) H locs ls (lv_sub hl [1, 0] rfl) hP hD hS
set_option maxHeartbeats 1000000 in
set_option maxRecDepth 100000 in
theorem k_Mo_read_55 {C : CT} (X : cM C "QuestionTextModel" b_Mo_read 2 (some .int)) (Post : Int32 → FT → GT → Prop) (x1 : Int32) (f : FT) (g : GT)
    (k_74 : (10 ≤ x1) → zn_read C Post 74 [(0, .ref (ad C.1 0)), (1, .int x1)] [] f g)
    (h_67 : (¬ 10 ≤ x1) → vp_in (x1) 10)
    (k_55 : (¬ 10 ≤ x1) → zn_read C Post 55 [(0, .ref (ad C.1 0)), (1, .int (x1 + 1))] [] f (va_up g 14 (upd (g 14) (x1 : Int32).toNatClampNeg (vp_nar .boolean 0)))) : zn_read C Post 55 [(0, .ref (ad C.1 0)), (1, .int x1)] [] f g := by
  obtain ⟨⟨l, dC, dI, k, a⟩, p, e, s, m, args, below, meth, c, A⟩ := C
  obtain ⟨hx, hb, hr, htz, hown, hlocks, hml, hE, hK, hA⟩ := X
  intro H locs ls hl hP hD hS
  have hl : lv_has ls 2 [(0, .ref (a 0)), (1, .int x1)] := hl
  have hP : va_P (dC, dI) classes (mw k a f g) H := hP
  have hD : va_D A (mw k a f g) := hD
  show W p l e (z_rm 6 0 0) s m args below meth c H locs 0 0 _ (F0 m 55 ls [])
  refine lv_iload_n hx hb d_Mo_read_55 rfl (lv_at hl 1 rfl) ?_
  refine lv_bipush (v := 10) hx hb d_Mo_read_56 (by decide) ?_
  refine lv_icmp_ge (tgt := 74) hx hb d_Mo_read_58 (by decide) (fun c_58 => ?_) (fun c_58 => ?_)
  · exact (k_74 c_58) H locs ls (lv_sub hl [0, 1] rfl) hP hD hS
  · refine lv_aload_n hx hb d_Mo_read_61 rfl (lv_at hl 0 rfl) ?_
    refine va_get (D := (dC, dI)) (ci := 4) (v := .ref (a 15)) (C := R_Mo) (T := F_Mo) (N := 31) hx hb htz i_Mo hown hK hP 0 rfl rfl 23 (by decide) (htz _ kf_Mo_57) (fun _ h9 => h9) rfl d_Mo_read_62 ?_
    refine lv_iload_n hx hb d_Mo_read_65 rfl (lv_at hl 1 rfl) ?_
    refine lv_iconst (v := 0) hx hb d_Mo_read_66 (by decide) ?_
    refine va_zast hx hb hK hP hD hS 15 2 rfl rfl (h_67 c_58) d_Mo_read_67 (fun H locs hP hD hS => ?_)
    replace hP := mg_14 (c := upd (g 14) (x1 : Int32).toNatClampNeg (vp_nar .boolean 0)) hP
    replace hD := mh_14 (c := upd (g 14) (x1 : Int32).toNatClampNeg (vp_nar .boolean 0)) hD
    refine lv_iinc (v := x1 + 1) (lv' := [(1, .int (x1 + 1)), (0, .ref (a 0))]) hx hb d_Mo_read_68 hl (k := 1) rfl (rfl) (by decide) rfl (fun ls hl => ?_)
    refine lv_goto (tgt := 55) hx hb d_Mo_read_71 (by decide) ?_
    exact (k_55 c_58) H locs ls (lv_sub hl [1, 0] rfl) hP hD hS
set_option maxHeartbeats 1000000 in
set_option maxRecDepth 100000 in
theorem k_Mo_read_74 {C : CT} (X : cM C "QuestionTextModel" b_Mo_read 2 (some .int)) (Post : Int32 → FT → GT → Prop) {P_82 : Int32 → FT → GT → Prop} (x1 : Int32) (f : FT) (g : GT)
    (k_157 : (0 ≤ f 6) → zn_read C Post 157 [(0, .ref (ad C.1 0)), (1, .int x1)] [] f g)
    (m_82 : (¬ 0 ≤ f 6) → mI C.1 y_Mo_see (Cond.code y_Mo_see b_Mo_see 1 (some .int)) 1 [.ref (ad C.1 0)] f g P_82)
    (k_82 : (¬ 0 ≤ f 6) → ∀ (r : Int32) (f1 : FT) (g1 : GT), P_82 r f1 g1 → zn_read C Post 85 [(0, .ref (ad C.1 0)), (1, .int x1)] [.int r] f1 g1) : zn_read C Post 74 [(0, .ref (ad C.1 0)), (1, .int x1)] [] f g := by
  obtain ⟨⟨l, dC, dI, k, a⟩, p, e, s, m, args, below, meth, c, A⟩ := C
  obtain ⟨hx, hb, hr, htz, hown, hlocks, hml, hE, hK, hA⟩ := X
  intro H locs ls hl hP hD hS
  have hl : lv_has ls 2 [(0, .ref (a 0)), (1, .int x1)] := hl
  have hP : va_P (dC, dI) classes (mw k a f g) H := hP
  have hD : va_D A (mw k a f g) := hD
  show W p l e (z_rm 6 0 0) s m args below meth c H locs 0 0 _ (F0 m 74 ls [])
  refine lv_aload_n hx hb d_Mo_read_74 rfl (lv_at hl 0 rfl) ?_
  refine va_get (D := (dC, dI)) (ci := 4) (v := .int (f 6)) (C := R_Mo) (T := F_Mo) (N := 31) hx hb htz i_Mo hown hK hP 0 rfl rfl 19 (by decide) (htz _ kf_Mo_86) (fun _ h9 => h9) rfl d_Mo_read_75 ?_
  refine lv_if_ge (tgt := 157) hx hb d_Mo_read_78 (by decide) (fun c_78 => ?_) (fun c_78 => ?_)
  · exact (k_157 c_78) H locs ls (lv_sub hl [0, 1] rfl) hP hD hS
  · refine lv_aload_n hx hb d_Mo_read_81 rfl (lv_at hl 0 rfl) ?_
    have hFc := va_free (wc := mw k a f g) hD hS hA [0, 1, 2, 3, 4, 5, 6, 7, 8, 9, 10, 11, 12, 13, 14, 15, 16, 17, 18] rfl
    refine va_calli (va_runV (As := []) (rest := []) ⟨hx, hb, hml, hown, htz⟩ ((m_82 c_78) H.size) (cwV 0 htz (z_gV (fun _ h => h) km_Mo_89 in_Mo_see se_Mo_see ini_Mo m_Mo_see) rfl rfl rfl (by decide +kernel) ⟨(Nat.le_of_ble_eq_true rfl), (Nat.le_of_ble_eq_true rfl)⟩) ⟨z_blind, va_recv hK hP (ci := 4) (q0 := 0) rfl rfl, fun U hU hW => ⟨rfl, by rw [hU], hE.call hS hFc hU hW, by rw [hU]; exact hP, va_K.moved hW.alike hK, hD.weaken (fun _ _ _ _ => trivial)⟩⟩ rfl rfl hl.1 rfl (lv_room (Nat.le_of_ble_eq_true rfl)) d_Mo_read_82 ⟨(Nat.le_of_ble_eq_true rfl), (Nat.le_of_ble_eq_true rfl)⟩) hS (fun q _ h => hFc q h) hFc (fun r u t H1 locs ht hvm hw hB hz1 hk1 hS => ?_)
    obtain ⟨hP1, hK1, hD1⟩ := hB
    rw [ht] at hP1
    exact (k_82 c_78) r _ _ hw H1 locs ls (lv_sub hl [0, 1] rfl) hP1 (hD1.weaken (fun _ q _ h => hFc _ h)) hS
set_option maxHeartbeats 1000000 in
set_option maxRecDepth 100000 in
theorem k_Mo_read_85 {C : CT} (X : cM C "QuestionTextModel" b_Mo_read 2 (some .int)) (Post : Int32 → FT → GT → Prop) {P_89 : Int32 → FT → GT → Prop} (x1 : Int32) (y0 : Int32) (f : FT) (g : GT)
    (k_157 : (y0 < 0) → zn_read C Post 157 [(0, .ref (ad C.1 0)), (1, .int x1)] [] f g)
    (m_89 : (¬ y0 < 0) → mI C.1 y_Mo_here (Cond.code y_Mo_here b_Mo_here 1 (some .int)) 0 [.ref (ad C.1 0)] f g P_89)
    (k_89 : (¬ y0 < 0) → ∀ (r : Int32) (f1 : FT) (g1 : GT), P_89 r f1 g1 → zn_read C Post 92 [(0, .ref (ad C.1 0)), (1, .int x1)] [.int r] f1 g1) : zn_read C Post 85 [(0, .ref (ad C.1 0)), (1, .int x1)] [.int y0] f g := by
  obtain ⟨⟨l, dC, dI, k, a⟩, p, e, s, m, args, below, meth, c, A⟩ := C
  obtain ⟨hx, hb, hr, htz, hown, hlocks, hml, hE, hK, hA⟩ := X
  intro H locs ls hl hP hD hS
  have hl : lv_has ls 2 [(0, .ref (a 0)), (1, .int x1)] := hl
  have hP : va_P (dC, dI) classes (mw k a f g) H := hP
  have hD : va_D A (mw k a f g) := hD
  show W p l e (z_rm 6 0 0) s m args below meth c H locs 0 0 _ (F0 m 85 ls [.int y0])
  refine lv_if_lt (tgt := 157) hx hb d_Mo_read_85 (by decide) (fun c_85 => ?_) (fun c_85 => ?_)
  · exact (k_157 c_85) H locs ls (lv_sub hl [0, 1] rfl) hP hD hS
  · refine lv_aload_n hx hb d_Mo_read_88 rfl (lv_at hl 0 rfl) ?_
    have hFc := va_free (wc := mw k a f g) hD hS hA [0, 1, 2, 3, 4, 5, 6, 7, 8, 9, 10, 11, 12, 13, 14, 15, 16, 17, 18] rfl
    refine va_calli (va_runV (As := []) (rest := []) ⟨hx, hb, hml, hown, htz⟩ ((m_89 c_85) H.size) (cwV 0 htz (z_gV (fun _ h => h) km_Mo_82 in_Mo_here se_Mo_here ini_Mo m_Mo_here) rfl rfl rfl (by decide +kernel) ⟨(Nat.le_of_ble_eq_true rfl), (Nat.le_of_ble_eq_true rfl)⟩) ⟨z_blind, va_recv hK hP (ci := 4) (q0 := 0) rfl rfl, fun U hU hW => ⟨rfl, by rw [hU], hE.call hS hFc hU hW, by rw [hU]; exact hP, va_K.moved hW.alike hK, hD.weaken (fun _ _ _ _ => trivial)⟩⟩ rfl rfl hl.1 rfl (lv_room (Nat.le_of_ble_eq_true rfl)) d_Mo_read_89 ⟨(Nat.le_of_ble_eq_true rfl), (Nat.le_of_ble_eq_true rfl)⟩) hS (fun q _ h => hFc q h) hFc (fun r u t H1 locs ht hvm hw hB hz1 hk1 hS => ?_)
    obtain ⟨hP1, hK1, hD1⟩ := hB
    rw [ht] at hP1
    exact (k_89 c_85) r _ _ hw H1 locs ls (lv_sub hl [0, 1] rfl) hP1 (hD1.weaken (fun _ q _ h => hFc _ h)) hS
set_option maxHeartbeats 1000000 in
set_option maxRecDepth 100000 in
theorem k_Mo_read_92 {C : CT} (X : cM C "QuestionTextModel" b_Mo_read 2 (some .int)) (Post : Int32 → FT → GT → Prop) {P_110 : FT → GT → Prop} (x1 : Int32) (y0 : Int32) (f : FT) (g : GT)
    (k_113 : (y0 = 113) → zn_read C Post 113 [(0, .ref (ad C.1 0)), (1, .int y0)] [] f g)
    (k_113_1 : (¬ y0 = 113) → (y0 = 107) → zn_read C Post 113 [(0, .ref (ad C.1 0)), (1, .int y0)] [] f g)
    (m_110 : (¬ y0 = 113) → (¬ y0 = 107) → mV C.1 y_Mo_fail (Cond.code y_Mo_fail b_Mo_fail 2 none) 0 [.ref (ad C.1 0), .int (f 5)] f g P_110)
    (k_110 : (¬ y0 = 113) → (¬ y0 = 107) → ∀ (f1 : FT) (g1 : GT), P_110 f1 g1 → zn_read C Post 113 [(0, .ref (ad C.1 0)), (1, .int y0)] [] f1 g1) : zn_read C Post 92 [(0, .ref (ad C.1 0)), (1, .int x1)] [.int y0] f g := by
  obtain ⟨⟨l, dC, dI, k, a⟩, p, e, s, m, args, below, meth, c, A⟩ := C
  obtain ⟨hx, hb, hr, htz, hown, hlocks, hml, hE, hK, hA⟩ := X
  intro H locs ls hl hP hD hS
  have hl : lv_has ls 2 [(0, .ref (a 0)), (1, .int x1)] := hl
  have hP : va_P (dC, dI) classes (mw k a f g) H := hP
  have hD : va_D A (mw k a f g) := hD
  show W p l e (z_rm 6 0 0) s m args below meth c H locs 0 0 _ (F0 m 92 ls [.int y0])
  refine lv_istore_n (lv' := [(1, .int y0), (0, .ref (a 0))]) hx hb d_Mo_read_92 rfl hl (by decide) rfl (fun ls hl => ?_)
  refine lv_iload_n hx hb d_Mo_read_93 rfl (lv_at hl 0 rfl) ?_
  refine lv_bipush (v := 113) hx hb d_Mo_read_94 (by decide) ?_
  refine lv_icmp_eq (tgt := 113) hx hb d_Mo_read_96 (by decide) (fun c_96 => ?_) (fun c_96 => ?_)
  · exact (k_113 c_96) H locs ls (lv_sub hl [1, 0] rfl) hP hD hS
  · refine lv_iload_n hx hb d_Mo_read_99 rfl (lv_at hl 0 rfl) ?_
    refine lv_bipush (v := 107) hx hb d_Mo_read_100 (by decide) ?_
    refine lv_icmp_eq (tgt := 113) hx hb d_Mo_read_102 (by decide) (fun c_102 => ?_) (fun c_102 => ?_)
    · exact (k_113_1 c_96 c_102) H locs ls (lv_sub hl [1, 0] rfl) hP hD hS
    · refine lv_aload_n hx hb d_Mo_read_105 rfl (lv_at hl 1 rfl) ?_
      refine lv_aload_n hx hb d_Mo_read_106 rfl (lv_at hl 1 rfl) ?_
      refine va_get (D := (dC, dI)) (ci := 4) (v := .int (f 5)) (C := R_Mo) (T := F_Mo) (N := 31) hx hb htz i_Mo hown hK hP 0 rfl rfl 18 (by decide) (htz _ kf_Mo_79) (fun _ h9 => h9) rfl d_Mo_read_107 ?_
      have hFc := va_free (wc := mw k a f g) hD hS hA [0, 1, 2, 3, 4, 5, 6, 7, 8, 9, 10, 11, 12, 13, 14, 15, 16, 17, 18] rfl
      refine va_callv (va_runV (As := [.int (f 5)]) (rest := []) ⟨hx, hb, hml, hown, htz⟩ ((m_110 c_96 c_102) H.size) (cwV 1 htz (z_gV (fun _ h => h) km_Mo_92 in_Mo_fail se_Mo_fail ini_Mo m_Mo_fail) rfl rfl rfl (by decide +kernel) ⟨(Nat.le_of_ble_eq_true rfl), (Nat.le_of_ble_eq_true rfl)⟩) ⟨z_blind, va_recv hK hP (ci := 4) (q0 := 0) rfl rfl, fun U hU hW => ⟨rfl, by rw [hU], hE.call hS hFc hU hW, by rw [hU]; exact hP, va_K.moved hW.alike hK, hD.weaken (fun _ _ _ _ => trivial)⟩⟩ rfl rfl hl.1 rfl (lv_room (Nat.le_of_ble_eq_true rfl)) d_Mo_read_110 ⟨(Nat.le_of_ble_eq_true rfl), (Nat.le_of_ble_eq_true rfl)⟩) hS (fun q _ h => hFc q h) hFc (fun u t H1 locs ht hvm hw hB hz1 hk1 hS => ?_)
      obtain ⟨hP1, hK1, hD1⟩ := hB
      rw [ht] at hP1
      exact (k_110 c_96 c_102) _ _ hw H1 locs ls (lv_sub hl [1, 0] rfl) hP1 (hD1.weaken (fun _ q _ h => hFc _ h)) hS
set_option maxHeartbeats 1000000 in
set_option maxRecDepth 100000 in
theorem k_Mo_read_113 {C : CT} (X : cM C "QuestionTextModel" b_Mo_read 2 (some .int)) (Post : Int32 → FT → GT → Prop) {P_137 : FT → GT → Prop} (x1 : Int32) (f : FT) (g : GT)
    (k_143 : (0 ≤ f 6) → zn_read C Post 143 [(0, .ref (ad C.1 0)), (1, .int x1)] [] (va_up f 5 ((f 5) + 1)) g)
    (k_143_1 : (¬ 0 ≤ f 6) → (¬ x1 = 113) → zn_read C Post 143 [(0, .ref (ad C.1 0)), (1, .int x1)] [] (va_up f 5 ((f 5) + 1)) g)
    (m_137 : (¬ 0 ≤ f 6) → (x1 = 113) → mV C.1 y_Mo_question (Cond.code y_Mo_question b_Mo_question 5 none) 4 [.ref (ad C.1 0)] (va_up f 5 ((f 5) + 1)) g P_137)
    (k_137 : (¬ 0 ≤ f 6) → (x1 = 113) → ∀ (f1 : FT) (g1 : GT), P_137 f1 g1 → zn_read C Post 140 [(0, .ref (ad C.1 0)), (1, .int x1)] [] f1 g1) : zn_read C Post 113 [(0, .ref (ad C.1 0)), (1, .int x1)] [] f g := by
  obtain ⟨⟨l, dC, dI, k, a⟩, p, e, s, m, args, below, meth, c, A⟩ := C
  obtain ⟨hx, hb, hr, htz, hown, hlocks, hml, hE, hK, hA⟩ := X
  intro H locs ls hl hP hD hS
  have hl : lv_has ls 2 [(0, .ref (a 0)), (1, .int x1)] := hl
  have hP : va_P (dC, dI) classes (mw k a f g) H := hP
  have hD : va_D A (mw k a f g) := hD
  show W p l e (z_rm 6 0 0) s m args below meth c H locs 0 0 _ (F0 m 113 ls [])
  refine lv_aload_n hx hb d_Mo_read_113 rfl (lv_at hl 0 rfl) ?_
  refine lv_dup hx hb d_Mo_read_114 rfl ?_
  refine va_get (D := (dC, dI)) (ci := 4) (v := .int (f 5)) (C := R_Mo) (T := F_Mo) (N := 31) hx hb htz i_Mo hown hK hP 0 rfl rfl 18 (by decide) (htz _ kf_Mo_79) (fun _ h9 => h9) rfl d_Mo_read_115 ?_
  refine lv_iconst (v := 1) hx hb d_Mo_read_118 (by decide) ?_
  refine lv_iadd hx hb d_Mo_read_119 ?_
  refine va_put (D := (dC, dI)) (ci := 4) (v := .int ((f 5) + 1)) (ty := .int) (C := R_Mo) (T := F_Mo) (N := 31) hx hb htz i_Mo t_Mo o_Mo n_Mo hown hK hP hD hS 0 rfl rfl 18 (by decide) (htz _ kf_Mo_79) (fun _ h9 => h9) rfl (by decide +kernel) rfl rfl (Nat.le_of_ble_eq_true rfl) d_Mo_read_120 (fun H locs hP hD hS => ?_)
  replace hP := mf_5 (v := (f 5) + 1) hP
  replace hD := md_5 (v := (f 5) + 1) hD
  refine lv_aload_n hx hb d_Mo_read_123 rfl (lv_at hl 0 rfl) ?_
  refine va_get (D := (dC, dI)) (ci := 4) (v := .int (f 6)) (C := R_Mo) (T := F_Mo) (N := 31) hx hb htz i_Mo hown hK hP 0 rfl rfl 19 (by decide) (htz _ kf_Mo_86) (fun _ h9 => h9) rfl d_Mo_read_124 ?_
  refine lv_if_ge (tgt := 143) hx hb d_Mo_read_127 (by decide) (fun c_127 => ?_) (fun c_127 => ?_)
  · exact (k_143 c_127) H locs ls (lv_sub hl [0, 1] rfl) hP hD hS
  · refine lv_iload_n hx hb d_Mo_read_130 rfl (lv_at hl 1 rfl) ?_
    refine lv_bipush (v := 113) hx hb d_Mo_read_131 (by decide) ?_
    refine lv_icmp_ne (tgt := 143) hx hb d_Mo_read_133 (by decide) (fun c_133 => ?_) (fun c_133 => ?_)
    · exact (k_143_1 c_127 c_133) H locs ls (lv_sub hl [0, 1] rfl) hP hD hS
    · refine lv_aload_n hx hb d_Mo_read_136 rfl (lv_at hl 0 rfl) ?_
      have hFc := va_free (wc := mw k a (va_up f 5 ((f 5) + 1)) g) hD hS hA [0, 1, 2, 3, 4, 5, 6, 7, 8, 9, 10, 11, 12, 13, 14, 15, 16, 17, 18] rfl
      refine va_callv (va_runV (As := []) (rest := []) ⟨hx, hb, hml, hown, htz⟩ ((m_137 c_127 c_133) H.size) (cwV 0 htz (z_gV (fun _ h => h) km_Mo_135 in_Mo_question se_Mo_question ini_Mo m_Mo_question) rfl rfl rfl (by decide +kernel) ⟨(Nat.le_of_ble_eq_true rfl), (Nat.le_of_ble_eq_true rfl)⟩) ⟨z_blind, va_recv hK hP (ci := 4) (q0 := 0) rfl rfl, fun U hU hW => ⟨rfl, by rw [hU], hE.call hS hFc hU hW, by rw [hU]; exact hP, va_K.moved hW.alike hK, hD.weaken (fun _ _ _ _ => trivial)⟩⟩ rfl rfl hl.1 rfl (lv_room (Nat.le_of_ble_eq_true rfl)) d_Mo_read_137 ⟨(Nat.le_of_ble_eq_true rfl), (Nat.le_of_ble_eq_true rfl)⟩) hS (fun q _ h => hFc q h) hFc (fun u t H1 locs ht hvm hw hB hz1 hk1 hS => ?_)
      obtain ⟨hP1, hK1, hD1⟩ := hB
      rw [ht] at hP1
      exact (k_137 c_127 c_133) _ _ hw H1 locs ls (lv_sub hl [0, 1] rfl) hP1 (hD1.weaken (fun _ q _ h => hFc _ h)) hS
set_option maxHeartbeats 1000000 in
set_option maxRecDepth 100000 in
theorem k_Mo_read_140 {C : CT} (X : cM C "QuestionTextModel" b_Mo_read 2 (some .int)) (Post : Int32 → FT → GT → Prop) (x1 : Int32) (f : FT) (g : GT)
    (k_154 : zn_read C Post 154 [(0, .ref (ad C.1 0)), (1, .int x1)] [] f g) : zn_read C Post 140 [(0, .ref (ad C.1 0)), (1, .int x1)] [] f g := by
  obtain ⟨⟨l, dC, dI, k, a⟩, p, e, s, m, args, below, meth, c, A⟩ := C
  obtain ⟨hx, hb, hr, htz, hown, hlocks, hml, hE, hK, hA⟩ := X
  intro H locs ls hl hP hD hS
  have hl : lv_has ls 2 [(0, .ref (a 0)), (1, .int x1)] := hl
  have hP : va_P (dC, dI) classes (mw k a f g) H := hP
  have hD : va_D A (mw k a f g) := hD
  show W p l e (z_rm 6 0 0) s m args below meth c H locs 0 0 _ (F0 m 140 ls [])
  refine lv_goto (tgt := 154) hx hb d_Mo_read_140 (by decide) ?_
  exact k_154 H locs ls (lv_sub hl [0, 1] rfl) hP hD hS
set_option maxHeartbeats 1000000 in
set_option maxRecDepth 100000 in
theorem k_Mo_read_143 {C : CT} (X : cM C "QuestionTextModel" b_Mo_read 2 (some .int)) (Post : Int32 → FT → GT → Prop) {P_151 : FT → GT → Prop} (x1 : Int32) (f : FT) (g : GT)
    (k_154 : (0 ≤ f 6) → zn_read C Post 154 [(0, .ref (ad C.1 0)), (1, .int x1)] [] f g)
    (m_151 : (¬ 0 ≤ f 6) → mV C.1 y_Mo_kindRow (Cond.code y_Mo_kindRow b_Mo_kindRow 3 none) 5 [.ref (ad C.1 0)] f g P_151)
    (k_151 : (¬ 0 ≤ f 6) → ∀ (f1 : FT) (g1 : GT), P_151 f1 g1 → zn_read C Post 154 [(0, .ref (ad C.1 0)), (1, .int x1)] [] f1 g1) : zn_read C Post 143 [(0, .ref (ad C.1 0)), (1, .int x1)] [] f g := by
  obtain ⟨⟨l, dC, dI, k, a⟩, p, e, s, m, args, below, meth, c, A⟩ := C
  obtain ⟨hx, hb, hr, htz, hown, hlocks, hml, hE, hK, hA⟩ := X
  intro H locs ls hl hP hD hS
  have hl : lv_has ls 2 [(0, .ref (a 0)), (1, .int x1)] := hl
  have hP : va_P (dC, dI) classes (mw k a f g) H := hP
  have hD : va_D A (mw k a f g) := hD
  show W p l e (z_rm 6 0 0) s m args below meth c H locs 0 0 _ (F0 m 143 ls [])
  refine lv_aload_n hx hb d_Mo_read_143 rfl (lv_at hl 0 rfl) ?_
  refine va_get (D := (dC, dI)) (ci := 4) (v := .int (f 6)) (C := R_Mo) (T := F_Mo) (N := 31) hx hb htz i_Mo hown hK hP 0 rfl rfl 19 (by decide) (htz _ kf_Mo_86) (fun _ h9 => h9) rfl d_Mo_read_144 ?_
  refine lv_if_ge (tgt := 154) hx hb d_Mo_read_147 (by decide) (fun c_147 => ?_) (fun c_147 => ?_)
  · exact (k_154 c_147) H locs ls (lv_sub hl [0, 1] rfl) hP hD hS
  · refine lv_aload_n hx hb d_Mo_read_150 rfl (lv_at hl 0 rfl) ?_
    have hFc := va_free (wc := mw k a f g) hD hS hA [0, 1, 2, 3, 4, 5, 6, 7, 8, 9, 10, 11, 12, 13, 14, 15, 16, 17, 18] rfl
    refine va_callv (va_runV (As := []) (rest := []) ⟨hx, hb, hml, hown, htz⟩ ((m_151 c_147) H.size) (cwV 0 htz (z_gV (fun _ h => h) km_Mo_138 in_Mo_kindRow se_Mo_kindRow ini_Mo m_Mo_kindRow) rfl rfl rfl (by decide +kernel) ⟨(Nat.le_of_ble_eq_true rfl), (Nat.le_of_ble_eq_true rfl)⟩) ⟨z_blind, va_recv hK hP (ci := 4) (q0 := 0) rfl rfl, fun U hU hW => ⟨rfl, by rw [hU], hE.call hS hFc hU hW, by rw [hU]; exact hP, va_K.moved hW.alike hK, hD.weaken (fun _ _ _ _ => trivial)⟩⟩ rfl rfl hl.1 rfl (lv_room (Nat.le_of_ble_eq_true rfl)) d_Mo_read_151 ⟨(Nat.le_of_ble_eq_true rfl), (Nat.le_of_ble_eq_true rfl)⟩) hS (fun q _ h => hFc q h) hFc (fun u t H1 locs ht hvm hw hB hz1 hk1 hS => ?_)
    obtain ⟨hP1, hK1, hD1⟩ := hB
    rw [ht] at hP1
    exact (k_151 c_147) _ _ hw H1 locs ls (lv_sub hl [0, 1] rfl) hP1 (hD1.weaken (fun _ q _ h => hFc _ h)) hS
set_option maxHeartbeats 1000000 in
set_option maxRecDepth 100000 in
theorem k_Mo_read_154 {C : CT} (X : cM C "QuestionTextModel" b_Mo_read 2 (some .int)) (Post : Int32 → FT → GT → Prop) (x1 : Int32) (f : FT) (g : GT)
    (k_74 : zn_read C Post 74 [(0, .ref (ad C.1 0)), (1, .int x1)] [] f g) : zn_read C Post 154 [(0, .ref (ad C.1 0)), (1, .int x1)] [] f g := by
  obtain ⟨⟨l, dC, dI, k, a⟩, p, e, s, m, args, below, meth, c, A⟩ := C
  obtain ⟨hx, hb, hr, htz, hown, hlocks, hml, hE, hK, hA⟩ := X
  intro H locs ls hl hP hD hS
  have hl : lv_has ls 2 [(0, .ref (a 0)), (1, .int x1)] := hl
  have hP : va_P (dC, dI) classes (mw k a f g) H := hP
  have hD : va_D A (mw k a f g) := hD
  show W p l e (z_rm 6 0 0) s m args below meth c H locs 0 0 _ (F0 m 154 ls [])
  refine lv_goto (tgt := 74) hx hb d_Mo_read_154 (by decide) ?_
  exact k_74 H locs ls (lv_sub hl [0, 1] rfl) hP hD hS
set_option maxHeartbeats 1000000 in
set_option maxRecDepth 100000 in
theorem k_Mo_read_157 {C : CT} (X : cM C "QuestionTextModel" b_Mo_read 2 (some .int)) (Post : Int32 → FT → GT → Prop) (x1 : Int32) (f : FT) (g : GT)
    (k_201 : (f 6 < 0) → (¬ f 3 = 8) → zn_read C Post 201 [(0, .ref (ad C.1 0)), (1, .int x1)] [.int 0, .ref (ad C.1 0)] (va_up (va_up (va_up f 1 0) 2 (f 6)) 9 0) g)
    (k_201_1 : (f 6 < 0) → (f 3 = 8) → zn_read C Post 201 [(0, .ref (ad C.1 0)), (1, .int x1)] [.int 2, .ref (ad C.1 0)] (va_up (va_up (va_up f 1 0) 2 (f 6)) 9 0) g)
    (k_201_2 : (¬ f 6 < 0) → zn_read C Post 201 [(0, .ref (ad C.1 0)), (1, .int x1)] [.int 1, .ref (ad C.1 0)] (va_up (va_up (va_up f 1 0) 2 (f 6)) 9 0) g) : zn_read C Post 157 [(0, .ref (ad C.1 0)), (1, .int x1)] [] f g := by
  obtain ⟨⟨l, dC, dI, k, a⟩, p, e, s, m, args, below, meth, c, A⟩ := C
  obtain ⟨hx, hb, hr, htz, hown, hlocks, hml, hE, hK, hA⟩ := X
  intro H locs ls hl hP hD hS
  have hl : lv_has ls 2 [(0, .ref (a 0)), (1, .int x1)] := hl
  have hP : va_P (dC, dI) classes (mw k a f g) H := hP
  have hD : va_D A (mw k a f g) := hD
  show W p l e (z_rm 6 0 0) s m args below meth c H locs 0 0 _ (F0 m 157 ls [])
  refine lv_aload_n hx hb d_Mo_read_157 rfl (lv_at hl 0 rfl) ?_
  refine lv_iconst (v := 0) hx hb d_Mo_read_158 (by decide) ?_
  refine va_put (D := (dC, dI)) (ci := 4) (v := .int 0) (ty := .int) (C := R_Mo) (T := F_Mo) (N := 31) hx hb htz i_Mo t_Mo o_Mo n_Mo hown hK hP hD hS 0 rfl rfl 1 (by decide) (htz _ kf_Mo_76) (fun _ h9 => h9) rfl (by decide +kernel) rfl rfl (Nat.le_of_ble_eq_true rfl) d_Mo_read_159 (fun H locs hP hD hS => ?_)
  replace hP := mf_1 (v := 0) hP
  replace hD := md_1 (v := 0) hD
  refine lv_aload_n hx hb d_Mo_read_162 rfl (lv_at hl 0 rfl) ?_
  refine lv_aload_n hx hb d_Mo_read_163 rfl (lv_at hl 0 rfl) ?_
  refine va_get (D := (dC, dI)) (ci := 4) (v := .int (f 6)) (C := R_Mo) (T := F_Mo) (N := 31) hx hb htz i_Mo hown hK hP 0 rfl rfl 19 (by decide) (htz _ kf_Mo_86) (fun _ h9 => h9) rfl d_Mo_read_164 ?_
  refine va_put (D := (dC, dI)) (ci := 4) (v := .int (f 6)) (ty := .int) (C := R_Mo) (T := F_Mo) (N := 31) hx hb htz i_Mo t_Mo o_Mo n_Mo hown hK hP hD hS 0 rfl rfl 3 (by decide) (htz _ kf_Mo_13) (fun _ h9 => h9) rfl (by decide +kernel) rfl rfl (Nat.le_of_ble_eq_true rfl) d_Mo_read_167 (fun H locs hP hD hS => ?_)
  replace hP := mf_2 (v := f 6) hP
  replace hD := md_2 (v := f 6) hD
  refine lv_aload_n hx hb d_Mo_read_170 rfl (lv_at hl 0 rfl) ?_
  refine lv_iconst (v := 0) hx hb d_Mo_read_171 (by decide) ?_
  refine va_put (D := (dC, dI)) (ci := 4) (v := .int 0) (ty := .int) (C := R_Mo) (T := F_Mo) (N := 31) hx hb htz i_Mo t_Mo o_Mo n_Mo hown hK hP hD hS 0 rfl rfl 24 (by decide) (htz _ kf_Mo_141) (fun _ h9 => h9) rfl (by decide +kernel) rfl rfl (Nat.le_of_ble_eq_true rfl) d_Mo_read_172 (fun H locs hP hD hS => ?_)
  replace hP := mf_9 (v := 0) hP
  replace hD := md_9 (v := 0) hD
  refine lv_aload_n hx hb d_Mo_read_175 rfl (lv_at hl 0 rfl) ?_
  refine lv_aload_n hx hb d_Mo_read_176 rfl (lv_at hl 0 rfl) ?_
  refine va_get (D := (dC, dI)) (ci := 4) (v := .int (f 6)) (C := R_Mo) (T := F_Mo) (N := 31) hx hb htz i_Mo hown hK hP 0 rfl rfl 19 (by decide) (htz _ kf_Mo_86) (fun _ h9 => h9) rfl d_Mo_read_177 ?_
  refine lv_if_lt (tgt := 187) hx hb d_Mo_read_180 (by decide) (fun c_180 => ?_) (fun c_180 => ?_)
  · refine lv_aload_n hx hb d_Mo_read_187 rfl (lv_at hl 0 rfl) ?_
    refine va_get (D := (dC, dI)) (ci := 4) (v := .int (f 3)) (C := R_Mo) (T := F_Mo) (N := 31) hx hb htz i_Mo hown hK hP 0 rfl rfl 4 (by decide) (htz _ kf_Mo_129) (fun _ h9 => h9) rfl d_Mo_read_188 ?_
    refine lv_bipush (v := 8) hx hb d_Mo_read_191 (by decide) ?_
    refine lv_icmp_ne (tgt := 200) hx hb d_Mo_read_193 (by decide) (fun c_193 => ?_) (fun c_193 => ?_)
    · refine lv_iconst (v := 0) hx hb d_Mo_read_200 (by decide) ?_
      exact (k_201 c_180 c_193) H locs ls (lv_sub hl [0, 1] rfl) hP hD hS
    · refine lv_iconst (v := 2) hx hb d_Mo_read_196 (by decide) ?_
      refine lv_goto (tgt := 201) hx hb d_Mo_read_197 (by decide) ?_
      exact (k_201_1 c_180 c_193) H locs ls (lv_sub hl [0, 1] rfl) hP hD hS
  · refine lv_iconst (v := 1) hx hb d_Mo_read_183 (by decide) ?_
    refine lv_goto (tgt := 201) hx hb d_Mo_read_184 (by decide) ?_
    exact (k_201_2 c_180) H locs ls (lv_sub hl [0, 1] rfl) hP hD hS
set_option maxHeartbeats 1000000 in
set_option maxRecDepth 100000 in
theorem k_Mo_read_201 {C : CT} (X : cM C "QuestionTextModel" b_Mo_read 2 (some .int)) (Post : Int32 → FT → GT → Prop) {P_232 : Int32 → FT → GT → Prop} (x1 : Int32) (y0 : Int32) (f : FT) (g : GT)
    (m_232 : (y0 ≤ 0) → mI C.1 y_Mo_questions (Cond.code y_Mo_questions b_Mo_questions 3 (some .int)) 0 [.ref (ad C.1 0)] (va_up (va_up (va_up f 0 y0) 3 ((f 3) + 1)) 4 ((f 3) + 1)) g P_232)
    (k_232 : (y0 ≤ 0) → ∀ (r : Int32) (f1 : FT) (g1 : GT), P_232 r f1 g1 → zn_read C Post 235 [(0, .ref (ad C.1 0)), (1, .int x1)] [.int r] f1 g1)
    (q_212 : (¬ y0 ≤ 0) → Post (0) (va_up f 0 y0) g) : zn_read C Post 201 [(0, .ref (ad C.1 0)), (1, .int x1)] [.int y0, .ref (ad C.1 0)] f g := by
  obtain ⟨⟨l, dC, dI, k, a⟩, p, e, s, m, args, below, meth, c, A⟩ := C
  obtain ⟨hx, hb, hr, htz, hown, hlocks, hml, hE, hK, hA⟩ := X
  intro H locs ls hl hP hD hS
  have hl : lv_has ls 2 [(0, .ref (a 0)), (1, .int x1)] := hl
  have hP : va_P (dC, dI) classes (mw k a f g) H := hP
  have hD : va_D A (mw k a f g) := hD
  show W p l e (z_rm 6 0 0) s m args below meth c H locs 0 0 _ (F0 m 201 ls [.int y0, .ref (a 0)])
  refine va_put (D := (dC, dI)) (ci := 4) (v := .int y0) (ty := .int) (C := R_Mo) (T := F_Mo) (N := 31) hx hb htz i_Mo t_Mo o_Mo n_Mo hown hK hP hD hS 0 rfl rfl 0 (by decide) (htz _ kf_Mo_69) (fun _ h9 => h9) rfl (by decide +kernel) rfl rfl (Nat.le_of_ble_eq_true rfl) d_Mo_read_201 (fun H locs hP hD hS => ?_)
  replace hP := mf_0 (v := y0) hP
  replace hD := md_0 (v := y0) hD
  refine lv_aload_n hx hb d_Mo_read_204 rfl (lv_at hl 0 rfl) ?_
  refine va_get (D := (dC, dI)) (ci := 4) (v := .int y0) (C := R_Mo) (T := F_Mo) (N := 31) hx hb htz i_Mo hown hK hP 0 rfl rfl 0 (by decide) (htz _ kf_Mo_69) (fun _ h9 => h9) rfl d_Mo_read_205 ?_
  refine lv_if_le (tgt := 213) hx hb d_Mo_read_208 (by decide) (fun c_208 => ?_) (fun c_208 => ?_)
  · refine lv_aload_n hx hb d_Mo_read_213 rfl (lv_at hl 0 rfl) ?_
    refine lv_dup hx hb d_Mo_read_214 rfl ?_
    refine va_get (D := (dC, dI)) (ci := 4) (v := .int (f 3)) (C := R_Mo) (T := F_Mo) (N := 31) hx hb htz i_Mo hown hK hP 0 rfl rfl 4 (by decide) (htz _ kf_Mo_129) (fun _ h9 => h9) rfl d_Mo_read_215 ?_
    refine lv_iconst (v := 1) hx hb d_Mo_read_218 (by decide) ?_
    refine lv_iadd hx hb d_Mo_read_219 ?_
    refine va_put (D := (dC, dI)) (ci := 4) (v := .int ((f 3) + 1)) (ty := .int) (C := R_Mo) (T := F_Mo) (N := 31) hx hb htz i_Mo t_Mo o_Mo n_Mo hown hK hP hD hS 0 rfl rfl 4 (by decide) (htz _ kf_Mo_129) (fun _ h9 => h9) rfl (by decide +kernel) rfl rfl (Nat.le_of_ble_eq_true rfl) d_Mo_read_220 (fun H locs hP hD hS => ?_)
    replace hP := mf_3 (v := (f 3) + 1) hP
    replace hD := md_3 (v := (f 3) + 1) hD
    refine lv_aload_n hx hb d_Mo_read_223 rfl (lv_at hl 0 rfl) ?_
    refine lv_aload_n hx hb d_Mo_read_224 rfl (lv_at hl 0 rfl) ?_
    refine va_get (D := (dC, dI)) (ci := 4) (v := .int ((f 3) + 1)) (C := R_Mo) (T := F_Mo) (N := 31) hx hb htz i_Mo hown hK hP 0 rfl rfl 4 (by decide) (htz _ kf_Mo_129) (fun _ h9 => h9) rfl d_Mo_read_225 ?_
    refine va_put (D := (dC, dI)) (ci := 4) (v := .int ((f 3) + 1)) (ty := .int) (C := R_Mo) (T := F_Mo) (N := 31) hx hb htz i_Mo t_Mo o_Mo n_Mo hown hK hP hD hS 0 rfl rfl 5 (by decide) (htz _ kf_Mo_126) (fun _ h9 => h9) rfl (by decide +kernel) rfl rfl (Nat.le_of_ble_eq_true rfl) d_Mo_read_228 (fun H locs hP hD hS => ?_)
    replace hP := mf_4 (v := (f 3) + 1) hP
    replace hD := md_4 (v := (f 3) + 1) hD
    refine lv_aload_n hx hb d_Mo_read_231 rfl (lv_at hl 0 rfl) ?_
    have hFc := va_free (wc := mw k a (va_up (va_up (va_up f 0 y0) 3 ((f 3) + 1)) 4 ((f 3) + 1)) g) hD hS hA [0, 1, 2, 3, 4, 5, 6, 7, 8, 9, 10, 11, 12, 13, 14, 15, 16, 17, 18] rfl
    refine va_calli (va_runV (As := []) (rest := []) ⟨hx, hb, hml, hown, htz⟩ ((m_232 c_208) H.size) (cwV 0 htz (z_gV (fun _ h => h) km_Mo_144 in_Mo_questions se_Mo_questions ini_Mo m_Mo_questions) rfl rfl rfl (by decide +kernel) ⟨(Nat.le_of_ble_eq_true rfl), (Nat.le_of_ble_eq_true rfl)⟩) ⟨z_blind, va_recv hK hP (ci := 4) (q0 := 0) rfl rfl, fun U hU hW => ⟨rfl, by rw [hU], hE.call hS hFc hU hW, by rw [hU]; exact hP, va_K.moved hW.alike hK, hD.weaken (fun _ _ _ _ => trivial)⟩⟩ rfl rfl hl.1 rfl (lv_room (Nat.le_of_ble_eq_true rfl)) d_Mo_read_232 ⟨(Nat.le_of_ble_eq_true rfl), (Nat.le_of_ble_eq_true rfl)⟩) hS (fun q _ h => hFc q h) hFc (fun r u t H1 locs ht hvm hw hB hz1 hk1 hS => ?_)
    obtain ⟨hP1, hK1, hD1⟩ := hB
    rw [ht] at hP1
    exact (k_232 c_208) r _ _ hw H1 locs ls (lv_sub hl [0, 1] rfl) hP1 (hD1.weaken (fun _ q _ h => hFc _ h)) hS
  · refine lv_iconst (v := 0) hx hb d_Mo_read_211 (by decide) ?_
    exact W.iret (v := 0) hx hb hr (fun t ht hW => ⟨⟨_, (va_up f 0 y0, g), rfl, (q_212 c_208), by rw [ht]; exact hP, va_K.moved hW.alike hK, hD⟩, hS.F ht⟩) hS.2.2 d_Mo_read_212
set_option maxHeartbeats 1000000 in
set_option maxRecDepth 100000 in
theorem k_Mo_read_235 {C : CT} (X : cM C "QuestionTextModel" b_Mo_read 2 (some .int)) (Post : Int32 → FT → GT → Prop) (x1 : Int32) (y0 : Int32) (f : FT) (g : GT)
    (q_235 : Post (y0) f g) : zn_read C Post 235 [(0, .ref (ad C.1 0)), (1, .int x1)] [.int y0] f g := by
  obtain ⟨⟨l, dC, dI, k, a⟩, p, e, s, m, args, below, meth, c, A⟩ := C
  obtain ⟨hx, hb, hr, htz, hown, hlocks, hml, hE, hK, hA⟩ := X
  intro H locs ls hl hP hD hS
  have hl : lv_has ls 2 [(0, .ref (a 0)), (1, .int x1)] := hl
  have hP : va_P (dC, dI) classes (mw k a f g) H := hP
  have hD : va_D A (mw k a f g) := hD
  show W p l e (z_rm 6 0 0) s m args below meth c H locs 0 0 _ (F0 m 235 ls [.int y0])
  exact W.iret (v := y0) hx hb hr (fun t ht hW => ⟨⟨_, (f, g), rfl, q_235, by rw [ht]; exact hP, va_K.moved hW.alike hK, hD⟩, hS.F ht⟩) hS.2.2 d_Mo_read_235
set_option maxHeartbeats 1000000 in
set_option maxRecDepth 100000 in
theorem e_Mo_read (T : ST) (Post : Int32 → FT → GT → Prop) (f : FT) (g : GT) (h : ∀ C : CT, C.1 = T → cM C "QuestionTextModel" b_Mo_read 2 (some .int) → zn_read C Post 0 [(0, .ref (ad C.1 0))] [] f g) : mI T y_Mo_read (Cond.code y_Mo_read b_Mo_read 2 (some .int)) 6 [.ref (ad T 0)] f g Post := by
  obtain ⟨l, dC, dI, k, a⟩ := T
  intro sz
  refine Met.ofW (cc := b_Mo_read) (maxL := 2) (ret := (some .int)) (by decide) rfl ?_
  intro p e s m args below meth c s₁ B hml hv
  obtain ⟨rfl, hsz, hE, hP, hK, hD0⟩ := hv
  have hts := atoms_spec (ws := (Cond.code y_Mo_read b_Mo_read 2 (some .int)) :: z_T) B.pre
  have htz : ∀ w ∈ z_T, w.before _ s = true := fun w h => hts w (z_cons w h)
  subst hsz
  have hD := hD0.self (sz := s.heap.size)
  generalize hAe : va_A (mw k a f g) s.heap.size = A at hD hE ⊢
  have hA : ∀ q : Nat, s.heap.size ≤ q → A q := fun q h => by rw [← hAe]; exact Or.inr h
  have hl := lv_entry ([.ref (a 0)]) (n := 2) (Nat.le_of_ble_eq_true rfl)
  rw [lg_entry_eq]
  generalize (lg_sl ([.ref (a 0)]) ++ List.replicate (2 - (lg_sl ([.ref (a 0)])).length) Slot.unset).toArray = ls at hl ⊢
  exact h ((l, dC, dI, k, a), p, e, s, m, ([.ref (a 0)] : List Value).toArray, below, meth, c, A) rfl ⟨B.exec, B.bytes, B.returns, htz, findClass_of_methodNamed B.named, B.notSynchronized, hml, hE, hK, hA⟩ s.heap [] ls hl hP hD va_S.rf
def zn_answer (C : CT) (Post : Int32 → FT → GT → Prop) (pc : Nat) (loc : List (Nat × Value)) (st : List Value) (f : FT) (g : GT) : Prop := zW C (z_rm 2 0 0) 5 (qI C Post) 0 0 pc loc st (mM C.1 f g)
set_option maxHeartbeats 1000000 in
set_option maxRecDepth 100000 in
theorem k_Mo_answer_0 {C : CT} (X : cM C "QuestionTextModel" b_Mo_answer 5 (some .int)) (Post : Int32 → FT → GT → Prop) (x1 : Int32) (f : FT) (g : GT)
    (k_15 : (f 9 = 0) → zn_answer C Post 15 [(0, .ref (ad C.1 0)), (1, .int x1)] [.ref (ad C.1 0)] f g)
    (k_20 : (¬ f 9 = 0) → (¬ f 10 = 0) → zn_answer C Post 20 [(0, .ref (ad C.1 0)), (1, .int x1)] [.int 0, .ref (ad C.1 0)] f g)
    (k_15_1 : (¬ f 9 = 0) → (f 10 = 0) → zn_answer C Post 15 [(0, .ref (ad C.1 0)), (1, .int x1)] [.ref (ad C.1 0)] f g) : zn_answer C Post 0 [(0, .ref (ad C.1 0)), (1, .int x1)] [] f g := by
  obtain ⟨⟨l, dC, dI, k, a⟩, p, e, s, m, args, below, meth, c, A⟩ := C
  obtain ⟨hx, hb, hr, htz, hown, hlocks, hml, hE, hK, hA⟩ := X
  intro H locs ls hl hP hD hS
  have hl : lv_has ls 5 [(0, .ref (a 0)), (1, .int x1)] := hl
  have hP : va_P (dC, dI) classes (mw k a f g) H := hP
  have hD : va_D A (mw k a f g) := hD
  show W p l e (z_rm 2 0 0) s m args below meth c H locs 0 0 _ (F0 m 0 ls [])
  refine lv_aload_n hx hb d_Mo_answer_0 rfl (lv_at hl 0 rfl) ?_
  refine lv_aload_n hx hb d_Mo_answer_1 rfl (lv_at hl 0 rfl) ?_
  refine va_get (D := (dC, dI)) (ci := 4) (v := .int (f 9)) (C := R_Mo) (T := F_Mo) (N := 31) hx hb htz i_Mo hown hK hP 0 rfl rfl 24 (by decide) (htz _ kf_Mo_141) (fun _ h9 => h9) rfl d_Mo_answer_2 ?_
  refine lv_if_eq (tgt := 15) hx hb d_Mo_answer_5 (by decide) (fun c_5 => ?_) (fun c_5 => ?_)
  · exact (k_15 c_5) H locs ls (lv_sub hl [0, 1] rfl) hP hD hS
  · refine lv_aload_n hx hb d_Mo_answer_8 rfl (lv_at hl 0 rfl) ?_
    refine va_get (D := (dC, dI)) (ci := 4) (v := .int (f 10)) (C := R_Mo) (T := F_Mo) (N := 31) hx hb htz i_Mo hown hK hP 0 rfl rfl 25 (by decide) (htz _ kf_Mo_155) (fun _ h9 => h9) rfl d_Mo_answer_9 ?_
    refine lv_if_ne (tgt := 19) hx hb d_Mo_answer_12 (by decide) (fun c_12 => ?_) (fun c_12 => ?_)
    · refine lv_iconst (v := 0) hx hb d_Mo_answer_19 (by decide) ?_
      exact (k_20 c_5 c_12) H locs ls (lv_sub hl [0, 1] rfl) hP hD hS
    · exact (k_15_1 c_5 c_12) H locs ls (lv_sub hl [0, 1] rfl) hP hD hS
set_option maxHeartbeats 1000000 in
set_option maxRecDepth 100000 in
theorem k_Mo_answer_15 {C : CT} (X : cM C "QuestionTextModel" b_Mo_answer 5 (some .int)) (Post : Int32 → FT → GT → Prop) (x1 : Int32) (f : FT) (g : GT)
    (k_20 : zn_answer C Post 20 [(0, .ref (ad C.1 0)), (1, .int x1)] [.int 2, .ref (ad C.1 0)] f g) : zn_answer C Post 15 [(0, .ref (ad C.1 0)), (1, .int x1)] [.ref (ad C.1 0)] f g := by
  obtain ⟨⟨l, dC, dI, k, a⟩, p, e, s, m, args, below, meth, c, A⟩ := C
  obtain ⟨hx, hb, hr, htz, hown, hlocks, hml, hE, hK, hA⟩ := X
  intro H locs ls hl hP hD hS
  have hl : lv_has ls 5 [(0, .ref (a 0)), (1, .int x1)] := hl
  have hP : va_P (dC, dI) classes (mw k a f g) H := hP
  have hD : va_D A (mw k a f g) := hD
  show W p l e (z_rm 2 0 0) s m args below meth c H locs 0 0 _ (F0 m 15 ls [.ref (a 0)])
  refine lv_iconst (v := 2) hx hb d_Mo_answer_15 (by decide) ?_
  refine lv_goto (tgt := 20) hx hb d_Mo_answer_16 (by decide) ?_
  exact k_20 H locs ls (lv_sub hl [0, 1] rfl) hP hD hS
set_option maxHeartbeats 1000000 in
set_option maxRecDepth 100000 in
theorem k_Mo_answer_20 {C : CT} (X : cM C "QuestionTextModel" b_Mo_answer 5 (some .int)) (Post : Int32 → FT → GT → Prop) {P_81 : Int32 → FT → GT → Prop} (x1 : Int32) (y0 : Int32) (f : FT) (g : GT)
    (h_74 : (y0 ≤ 0) → (¬ x1 = (-1)) → vp_in (((f 4) * 61) + (f 10)) 610)
    (h_80 : (y0 ≤ 0) → (¬ x1 = (-1)) → vp_in (((f 4) * 61) + (f 10)) 610)
    (m_81 : (y0 ≤ 0) → (¬ x1 = (-1)) → mI C.1 y_Mo_in (Cond.code y_Mo_in b_Mo_in 3 (some .boolean)) 0 [.int x1, .int (g 3 (((f 4) * 61) + (f 10) : Int32).toNatClampNeg), .int (g 4 (((f 4) * 61) + (f 10) : Int32).toNatClampNeg)] (va_up f 0 y0) g P_81)
    (k_81 : (y0 ≤ 0) → (¬ x1 = (-1)) → ∀ (r : Int32) (f1 : FT) (g1 : GT), P_81 r f1 g1 → zn_answer C Post 84 [(0, .ref (ad C.1 0)), (1, .int x1), (2, .int (((f 4) * 61) + (f 10)))] [.int r, .ref (ad C.1 0)] f1 g1)
    (h_56 : (y0 ≤ 0) → (x1 = (-1)) → vp_in (((f 4) * 61) + (f 10)) 610)
    (k_92 : (y0 ≤ 0) → (x1 = (-1)) → (g 2 (((f 4) * 61) + (f 10) : Int32).toNatClampNeg = 0) → zn_answer C Post 92 [(0, .ref (ad C.1 0)), (1, .int x1), (2, .int (((f 4) * 61) + (f 10)))] [.int 0, .ref (ad C.1 0)] (va_up f 0 y0) g)
    (k_92_1 : (y0 ≤ 0) → (x1 = (-1)) → (¬ g 2 (((f 4) * 61) + (f 10) : Int32).toNatClampNeg = 0) → zn_answer C Post 92 [(0, .ref (ad C.1 0)), (1, .int x1), (2, .int (((f 4) * 61) + (f 10)))] [.int 1, .ref (ad C.1 0)] (va_up f 0 y0) g)
    (q_31 : (¬ y0 ≤ 0) → Post (0) (va_up f 0 y0) g) : zn_answer C Post 20 [(0, .ref (ad C.1 0)), (1, .int x1)] [.int y0, .ref (ad C.1 0)] f g := by
  obtain ⟨⟨l, dC, dI, k, a⟩, p, e, s, m, args, below, meth, c, A⟩ := C
  obtain ⟨hx, hb, hr, htz, hown, hlocks, hml, hE, hK, hA⟩ := X
  intro H locs ls hl hP hD hS
  have hl : lv_has ls 5 [(0, .ref (a 0)), (1, .int x1)] := hl
  have hP : va_P (dC, dI) classes (mw k a f g) H := hP
  have hD : va_D A (mw k a f g) := hD
  show W p l e (z_rm 2 0 0) s m args below meth c H locs 0 0 _ (F0 m 20 ls [.int y0, .ref (a 0)])
  refine va_put (D := (dC, dI)) (ci := 4) (v := .int y0) (ty := .int) (C := R_Mo) (T := F_Mo) (N := 31) hx hb htz i_Mo t_Mo o_Mo n_Mo hown hK hP hD hS 0 rfl rfl 0 (by decide) (htz _ kf_Mo_69) (fun _ h9 => h9) rfl (by decide +kernel) rfl rfl (Nat.le_of_ble_eq_true rfl) d_Mo_answer_20 (fun H locs hP hD hS => ?_)
  replace hP := mf_0 (v := y0) hP
  replace hD := md_0 (v := y0) hD
  refine lv_aload_n hx hb d_Mo_answer_23 rfl (lv_at hl 0 rfl) ?_
  refine va_get (D := (dC, dI)) (ci := 4) (v := .int y0) (C := R_Mo) (T := F_Mo) (N := 31) hx hb htz i_Mo hown hK hP 0 rfl rfl 0 (by decide) (htz _ kf_Mo_69) (fun _ h9 => h9) rfl d_Mo_answer_24 ?_
  refine lv_if_le (tgt := 32) hx hb d_Mo_answer_27 (by decide) (fun c_27 => ?_) (fun c_27 => ?_)
  · refine lv_aload_n hx hb d_Mo_answer_32 rfl (lv_at hl 0 rfl) ?_
    refine va_get (D := (dC, dI)) (ci := 4) (v := .int (f 4)) (C := R_Mo) (T := F_Mo) (N := 31) hx hb htz i_Mo hown hK hP 0 rfl rfl 5 (by decide) (htz _ kf_Mo_126) (fun _ h9 => h9) rfl d_Mo_answer_33 ?_
    refine lv_bipush (v := 61) hx hb d_Mo_answer_36 (by decide) ?_
    refine lv_imul hx hb d_Mo_answer_38 ?_
    refine lv_aload_n hx hb d_Mo_answer_39 rfl (lv_at hl 0 rfl) ?_
    refine va_get (D := (dC, dI)) (ci := 4) (v := .int (f 10)) (C := R_Mo) (T := F_Mo) (N := 31) hx hb htz i_Mo hown hK hP 0 rfl rfl 25 (by decide) (htz _ kf_Mo_155) (fun _ h9 => h9) rfl d_Mo_answer_40 ?_
    refine lv_iadd hx hb d_Mo_answer_43 ?_
    refine lv_istore_n (lv' := [(2, .int (((f 4) * 61) + (f 10))), (0, .ref (a 0)), (1, .int x1)]) hx hb d_Mo_answer_44 rfl hl (by decide) rfl (fun ls hl => ?_)
    refine lv_aload_n hx hb d_Mo_answer_45 rfl (lv_at hl 1 rfl) ?_
    refine lv_iload_n hx hb d_Mo_answer_46 rfl (lv_at hl 2 rfl) ?_
    refine lv_iconst (v := -1) hx hb d_Mo_answer_47 (by decide) ?_
    refine lv_icmp_ne (tgt := 68) hx hb d_Mo_answer_48 (by decide) (fun c_48 => ?_) (fun c_48 => ?_)
    · refine lv_iload_n hx hb d_Mo_answer_68 rfl (lv_at hl 2 rfl) ?_
      refine lv_aload_n hx hb d_Mo_answer_69 rfl (lv_at hl 1 rfl) ?_
      refine va_get (D := (dC, dI)) (ci := 4) (v := .ref (a 4)) (C := R_Mo) (T := F_Mo) (N := 31) hx hb htz i_Mo hown hK hP 0 rfl rfl 8 (by decide) (htz _ kf_Mo_24) (fun _ h9 => h9) rfl d_Mo_answer_70 ?_
      refine lv_iload_n hx hb d_Mo_answer_73 rfl (lv_at hl 0 rfl) ?_
      refine va_iald hx hb hK hP 4 0 rfl rfl (h_74 c_27 c_48) d_Mo_answer_74 ?_
      refine lv_aload_n hx hb d_Mo_answer_75 rfl (lv_at hl 1 rfl) ?_
      refine va_get (D := (dC, dI)) (ci := 4) (v := .ref (a 5)) (C := R_Mo) (T := F_Mo) (N := 31) hx hb htz i_Mo hown hK hP 0 rfl rfl 9 (by decide) (htz _ kf_Mo_27) (fun _ h9 => h9) rfl d_Mo_answer_76 ?_
      refine lv_iload_n hx hb d_Mo_answer_79 rfl (lv_at hl 0 rfl) ?_
      refine va_iald hx hb hK hP 5 0 rfl rfl (h_80 c_27 c_48) d_Mo_answer_80 ?_
      have hFc := va_free (wc := mw k a (va_up f 0 y0) g) hD hS hA [0, 1, 2, 3, 4, 5, 6, 7, 8, 9, 10, 11, 12, 13, 14, 15, 16, 17, 18] rfl
      refine va_calli (va_runS (As := [.int x1, .int (g 3 (((f 4) * 61) + (f 10) : Int32).toNatClampNeg), .int (g 4 (((f 4) * 61) + (f 10) : Int32).toNatClampNeg)]) (rest := [.ref (a 0)]) ⟨hx, hb, hml, hown, htz⟩ ((m_81 c_27 c_48) H.size) (va_cwS 3 htz (z_gS (fun _ h => h) km_Mo_72 st_Mo_in ini_Mo m_Mo_in) rfl rfl rfl (by decide +kernel) ⟨(Nat.le_of_ble_eq_true rfl), (Nat.le_of_ble_eq_true rfl)⟩) ⟨z_blind, fun U hU hW => ⟨rfl, by rw [hU], hE.call hS hFc hU hW, by rw [hU]; exact hP, va_K.moved hW.alike hK, hD.weaken (fun _ _ _ _ => trivial)⟩⟩ rfl rfl hl.1 rfl (lv_room (Nat.le_of_ble_eq_true rfl)) d_Mo_answer_81 ⟨(Nat.le_of_ble_eq_true rfl), (Nat.le_of_ble_eq_true rfl)⟩) hS (fun q _ h => hFc q h) hFc (fun r u t H1 locs ht hvm hw hB hz1 hk1 hS => ?_)
      obtain ⟨hP1, hK1, hD1⟩ := hB
      rw [ht] at hP1
      exact (k_81 c_27 c_48) r _ _ hw H1 locs ls (lv_sub hl [1, 2, 0] rfl) hP1 (hD1.weaken (fun _ q _ h => hFc _ h)) hS
    · refine lv_aload_n hx hb d_Mo_answer_51 rfl (lv_at hl 1 rfl) ?_
      refine va_get (D := (dC, dI)) (ci := 4) (v := .ref (a 3)) (C := R_Mo) (T := F_Mo) (N := 31) hx hb htz i_Mo hown hK hP 0 rfl rfl 7 (by decide) (htz _ kf_Mo_21) (fun _ h9 => h9) rfl d_Mo_answer_52 ?_
      refine lv_iload_n hx hb d_Mo_answer_55 rfl (lv_at hl 0 rfl) ?_
      refine va_zald hx hb hK hP 3 2 rfl rfl (h_56 c_27 c_48) d_Mo_answer_56 ?_
      refine lv_if_eq (tgt := 64) hx hb d_Mo_answer_57 (by decide) (fun c_57 => ?_) (fun c_57 => ?_)
      · refine lv_iconst (v := 0) hx hb d_Mo_answer_64 (by decide) ?_
        refine lv_goto (tgt := 92) hx hb d_Mo_answer_65 (by decide) ?_
        exact (k_92 c_27 c_48 c_57) H locs ls (lv_sub hl [1, 2, 0] rfl) hP hD hS
      · refine lv_iconst (v := 1) hx hb d_Mo_answer_60 (by decide) ?_
        refine lv_goto (tgt := 92) hx hb d_Mo_answer_61 (by decide) ?_
        exact (k_92_1 c_27 c_48 c_57) H locs ls (lv_sub hl [1, 2, 0] rfl) hP hD hS
  · refine lv_iconst (v := 0) hx hb d_Mo_answer_30 (by decide) ?_
    exact W.iret (v := 0) hx hb hr (fun t ht hW => ⟨⟨_, (va_up f 0 y0, g), rfl, (q_31 c_27), by rw [ht]; exact hP, va_K.moved hW.alike hK, hD⟩, hS.F ht⟩) hS.2.2 d_Mo_answer_31
set_option maxHeartbeats 1000000 in
set_option maxRecDepth 100000 in
theorem k_Mo_answer_84 {C : CT} (X : cM C "QuestionTextModel" b_Mo_answer 5 (some .int)) (Post : Int32 → FT → GT → Prop) (x1 : Int32) (x2 : Int32) (y0 : Int32) (f : FT) (g : GT)
    (k_92 : (y0 = 0) → zn_answer C Post 92 [(0, .ref (ad C.1 0)), (1, .int x1), (2, .int x2)] [.int 1, .ref (ad C.1 0)] f g)
    (k_92_1 : (¬ y0 = 0) → zn_answer C Post 92 [(0, .ref (ad C.1 0)), (1, .int x1), (2, .int x2)] [.int 0, .ref (ad C.1 0)] f g) : zn_answer C Post 84 [(0, .ref (ad C.1 0)), (1, .int x1), (2, .int x2)] [.int y0, .ref (ad C.1 0)] f g := by
  obtain ⟨⟨l, dC, dI, k, a⟩, p, e, s, m, args, below, meth, c, A⟩ := C
  obtain ⟨hx, hb, hr, htz, hown, hlocks, hml, hE, hK, hA⟩ := X
  intro H locs ls hl hP hD hS
  have hl : lv_has ls 5 [(0, .ref (a 0)), (1, .int x1), (2, .int x2)] := hl
  have hP : va_P (dC, dI) classes (mw k a f g) H := hP
  have hD : va_D A (mw k a f g) := hD
  show W p l e (z_rm 2 0 0) s m args below meth c H locs 0 0 _ (F0 m 84 ls [.int y0, .ref (a 0)])
  refine lv_if_eq (tgt := 91) hx hb d_Mo_answer_84 (by decide) (fun c_84 => ?_) (fun c_84 => ?_)
  · refine lv_iconst (v := 1) hx hb d_Mo_answer_91 (by decide) ?_
    exact (k_92 c_84) H locs ls (lv_sub hl [0, 1, 2] rfl) hP hD hS
  · refine lv_iconst (v := 0) hx hb d_Mo_answer_87 (by decide) ?_
    refine lv_goto (tgt := 92) hx hb d_Mo_answer_88 (by decide) ?_
    exact (k_92_1 c_84) H locs ls (lv_sub hl [0, 1, 2] rfl) hP hD hS
set_option maxHeartbeats 1000000 in
set_option maxRecDepth 100000 in
theorem k_Mo_answer_92 {C : CT} (X : cM C "QuestionTextModel" b_Mo_answer 5 (some .int)) (Post : Int32 → FT → GT → Prop) (x1 : Int32) (x2 : Int32) (y0 : Int32) (f : FT) (g : GT)
    (k_106 : (y0 ≤ 0) → zn_answer C Post 106 [(0, .ref (ad C.1 0)), (1, .int x1), (2, .int x2), (3, .int 0)] [] (va_up f 0 y0) g)
    (q_103 : (¬ y0 ≤ 0) → Post (0) (va_up f 0 y0) g) : zn_answer C Post 92 [(0, .ref (ad C.1 0)), (1, .int x1), (2, .int x2)] [.int y0, .ref (ad C.1 0)] f g := by
  obtain ⟨⟨l, dC, dI, k, a⟩, p, e, s, m, args, below, meth, c, A⟩ := C
  obtain ⟨hx, hb, hr, htz, hown, hlocks, hml, hE, hK, hA⟩ := X
  intro H locs ls hl hP hD hS
  have hl : lv_has ls 5 [(0, .ref (a 0)), (1, .int x1), (2, .int x2)] := hl
  have hP : va_P (dC, dI) classes (mw k a f g) H := hP
  have hD : va_D A (mw k a f g) := hD
  show W p l e (z_rm 2 0 0) s m args below meth c H locs 0 0 _ (F0 m 92 ls [.int y0, .ref (a 0)])
  refine va_put (D := (dC, dI)) (ci := 4) (v := .int y0) (ty := .int) (C := R_Mo) (T := F_Mo) (N := 31) hx hb htz i_Mo t_Mo o_Mo n_Mo hown hK hP hD hS 0 rfl rfl 0 (by decide) (htz _ kf_Mo_69) (fun _ h9 => h9) rfl (by decide +kernel) rfl rfl (Nat.le_of_ble_eq_true rfl) d_Mo_answer_92 (fun H locs hP hD hS => ?_)
  replace hP := mf_0 (v := y0) hP
  replace hD := md_0 (v := y0) hD
  refine lv_aload_n hx hb d_Mo_answer_95 rfl (lv_at hl 0 rfl) ?_
  refine va_get (D := (dC, dI)) (ci := 4) (v := .int y0) (C := R_Mo) (T := F_Mo) (N := 31) hx hb htz i_Mo hown hK hP 0 rfl rfl 0 (by decide) (htz _ kf_Mo_69) (fun _ h9 => h9) rfl d_Mo_answer_96 ?_
  refine lv_if_le (tgt := 104) hx hb d_Mo_answer_99 (by decide) (fun c_99 => ?_) (fun c_99 => ?_)
  · refine lv_iconst (v := 0) hx hb d_Mo_answer_104 (by decide) ?_
    refine lv_istore_n (lv' := [(3, .int 0), (0, .ref (a 0)), (1, .int x1), (2, .int x2)]) hx hb d_Mo_answer_105 rfl hl (by decide) rfl (fun ls hl => ?_)
    exact (k_106 c_99) H locs ls (lv_sub hl [1, 2, 3, 0] rfl) hP hD hS
  · refine lv_iconst (v := 0) hx hb d_Mo_answer_102 (by decide) ?_
    exact W.iret (v := 0) hx hb hr (fun t ht hW => ⟨⟨_, (va_up f 0 y0, g), rfl, (q_103 c_99), by rw [ht]; exact hP, va_K.moved hW.alike hK, hD⟩, hS.F ht⟩) hS.2.2 d_Mo_answer_103
set_option maxHeartbeats 1000000 in
set_option maxRecDepth 100000 in
theorem k_Mo_answer_106 {C : CT} (X : cM C "QuestionTextModel" b_Mo_answer 5 (some .int)) (Post : Int32 → FT → GT → Prop) {P_152 : Int32 → FT → GT → Prop} (x1 : Int32) (x2 : Int32) (x3 : Int32) (f : FT) (g : GT)
    (h_112 : vp_in (x2) 610)
    (k_164 : ((g 7 (x2 : Int32).toNatClampNeg) - 1 ≤ x3) → zn_answer C Post 164 [(0, .ref (ad C.1 0)), (1, .int x1), (2, .int x2), (3, .int x3)] [] f g)
    (k_158 : (¬ (g 7 (x2 : Int32).toNatClampNeg) - 1 ≤ x3) → (x1 = (-1)) → zn_answer C Post 158 [(0, .ref (ad C.1 0)), (1, .int x1), (2, .int x2), (3, .int x3)] [] f g)
    (h_136 : (¬ (g 7 (x2 : Int32).toNatClampNeg) - 1 ≤ x3) → (¬ x1 = (-1)) → vp_in (((x2 * 6) + x3) * 4) 14640)
    (h_151 : (¬ (g 7 (x2 : Int32).toNatClampNeg) - 1 ≤ x3) → (¬ x1 = (-1)) → vp_in ((((x2 * 6) + x3) * 4) + 1) 14640)
    (m_152 : (¬ (g 7 (x2 : Int32).toNatClampNeg) - 1 ≤ x3) → (¬ x1 = (-1)) → mI C.1 y_Mo_in (Cond.code y_Mo_in b_Mo_in 3 (some .boolean)) 0 [.int x1, .int (g 8 (((x2 * 6) + x3) * 4 : Int32).toNatClampNeg), .int (g 8 ((((x2 * 6) + x3) * 4) + 1 : Int32).toNatClampNeg)] f g P_152)
    (k_152 : (¬ (g 7 (x2 : Int32).toNatClampNeg) - 1 ≤ x3) → (¬ x1 = (-1)) → ∀ (r : Int32) (f1 : FT) (g1 : GT), P_152 r f1 g1 → zn_answer C Post 155 [(0, .ref (ad C.1 0)), (1, .int x1), (2, .int x2), (3, .int x3)] [.int r] f1 g1) : zn_answer C Post 106 [(0, .ref (ad C.1 0)), (1, .int x1), (2, .int x2), (3, .int x3)] [] f g := by
  obtain ⟨⟨l, dC, dI, k, a⟩, p, e, s, m, args, below, meth, c, A⟩ := C
  obtain ⟨hx, hb, hr, htz, hown, hlocks, hml, hE, hK, hA⟩ := X
  intro H locs ls hl hP hD hS
  have hl : lv_has ls 5 [(0, .ref (a 0)), (1, .int x1), (2, .int x2), (3, .int x3)] := hl
  have hP : va_P (dC, dI) classes (mw k a f g) H := hP
  have hD : va_D A (mw k a f g) := hD
  show W p l e (z_rm 2 0 0) s m args below meth c H locs 0 0 _ (F0 m 106 ls [])
  refine lv_iload_n hx hb d_Mo_answer_106 rfl (lv_at hl 3 rfl) ?_
  refine lv_aload_n hx hb d_Mo_answer_107 rfl (lv_at hl 0 rfl) ?_
  refine va_get (D := (dC, dI)) (ci := 4) (v := .ref (a 8)) (C := R_Mo) (T := F_Mo) (N := 31) hx hb htz i_Mo hown hK hP 0 rfl rfl 12 (by decide) (htz _ kf_Mo_36) (fun _ h9 => h9) rfl d_Mo_answer_108 ?_
  refine lv_iload_n hx hb d_Mo_answer_111 rfl (lv_at hl 2 rfl) ?_
  refine va_iald hx hb hK hP 8 0 rfl rfl h_112 d_Mo_answer_112 ?_
  refine lv_iconst (v := 1) hx hb d_Mo_answer_113 (by decide) ?_
  refine lv_isub hx hb d_Mo_answer_114 ?_
  refine lv_icmp_ge (tgt := 164) hx hb d_Mo_answer_115 (by decide) (fun c_115 => ?_) (fun c_115 => ?_)
  · exact (k_164 c_115) H locs ls (lv_sub hl [0, 1, 2, 3] rfl) hP hD hS
  · refine lv_iload_n hx hb d_Mo_answer_118 rfl (lv_at hl 1 rfl) ?_
    refine lv_iconst (v := -1) hx hb d_Mo_answer_119 (by decide) ?_
    refine lv_icmp_eq (tgt := 158) hx hb d_Mo_answer_120 (by decide) (fun c_120 => ?_) (fun c_120 => ?_)
    · exact (k_158 c_115 c_120) H locs ls (lv_sub hl [0, 1, 2, 3] rfl) hP hD hS
    · refine lv_iload_n hx hb d_Mo_answer_123 rfl (lv_at hl 1 rfl) ?_
      refine lv_aload_n hx hb d_Mo_answer_124 rfl (lv_at hl 0 rfl) ?_
      refine va_get (D := (dC, dI)) (ci := 4) (v := .ref (a 9)) (C := R_Mo) (T := F_Mo) (N := 31) hx hb htz i_Mo hown hK hP 0 rfl rfl 13 (by decide) (htz _ kf_Mo_39) (fun _ h9 => h9) rfl d_Mo_answer_125 ?_
      refine lv_iload_n hx hb d_Mo_answer_128 rfl (lv_at hl 2 rfl) ?_
      refine lv_bipush (v := 6) hx hb d_Mo_answer_129 (by decide) ?_
      refine lv_imul hx hb d_Mo_answer_131 ?_
      refine lv_iload_n hx hb d_Mo_answer_132 rfl (lv_at hl 3 rfl) ?_
      refine lv_iadd hx hb d_Mo_answer_133 ?_
      refine lv_iconst (v := 4) hx hb d_Mo_answer_134 (by decide) ?_
      refine lv_imul hx hb d_Mo_answer_135 ?_
      refine va_iald hx hb hK hP 9 0 rfl rfl (h_136 c_115 c_120) d_Mo_answer_136 ?_
      refine lv_aload_n hx hb d_Mo_answer_137 rfl (lv_at hl 0 rfl) ?_
      refine va_get (D := (dC, dI)) (ci := 4) (v := .ref (a 9)) (C := R_Mo) (T := F_Mo) (N := 31) hx hb htz i_Mo hown hK hP 0 rfl rfl 13 (by decide) (htz _ kf_Mo_39) (fun _ h9 => h9) rfl d_Mo_answer_138 ?_
      refine lv_iload_n hx hb d_Mo_answer_141 rfl (lv_at hl 2 rfl) ?_
      refine lv_bipush (v := 6) hx hb d_Mo_answer_142 (by decide) ?_
      refine lv_imul hx hb d_Mo_answer_144 ?_
      refine lv_iload_n hx hb d_Mo_answer_145 rfl (lv_at hl 3 rfl) ?_
      refine lv_iadd hx hb d_Mo_answer_146 ?_
      refine lv_iconst (v := 4) hx hb d_Mo_answer_147 (by decide) ?_
      refine lv_imul hx hb d_Mo_answer_148 ?_
      refine lv_iconst (v := 1) hx hb d_Mo_answer_149 (by decide) ?_
      refine lv_iadd hx hb d_Mo_answer_150 ?_
      refine va_iald hx hb hK hP 9 0 rfl rfl (h_151 c_115 c_120) d_Mo_answer_151 ?_
      have hFc := va_free (wc := mw k a f g) hD hS hA [0, 1, 2, 3, 4, 5, 6, 7, 8, 9, 10, 11, 12, 13, 14, 15, 16, 17, 18] rfl
      refine va_calli (va_runS (As := [.int x1, .int (g 8 (((x2 * 6) + x3) * 4 : Int32).toNatClampNeg), .int (g 8 ((((x2 * 6) + x3) * 4) + 1 : Int32).toNatClampNeg)]) (rest := []) ⟨hx, hb, hml, hown, htz⟩ ((m_152 c_115 c_120) H.size) (va_cwS 3 htz (z_gS (fun _ h => h) km_Mo_72 st_Mo_in ini_Mo m_Mo_in) rfl rfl rfl (by decide +kernel) ⟨(Nat.le_of_ble_eq_true rfl), (Nat.le_of_ble_eq_true rfl)⟩) ⟨z_blind, fun U hU hW => ⟨rfl, by rw [hU], hE.call hS hFc hU hW, by rw [hU]; exact hP, va_K.moved hW.alike hK, hD.weaken (fun _ _ _ _ => trivial)⟩⟩ rfl rfl hl.1 rfl (lv_room (Nat.le_of_ble_eq_true rfl)) d_Mo_answer_152 ⟨(Nat.le_of_ble_eq_true rfl), (Nat.le_of_ble_eq_true rfl)⟩) hS (fun q _ h => hFc q h) hFc (fun r u t H1 locs ht hvm hw hB hz1 hk1 hS => ?_)
      obtain ⟨hP1, hK1, hD1⟩ := hB
      rw [ht] at hP1
      exact (k_152 c_115 c_120) r _ _ hw H1 locs ls (lv_sub hl [0, 1, 2, 3] rfl) hP1 (hD1.weaken (fun _ q _ h => hFc _ h)) hS
set_option maxHeartbeats 1000000 in
set_option maxRecDepth 100000 in
theorem k_Mo_answer_155 {C : CT} (X : cM C "QuestionTextModel" b_Mo_answer 5 (some .int)) (Post : Int32 → FT → GT → Prop) (x1 : Int32) (x2 : Int32) (x3 : Int32) (y0 : Int32) (f : FT) (g : GT)
    (k_164 : (¬ y0 = 0) → zn_answer C Post 164 [(0, .ref (ad C.1 0)), (1, .int x1), (2, .int x2), (3, .int x3)] [] f g)
    (k_158 : (y0 = 0) → zn_answer C Post 158 [(0, .ref (ad C.1 0)), (1, .int x1), (2, .int x2), (3, .int x3)] [] f g) : zn_answer C Post 155 [(0, .ref (ad C.1 0)), (1, .int x1), (2, .int x2), (3, .int x3)] [.int y0] f g := by
  obtain ⟨⟨l, dC, dI, k, a⟩, p, e, s, m, args, below, meth, c, A⟩ := C
  obtain ⟨hx, hb, hr, htz, hown, hlocks, hml, hE, hK, hA⟩ := X
  intro H locs ls hl hP hD hS
  have hl : lv_has ls 5 [(0, .ref (a 0)), (1, .int x1), (2, .int x2), (3, .int x3)] := hl
  have hP : va_P (dC, dI) classes (mw k a f g) H := hP
  have hD : va_D A (mw k a f g) := hD
  show W p l e (z_rm 2 0 0) s m args below meth c H locs 0 0 _ (F0 m 155 ls [.int y0])
  refine lv_if_ne (tgt := 164) hx hb d_Mo_answer_155 (by decide) (fun c_155 => ?_) (fun c_155 => ?_)
  · exact (k_164 c_155) H locs ls (lv_sub hl [0, 1, 2, 3] rfl) hP hD hS
  · exact (k_158 c_155) H locs ls (lv_sub hl [0, 1, 2, 3] rfl) hP hD hS
set_option maxHeartbeats 1000000 in
set_option maxRecDepth 100000 in
theorem k_Mo_answer_158 {C : CT} (X : cM C "QuestionTextModel" b_Mo_answer 5 (some .int)) (Post : Int32 → FT → GT → Prop) (x1 : Int32) (x2 : Int32) (x3 : Int32) (f : FT) (g : GT)
    (k_106 : zn_answer C Post 106 [(0, .ref (ad C.1 0)), (1, .int x1), (2, .int x2), (3, .int (x3 + 1))] [] f g) : zn_answer C Post 158 [(0, .ref (ad C.1 0)), (1, .int x1), (2, .int x2), (3, .int x3)] [] f g := by
  obtain ⟨⟨l, dC, dI, k, a⟩, p, e, s, m, args, below, meth, c, A⟩ := C
  obtain ⟨hx, hb, hr, htz, hown, hlocks, hml, hE, hK, hA⟩ := X
  intro H locs ls hl hP hD hS
  have hl : lv_has ls 5 [(0, .ref (a 0)), (1, .int x1), (2, .int x2), (3, .int x3)] := hl
  have hP : va_P (dC, dI) classes (mw k a f g) H := hP
  have hD : va_D A (mw k a f g) := hD
  show W p l e (z_rm 2 0 0) s m args below meth c H locs 0 0 _ (F0 m 158 ls [])
  refine lv_iinc (v := x3 + 1) (lv' := [(3, .int (x3 + 1)), (0, .ref (a 0)), (1, .int x1), (2, .int x2)]) hx hb d_Mo_answer_158 hl (k := 3) rfl (rfl) (by decide) rfl (fun ls hl => ?_)
  refine lv_goto (tgt := 106) hx hb d_Mo_answer_161 (by decide) ?_
  exact k_106 H locs ls (lv_sub hl [1, 2, 3, 0] rfl) hP hD hS
set_option maxHeartbeats 1000000 in
set_option maxRecDepth 100000 in
theorem k_Mo_answer_164 {C : CT} (X : cM C "QuestionTextModel" b_Mo_answer 5 (some .int)) (Post : Int32 → FT → GT → Prop) {P_185 : Int32 → FT → GT → Prop} (x1 : Int32) (x2 : Int32) (x3 : Int32) (f : FT) (g : GT)
    (h_184 : vp_in ((((x2 * 6) + x3) * 4) + 2) 14640)
    (m_185 : mI C.1 y_Mo_isThere (Cond.code y_Mo_isThere b_Mo_isThere 2 (some .boolean)) 0 [.ref (ad C.1 0), .int (g 8 ((((x2 * 6) + x3) * 4) + 2 : Int32).toNatClampNeg)] f g P_185)
    (k_185 : ∀ (r : Int32) (f1 : FT) (g1 : GT), P_185 r f1 g1 → zn_answer C Post 188 [(0, .ref (ad C.1 0)), (1, .int x1), (2, .int x2), (3, .int x3), (4, .int (((x2 * 6) + x3) * 4))] [.int r, .ref (ad C.1 0)] f1 g1) : zn_answer C Post 164 [(0, .ref (ad C.1 0)), (1, .int x1), (2, .int x2), (3, .int x3)] [] f g := by
  obtain ⟨⟨l, dC, dI, k, a⟩, p, e, s, m, args, below, meth, c, A⟩ := C
  obtain ⟨hx, hb, hr, htz, hown, hlocks, hml, hE, hK, hA⟩ := X
  intro H locs ls hl hP hD hS
  have hl : lv_has ls 5 [(0, .ref (a 0)), (1, .int x1), (2, .int x2), (3, .int x3)] := hl
  have hP : va_P (dC, dI) classes (mw k a f g) H := hP
  have hD : va_D A (mw k a f g) := hD
  show W p l e (z_rm 2 0 0) s m args below meth c H locs 0 0 _ (F0 m 164 ls [])
  refine lv_iload_n hx hb d_Mo_answer_164 rfl (lv_at hl 2 rfl) ?_
  refine lv_bipush (v := 6) hx hb d_Mo_answer_165 (by decide) ?_
  refine lv_imul hx hb d_Mo_answer_167 ?_
  refine lv_iload_n hx hb d_Mo_answer_168 rfl (lv_at hl 3 rfl) ?_
  refine lv_iadd hx hb d_Mo_answer_169 ?_
  refine lv_iconst (v := 4) hx hb d_Mo_answer_170 (by decide) ?_
  refine lv_imul hx hb d_Mo_answer_171 ?_
  refine lv_istore (lv' := [(4, .int (((x2 * 6) + x3) * 4)), (0, .ref (a 0)), (1, .int x1), (2, .int x2), (3, .int x3)]) hx hb d_Mo_answer_172 hl (by decide) rfl (fun ls hl => ?_)
  refine lv_aload_n hx hb d_Mo_answer_174 rfl (lv_at hl 1 rfl) ?_
  refine lv_aload_n hx hb d_Mo_answer_175 rfl (lv_at hl 1 rfl) ?_
  refine lv_aload_n hx hb d_Mo_answer_176 rfl (lv_at hl 1 rfl) ?_
  refine va_get (D := (dC, dI)) (ci := 4) (v := .ref (a 9)) (C := R_Mo) (T := F_Mo) (N := 31) hx hb htz i_Mo hown hK hP 0 rfl rfl 13 (by decide) (htz _ kf_Mo_39) (fun _ h9 => h9) rfl d_Mo_answer_177 ?_
  refine lv_iload hx hb d_Mo_answer_180 (lv_at hl 0 rfl) ?_
  refine lv_iconst (v := 2) hx hb d_Mo_answer_182 (by decide) ?_
  refine lv_iadd hx hb d_Mo_answer_183 ?_
  refine va_iald hx hb hK hP 9 0 rfl rfl h_184 d_Mo_answer_184 ?_
  have hFc := va_free (wc := mw k a f g) hD hS hA [0, 1, 2, 3, 4, 5, 6, 7, 8, 9, 10, 11, 12, 13, 14, 15, 16, 17, 18] rfl
  refine va_calli (va_runV (As := [.int (g 8 ((((x2 * 6) + x3) * 4) + 2 : Int32).toNatClampNeg)]) (rest := [.ref (a 0)]) ⟨hx, hb, hml, hown, htz⟩ (m_185 H.size) (cwV 1 htz (z_gV (fun _ h => h) km_Mo_151 in_Mo_isThere se_Mo_isThere ini_Mo m_Mo_isThere) rfl rfl rfl (by decide +kernel) ⟨(Nat.le_of_ble_eq_true rfl), (Nat.le_of_ble_eq_true rfl)⟩) ⟨z_blind, va_recv hK hP (ci := 4) (q0 := 0) rfl rfl, fun U hU hW => ⟨rfl, by rw [hU], hE.call hS hFc hU hW, by rw [hU]; exact hP, va_K.moved hW.alike hK, hD.weaken (fun _ _ _ _ => trivial)⟩⟩ rfl rfl hl.1 rfl (lv_room (Nat.le_of_ble_eq_true rfl)) d_Mo_answer_185 ⟨(Nat.le_of_ble_eq_true rfl), (Nat.le_of_ble_eq_true rfl)⟩) hS (fun q _ h => hFc q h) hFc (fun r u t H1 locs ht hvm hw hB hz1 hk1 hS => ?_)
  obtain ⟨hP1, hK1, hD1⟩ := hB
  rw [ht] at hP1
  exact k_185 r _ _ hw H1 locs ls (lv_sub hl [1, 2, 3, 4, 0] rfl) hP1 (hD1.weaken (fun _ q _ h => hFc _ h)) hS
set_option maxHeartbeats 1000000 in
set_option maxRecDepth 100000 in
theorem k_Mo_answer_188 {C : CT} (X : cM C "QuestionTextModel" b_Mo_answer 5 (some .int)) (Post : Int32 → FT → GT → Prop) (x1 : Int32) (x2 : Int32) (x3 : Int32) (x4 : Int32) (y0 : Int32) (f : FT) (g : GT)
    (k_204 : (y0 = 0) → zn_answer C Post 204 [(0, .ref (ad C.1 0)), (1, .int x1), (2, .int x2), (3, .int x3), (4, .int x4)] [.ref (ad C.1 0)] f g)
    (k_204_1 : (¬ y0 = 0) → (¬ f 12 = 40) → zn_answer C Post 204 [(0, .ref (ad C.1 0)), (1, .int x1), (2, .int x2), (3, .int x3), (4, .int x4)] [.ref (ad C.1 0)] f g)
    (k_205 : (¬ y0 = 0) → (f 12 = 40) → zn_answer C Post 205 [(0, .ref (ad C.1 0)), (1, .int x1), (2, .int x2), (3, .int x3), (4, .int x4)] [.int 2, .ref (ad C.1 0)] f g) : zn_answer C Post 188 [(0, .ref (ad C.1 0)), (1, .int x1), (2, .int x2), (3, .int x3), (4, .int x4)] [.int y0, .ref (ad C.1 0)] f g := by
  obtain ⟨⟨l, dC, dI, k, a⟩, p, e, s, m, args, below, meth, c, A⟩ := C
  obtain ⟨hx, hb, hr, htz, hown, hlocks, hml, hE, hK, hA⟩ := X
  intro H locs ls hl hP hD hS
  have hl : lv_has ls 5 [(0, .ref (a 0)), (1, .int x1), (2, .int x2), (3, .int x3), (4, .int x4)] := hl
  have hP : va_P (dC, dI) classes (mw k a f g) H := hP
  have hD : va_D A (mw k a f g) := hD
  show W p l e (z_rm 2 0 0) s m args below meth c H locs 0 0 _ (F0 m 188 ls [.int y0, .ref (a 0)])
  refine lv_if_eq (tgt := 204) hx hb d_Mo_answer_188 (by decide) (fun c_188 => ?_) (fun c_188 => ?_)
  · exact (k_204 c_188) H locs ls (lv_sub hl [0, 1, 2, 3, 4] rfl) hP hD hS
  · refine lv_aload_n hx hb d_Mo_answer_191 rfl (lv_at hl 0 rfl) ?_
    refine va_get (D := (dC, dI)) (ci := 4) (v := .int (f 12)) (C := R_Mo) (T := F_Mo) (N := 31) hx hb htz i_Mo hown hK hP 0 rfl rfl 27 (by decide) (htz _ kf_Mo_158) (fun _ h9 => h9) rfl d_Mo_answer_192 ?_
    refine lv_bipush (v := 40) hx hb d_Mo_answer_195 (by decide) ?_
    refine lv_icmp_ne (tgt := 204) hx hb d_Mo_answer_197 (by decide) (fun c_197 => ?_) (fun c_197 => ?_)
    · exact (k_204_1 c_188 c_197) H locs ls (lv_sub hl [0, 1, 2, 3, 4] rfl) hP hD hS
    · refine lv_iconst (v := 2) hx hb d_Mo_answer_200 (by decide) ?_
      refine lv_goto (tgt := 205) hx hb d_Mo_answer_201 (by decide) ?_
      exact (k_205 c_188 c_197) H locs ls (lv_sub hl [0, 1, 2, 3, 4] rfl) hP hD hS
set_option maxHeartbeats 1000000 in
set_option maxRecDepth 100000 in
theorem k_Mo_answer_204 {C : CT} (X : cM C "QuestionTextModel" b_Mo_answer 5 (some .int)) (Post : Int32 → FT → GT → Prop) (x1 : Int32) (x2 : Int32) (x3 : Int32) (x4 : Int32) (f : FT) (g : GT)
    (k_205 : zn_answer C Post 205 [(0, .ref (ad C.1 0)), (1, .int x1), (2, .int x2), (3, .int x3), (4, .int x4)] [.int 0, .ref (ad C.1 0)] f g) : zn_answer C Post 204 [(0, .ref (ad C.1 0)), (1, .int x1), (2, .int x2), (3, .int x3), (4, .int x4)] [.ref (ad C.1 0)] f g := by
  obtain ⟨⟨l, dC, dI, k, a⟩, p, e, s, m, args, below, meth, c, A⟩ := C
  obtain ⟨hx, hb, hr, htz, hown, hlocks, hml, hE, hK, hA⟩ := X
  intro H locs ls hl hP hD hS
  have hl : lv_has ls 5 [(0, .ref (a 0)), (1, .int x1), (2, .int x2), (3, .int x3), (4, .int x4)] := hl
  have hP : va_P (dC, dI) classes (mw k a f g) H := hP
  have hD : va_D A (mw k a f g) := hD
  show W p l e (z_rm 2 0 0) s m args below meth c H locs 0 0 _ (F0 m 204 ls [.ref (a 0)])
  refine lv_iconst (v := 0) hx hb d_Mo_answer_204 (by decide) ?_
  exact k_205 H locs ls (lv_sub hl [0, 1, 2, 3, 4] rfl) hP hD hS
set_option maxHeartbeats 1000000 in
set_option maxRecDepth 100000 in
theorem k_Mo_answer_205 {C : CT} (X : cM C "QuestionTextModel" b_Mo_answer 5 (some .int)) (Post : Int32 → FT → GT → Prop) {P_255 : FT → GT → Prop} (x1 : Int32) (x2 : Int32) (x3 : Int32) (x4 : Int32) (y0 : Int32) (f : FT) (g : GT)
    (h_226 : (y0 ≤ 0) → vp_in (f 10) 61)
    (h_240 : (y0 ≤ 0) → vp_in (x4 + 3) 14640)
    (h_254 : (y0 ≤ 0) → vp_in (x4 + 2) 14640)
    (m_255 : (y0 ≤ 0) → mV C.1 y_Mo_asks (Cond.code y_Mo_asks b_Mo_asks 2 none) 1 [.ref (ad C.1 0), .int (g 8 (x4 + 2 : Int32).toNatClampNeg)] (va_up (va_up f 0 y0) 11 ((f 11) + (g 8 (x4 + 3 : Int32).toNatClampNeg))) (va_up g 16 (upd (g 16) (f 10 : Int32).toNatClampNeg x1)) P_255)
    (k_255 : (y0 ≤ 0) → ∀ (f1 : FT) (g1 : GT), P_255 f1 g1 → zn_answer C Post 258 [(0, .ref (ad C.1 0)), (1, .int x1), (2, .int x2), (3, .int x3), (4, .int x4)] [] f1 g1)
    (q_216 : (¬ y0 ≤ 0) → Post (0) (va_up f 0 y0) g) : zn_answer C Post 205 [(0, .ref (ad C.1 0)), (1, .int x1), (2, .int x2), (3, .int x3), (4, .int x4)] [.int y0, .ref (ad C.1 0)] f g := by
  obtain ⟨⟨l, dC, dI, k, a⟩, p, e, s, m, args, below, meth, c, A⟩ := C
  obtain ⟨hx, hb, hr, htz, hown, hlocks, hml, hE, hK, hA⟩ := X
  intro H locs ls hl hP hD hS
  have hl : lv_has ls 5 [(0, .ref (a 0)), (1, .int x1), (2, .int x2), (3, .int x3), (4, .int x4)] := hl
  have hP : va_P (dC, dI) classes (mw k a f g) H := hP
  have hD : va_D A (mw k a f g) := hD
  show W p l e (z_rm 2 0 0) s m args below meth c H locs 0 0 _ (F0 m 205 ls [.int y0, .ref (a 0)])
  refine va_put (D := (dC, dI)) (ci := 4) (v := .int y0) (ty := .int) (C := R_Mo) (T := F_Mo) (N := 31) hx hb htz i_Mo t_Mo o_Mo n_Mo hown hK hP hD hS 0 rfl rfl 0 (by decide) (htz _ kf_Mo_69) (fun _ h9 => h9) rfl (by decide +kernel) rfl rfl (Nat.le_of_ble_eq_true rfl) d_Mo_answer_205 (fun H locs hP hD hS => ?_)
  replace hP := mf_0 (v := y0) hP
  replace hD := md_0 (v := y0) hD
  refine lv_aload_n hx hb d_Mo_answer_208 rfl (lv_at hl 0 rfl) ?_
  refine va_get (D := (dC, dI)) (ci := 4) (v := .int y0) (C := R_Mo) (T := F_Mo) (N := 31) hx hb htz i_Mo hown hK hP 0 rfl rfl 0 (by decide) (htz _ kf_Mo_69) (fun _ h9 => h9) rfl d_Mo_answer_209 ?_
  refine lv_if_le (tgt := 217) hx hb d_Mo_answer_212 (by decide) (fun c_212 => ?_) (fun c_212 => ?_)
  · refine lv_aload_n hx hb d_Mo_answer_217 rfl (lv_at hl 0 rfl) ?_
    refine va_get (D := (dC, dI)) (ci := 4) (v := .ref (a 17)) (C := R_Mo) (T := F_Mo) (N := 31) hx hb htz i_Mo hown hK hP 0 rfl rfl 29 (by decide) (htz _ kf_Mo_63) (fun _ h9 => h9) rfl d_Mo_answer_218 ?_
    refine lv_aload_n hx hb d_Mo_answer_221 rfl (lv_at hl 0 rfl) ?_
    refine va_get (D := (dC, dI)) (ci := 4) (v := .int (f 10)) (C := R_Mo) (T := F_Mo) (N := 31) hx hb htz i_Mo hown hK hP 0 rfl rfl 25 (by decide) (htz _ kf_Mo_155) (fun _ h9 => h9) rfl d_Mo_answer_222 ?_
    refine lv_iload_n hx hb d_Mo_answer_225 rfl (lv_at hl 1 rfl) ?_
    refine va_iast hx hb hK hP hD hS 17 0 rfl rfl (h_226 c_212) d_Mo_answer_226 (fun H locs hP hD hS => ?_)
    replace hP := mg_16 (c := upd (g 16) (f 10 : Int32).toNatClampNeg x1) hP
    replace hD := mh_16 (c := upd (g 16) (f 10 : Int32).toNatClampNeg x1) hD
    refine lv_aload_n hx hb d_Mo_answer_227 rfl (lv_at hl 0 rfl) ?_
    refine lv_aload_n hx hb d_Mo_answer_228 rfl (lv_at hl 0 rfl) ?_
    refine va_get (D := (dC, dI)) (ci := 4) (v := .int (f 11)) (C := R_Mo) (T := F_Mo) (N := 31) hx hb htz i_Mo hown hK hP 0 rfl rfl 26 (by decide) (htz _ kf_Mo_161) (fun _ h9 => h9) rfl d_Mo_answer_229 ?_
    refine lv_aload_n hx hb d_Mo_answer_232 rfl (lv_at hl 0 rfl) ?_
    refine va_get (D := (dC, dI)) (ci := 4) (v := .ref (a 9)) (C := R_Mo) (T := F_Mo) (N := 31) hx hb htz i_Mo hown hK hP 0 rfl rfl 13 (by decide) (htz _ kf_Mo_39) (fun _ h9 => h9) rfl d_Mo_answer_233 ?_
    refine lv_iload hx hb d_Mo_answer_236 (lv_at hl 4 rfl) ?_
    refine lv_iconst (v := 3) hx hb d_Mo_answer_238 (by decide) ?_
    refine lv_iadd hx hb d_Mo_answer_239 ?_
    refine va_iald hx hb hK hP 9 0 rfl rfl (h_240 c_212) d_Mo_answer_240 ?_
    refine lv_iadd hx hb d_Mo_answer_241 ?_
    refine va_put (D := (dC, dI)) (ci := 4) (v := .int ((f 11) + (g 8 (x4 + 3 : Int32).toNatClampNeg))) (ty := .int) (C := R_Mo) (T := F_Mo) (N := 31) hx hb htz i_Mo t_Mo o_Mo n_Mo hown hK hP hD hS 0 rfl rfl 26 (by decide) (htz _ kf_Mo_161) (fun _ h9 => h9) rfl (by decide +kernel) rfl rfl (Nat.le_of_ble_eq_true rfl) d_Mo_answer_242 (fun H locs hP hD hS => ?_)
    replace hP := mf_11 (v := (f 11) + (g 8 (x4 + 3 : Int32).toNatClampNeg)) hP
    replace hD := md_11 (v := (f 11) + (g 8 (x4 + 3 : Int32).toNatClampNeg)) hD
    refine lv_aload_n hx hb d_Mo_answer_245 rfl (lv_at hl 0 rfl) ?_
    refine lv_aload_n hx hb d_Mo_answer_246 rfl (lv_at hl 0 rfl) ?_
    refine va_get (D := (dC, dI)) (ci := 4) (v := .ref (a 9)) (C := R_Mo) (T := F_Mo) (N := 31) hx hb htz i_Mo hown hK hP 0 rfl rfl 13 (by decide) (htz _ kf_Mo_39) (fun _ h9 => h9) rfl d_Mo_answer_247 ?_
    refine lv_iload hx hb d_Mo_answer_250 (lv_at hl 4 rfl) ?_
    refine lv_iconst (v := 2) hx hb d_Mo_answer_252 (by decide) ?_
    refine lv_iadd hx hb d_Mo_answer_253 ?_
    refine va_iald hx hb hK hP 9 0 rfl rfl (h_254 c_212) d_Mo_answer_254 ?_
    have hFc := va_free (wc := mw k a (va_up (va_up f 0 y0) 11 ((f 11) + (g 8 (x4 + 3 : Int32).toNatClampNeg))) (va_up g 16 (upd (g 16) (f 10 : Int32).toNatClampNeg x1))) hD hS hA [0, 1, 2, 3, 4, 5, 6, 7, 8, 9, 10, 11, 12, 13, 14, 15, 16, 17, 18] rfl
    refine va_callv (va_runV (As := [.int (g 8 (x4 + 2 : Int32).toNatClampNeg)]) (rest := []) ⟨hx, hb, hml, hown, htz⟩ ((m_255 c_212) H.size) (cwV 1 htz (z_gV (fun _ h => h) km_Mo_164 in_Mo_asks se_Mo_asks ini_Mo m_Mo_asks) rfl rfl rfl (by decide +kernel) ⟨(Nat.le_of_ble_eq_true rfl), (Nat.le_of_ble_eq_true rfl)⟩) ⟨z_blind, va_recv hK hP (ci := 4) (q0 := 0) rfl rfl, fun U hU hW => ⟨rfl, by rw [hU], hE.call hS hFc hU hW, by rw [hU]; exact hP, va_K.moved hW.alike hK, hD.weaken (fun _ _ _ _ => trivial)⟩⟩ rfl rfl hl.1 rfl (lv_room (Nat.le_of_ble_eq_true rfl)) d_Mo_answer_255 ⟨(Nat.le_of_ble_eq_true rfl), (Nat.le_of_ble_eq_true rfl)⟩) hS (fun q _ h => hFc q h) hFc (fun u t H1 locs ht hvm hw hB hz1 hk1 hS => ?_)
    obtain ⟨hP1, hK1, hD1⟩ := hB
    rw [ht] at hP1
    exact (k_255 c_212) _ _ hw H1 locs ls (lv_sub hl [0, 1, 2, 3, 4] rfl) hP1 (hD1.weaken (fun _ q _ h => hFc _ h)) hS
  · refine lv_iconst (v := 0) hx hb d_Mo_answer_215 (by decide) ?_
    exact W.iret (v := 0) hx hb hr (fun t ht hW => ⟨⟨_, (va_up f 0 y0, g), rfl, (q_216 c_212), by rw [ht]; exact hP, va_K.moved hW.alike hK, hD⟩, hS.F ht⟩) hS.2.2 d_Mo_answer_216
set_option maxHeartbeats 1000000 in
set_option maxRecDepth 100000 in
theorem k_Mo_answer_258 {C : CT} (X : cM C "QuestionTextModel" b_Mo_answer 5 (some .int)) (Post : Int32 → FT → GT → Prop) (x1 : Int32) (x2 : Int32) (x3 : Int32) (x4 : Int32) (f : FT) (g : GT)
    (q_262 : Post (f 10) f g) : zn_answer C Post 258 [(0, .ref (ad C.1 0)), (1, .int x1), (2, .int x2), (3, .int x3), (4, .int x4)] [] f g := by
  obtain ⟨⟨l, dC, dI, k, a⟩, p, e, s, m, args, below, meth, c, A⟩ := C
  obtain ⟨hx, hb, hr, htz, hown, hlocks, hml, hE, hK, hA⟩ := X
  intro H locs ls hl hP hD hS
  have hl : lv_has ls 5 [(0, .ref (a 0)), (1, .int x1), (2, .int x2), (3, .int x3), (4, .int x4)] := hl
  have hP : va_P (dC, dI) classes (mw k a f g) H := hP
  have hD : va_D A (mw k a f g) := hD
  show W p l e (z_rm 2 0 0) s m args below meth c H locs 0 0 _ (F0 m 258 ls [])
  refine lv_aload_n hx hb d_Mo_answer_258 rfl (lv_at hl 0 rfl) ?_
  refine va_get (D := (dC, dI)) (ci := 4) (v := .int (f 10)) (C := R_Mo) (T := F_Mo) (N := 31) hx hb htz i_Mo hown hK hP 0 rfl rfl 25 (by decide) (htz _ kf_Mo_155) (fun _ h9 => h9) rfl d_Mo_answer_259 ?_
  exact W.iret (v := f 10) hx hb hr (fun t ht hW => ⟨⟨_, (f, g), rfl, q_262, by rw [ht]; exact hP, va_K.moved hW.alike hK, hD⟩, hS.F ht⟩) hS.2.2 d_Mo_answer_262
set_option maxHeartbeats 1000000 in
set_option maxRecDepth 100000 in
theorem e_Mo_answer (T : ST) (Post : Int32 → FT → GT → Prop) (x1 : Int32) (f : FT) (g : GT) (h : ∀ C : CT, C.1 = T → cM C "QuestionTextModel" b_Mo_answer 5 (some .int) → zn_answer C Post 0 [(0, .ref (ad C.1 0)), (1, .int x1)] [] f g) : mI T y_Mo_answer (Cond.code y_Mo_answer b_Mo_answer 5 (some .int)) 2 [.ref (ad T 0), .int x1] f g Post := by
  obtain ⟨l, dC, dI, k, a⟩ := T
  intro sz
  refine Met.ofW (cc := b_Mo_answer) (maxL := 5) (ret := (some .int)) (by decide) rfl ?_
  intro p e s m args below meth c s₁ B hml hv
  obtain ⟨rfl, hsz, hE, hP, hK, hD0⟩ := hv
  have hts := atoms_spec (ws := (Cond.code y_Mo_answer b_Mo_answer 5 (some .int)) :: z_T) B.pre
  have htz : ∀ w ∈ z_T, w.before _ s = true := fun w h => hts w (z_cons w h)
  subst hsz
  have hD := hD0.self (sz := s.heap.size)
  generalize hAe : va_A (mw k a f g) s.heap.size = A at hD hE ⊢
  have hA : ∀ q : Nat, s.heap.size ≤ q → A q := fun q h => by rw [← hAe]; exact Or.inr h
  have hl := lv_entry ([.ref (a 0), .int x1]) (n := 5) (Nat.le_of_ble_eq_true rfl)
  rw [lg_entry_eq]
  generalize (lg_sl ([.ref (a 0), .int x1]) ++ List.replicate (5 - (lg_sl ([.ref (a 0), .int x1])).length) Slot.unset).toArray = ls at hl ⊢
  exact h ((l, dC, dI, k, a), p, e, s, m, ([.ref (a 0), .int x1] : List Value).toArray, below, meth, c, A) rfl ⟨B.exec, B.bytes, B.returns, htz, findClass_of_methodNamed B.named, B.notSynchronized, hml, hE, hK, hA⟩ s.heap [] ls hl hP hD va_S.rf
def zn_holds (C : CT) (Post : Int32 → FT → GT → Prop) (pc : Nat) (loc : List (Nat × Value)) (st : List Value) (f : FT) (g : GT) : Prop := zW C (z_rm 0 0 0) 4 (qI C Post) 0 0 pc loc st (mM C.1 f g)
set_option maxHeartbeats 1000000 in
set_option maxRecDepth 100000 in
theorem k_Mo_holds_0 {C : CT} (X : cM C "QuestionTextModel" b_Mo_holds 4 (some .boolean)) (Post : Int32 → FT → GT → Prop) (x1 : Int32) (f : FT) (g : GT)
    (h_5 : vp_in (x1) 8400)
    (h_25 : (¬ g 12 (x1 : Int32).toNatClampNeg = 0) → vp_in (x1) 8400)
    (h_26 : (¬ g 12 (x1 : Int32).toNatClampNeg = 0) → vp_in (g 12 (x1 : Int32).toNatClampNeg) 61)
    (k_27 : (¬ g 12 (x1 : Int32).toNatClampNeg = 0) → zn_holds C Post 27 [(0, .ref (ad C.1 0)), (1, .int x1)] [.int (g 16 (g 12 (x1 : Int32).toNatClampNeg : Int32).toNatClampNeg)] f g)
    (k_27_1 : (g 12 (x1 : Int32).toNatClampNeg = 0) → zn_holds C Post 27 [(0, .ref (ad C.1 0)), (1, .int x1)] [.int (f 11)] f g) : zn_holds C Post 0 [(0, .ref (ad C.1 0)), (1, .int x1)] [] f g := by
  obtain ⟨⟨l, dC, dI, k, a⟩, p, e, s, m, args, below, meth, c, A⟩ := C
  obtain ⟨hx, hb, hr, htz, hown, hlocks, hml, hE, hK, hA⟩ := X
  intro H locs ls hl hP hD hS
  have hl : lv_has ls 4 [(0, .ref (a 0)), (1, .int x1)] := hl
  have hP : va_P (dC, dI) classes (mw k a f g) H := hP
  have hD : va_D A (mw k a f g) := hD
  show W p l e (z_rm 0 0 0) s m args below meth c H locs 0 0 _ (F0 m 0 ls [])
  refine lv_aload_n hx hb d_Mo_holds_0 rfl (lv_at hl 0 rfl) ?_
  refine va_get (D := (dC, dI)) (ci := 4) (v := .ref (a 13)) (C := R_Mo) (T := F_Mo) (N := 31) hx hb htz i_Mo hown hK hP 0 rfl rfl 17 (by decide) (htz _ kf_Mo_51) (fun _ h9 => h9) rfl d_Mo_holds_1 ?_
  refine lv_iload_n hx hb d_Mo_holds_4 rfl (lv_at hl 1 rfl) ?_
  refine va_iald hx hb hK hP 13 0 rfl rfl h_5 d_Mo_holds_5 ?_
  refine lv_if_ne (tgt := 16) hx hb d_Mo_holds_6 (by decide) (fun c_6 => ?_) (fun c_6 => ?_)
  · refine lv_aload_n hx hb d_Mo_holds_16 rfl (lv_at hl 0 rfl) ?_
    refine va_get (D := (dC, dI)) (ci := 4) (v := .ref (a 17)) (C := R_Mo) (T := F_Mo) (N := 31) hx hb htz i_Mo hown hK hP 0 rfl rfl 29 (by decide) (htz _ kf_Mo_63) (fun _ h9 => h9) rfl d_Mo_holds_17 ?_
    refine lv_aload_n hx hb d_Mo_holds_20 rfl (lv_at hl 0 rfl) ?_
    refine va_get (D := (dC, dI)) (ci := 4) (v := .ref (a 13)) (C := R_Mo) (T := F_Mo) (N := 31) hx hb htz i_Mo hown hK hP 0 rfl rfl 17 (by decide) (htz _ kf_Mo_51) (fun _ h9 => h9) rfl d_Mo_holds_21 ?_
    refine lv_iload_n hx hb d_Mo_holds_24 rfl (lv_at hl 1 rfl) ?_
    refine va_iald hx hb hK hP 13 0 rfl rfl (h_25 c_6) d_Mo_holds_25 ?_
    refine va_iald hx hb hK hP 17 0 rfl rfl (h_26 c_6) d_Mo_holds_26 ?_
    exact (k_27 c_6) H locs ls (lv_sub hl [0, 1] rfl) hP hD hS
  · refine lv_aload_n hx hb d_Mo_holds_9 rfl (lv_at hl 0 rfl) ?_
    refine va_get (D := (dC, dI)) (ci := 4) (v := .int (f 11)) (C := R_Mo) (T := F_Mo) (N := 31) hx hb htz i_Mo hown hK hP 0 rfl rfl 26 (by decide) (htz _ kf_Mo_161) (fun _ h9 => h9) rfl d_Mo_holds_10 ?_
    refine lv_goto (tgt := 27) hx hb d_Mo_holds_13 (by decide) ?_
    exact (k_27_1 c_6) H locs ls (lv_sub hl [0, 1] rfl) hP hD hS
set_option maxHeartbeats 1000000 in
set_option maxRecDepth 100000 in
theorem k_Mo_holds_27 {C : CT} (X : cM C "QuestionTextModel" b_Mo_holds 4 (some .boolean)) (Post : Int32 → FT → GT → Prop) (x1 : Int32) (y0 : Int32) (f : FT) (g : GT)
    (h_33 : vp_in (x1) 8400)
    (k_43 : (g 12 (x1 : Int32).toNatClampNeg ≤ 0) → zn_holds C Post 43 [(0, .ref (ad C.1 0)), (1, .int x1), (2, .int y0)] [] f g)
    (k_43_1 : (¬ g 12 (x1 : Int32).toNatClampNeg ≤ 0) → (0 ≤ y0) → zn_holds C Post 43 [(0, .ref (ad C.1 0)), (1, .int x1), (2, .int y0)] [] f g)
    (q_42 : (¬ g 12 (x1 : Int32).toNatClampNeg ≤ 0) → (¬ 0 ≤ y0) → Post (0) f g) : zn_holds C Post 27 [(0, .ref (ad C.1 0)), (1, .int x1)] [.int y0] f g := by
  obtain ⟨⟨l, dC, dI, k, a⟩, p, e, s, m, args, below, meth, c, A⟩ := C
  obtain ⟨hx, hb, hr, htz, hown, hlocks, hml, hE, hK, hA⟩ := X
  intro H locs ls hl hP hD hS
  have hl : lv_has ls 4 [(0, .ref (a 0)), (1, .int x1)] := hl
  have hP : va_P (dC, dI) classes (mw k a f g) H := hP
  have hD : va_D A (mw k a f g) := hD
  show W p l e (z_rm 0 0 0) s m args below meth c H locs 0 0 _ (F0 m 27 ls [.int y0])
  refine lv_istore_n (lv' := [(2, .int y0), (0, .ref (a 0)), (1, .int x1)]) hx hb d_Mo_holds_27 rfl hl (by decide) rfl (fun ls hl => ?_)
  refine lv_aload_n hx hb d_Mo_holds_28 rfl (lv_at hl 1 rfl) ?_
  refine va_get (D := (dC, dI)) (ci := 4) (v := .ref (a 13)) (C := R_Mo) (T := F_Mo) (N := 31) hx hb htz i_Mo hown hK hP 0 rfl rfl 17 (by decide) (htz _ kf_Mo_51) (fun _ h9 => h9) rfl d_Mo_holds_29 ?_
  refine lv_iload_n hx hb d_Mo_holds_32 rfl (lv_at hl 2 rfl) ?_
  refine va_iald hx hb hK hP 13 0 rfl rfl h_33 d_Mo_holds_33 ?_
  refine lv_if_le (tgt := 43) hx hb d_Mo_holds_34 (by decide) (fun c_34 => ?_) (fun c_34 => ?_)
  · exact (k_43 c_34) H locs ls (lv_sub hl [1, 2, 0] rfl) hP hD hS
  · refine lv_iload_n hx hb d_Mo_holds_37 rfl (lv_at hl 0 rfl) ?_
    refine lv_if_ge (tgt := 43) hx hb d_Mo_holds_38 (by decide) (fun c_38 => ?_) (fun c_38 => ?_)
    · exact (k_43_1 c_34 c_38) H locs ls (lv_sub hl [1, 2, 0] rfl) hP hD hS
    · refine lv_iconst (v := 0) hx hb d_Mo_holds_41 (by decide) ?_
      exact W.zret (v := 0) (ty := .boolean) hx hb hr rfl (fun t ht hW => ⟨⟨_, (f, g), rfl, (q_42 c_34 c_38), by rw [ht]; exact hP, va_K.moved hW.alike hK, hD⟩, hS.F ht⟩) hS.2.2 d_Mo_holds_42
set_option maxHeartbeats 1000000 in
set_option maxRecDepth 100000 in
theorem k_Mo_holds_43 {C : CT} (X : cM C "QuestionTextModel" b_Mo_holds 4 (some .boolean)) (Post : Int32 → FT → GT → Prop) (x1 : Int32) (x2 : Int32) (f : FT) (g : GT)
    (h_50 : vp_in (x1 + 1) 8400)
    (h_112 : (¬ g 12 (x1 + 1 : Int32).toNatClampNeg = 61) → (¬ g 12 (x1 + 1 : Int32).toNatClampNeg = 60) → vp_in (x1 + 2) 8400)
    (k_121 : (¬ g 12 (x1 + 1 : Int32).toNatClampNeg = 61) → (¬ g 12 (x1 + 1 : Int32).toNatClampNeg = 60) → (x2 ≤ g 12 (x1 + 2 : Int32).toNatClampNeg) → zn_holds C Post 121 [(0, .ref (ad C.1 0)), (1, .int x1), (2, .int x2), (3, .int (g 12 (x1 + 1 : Int32).toNatClampNeg))] [.int 0] f g)
    (k_121_1 : (¬ g 12 (x1 + 1 : Int32).toNatClampNeg = 61) → (¬ g 12 (x1 + 1 : Int32).toNatClampNeg = 60) → (¬ x2 ≤ g 12 (x1 + 2 : Int32).toNatClampNeg) → zn_holds C Post 121 [(0, .ref (ad C.1 0)), (1, .int x1), (2, .int x2), (3, .int (g 12 (x1 + 1 : Int32).toNatClampNeg))] [.int 1] f g)
    (h_92 : (¬ g 12 (x1 + 1 : Int32).toNatClampNeg = 61) → (g 12 (x1 + 1 : Int32).toNatClampNeg = 60) → vp_in (x1 + 2) 8400)
    (k_121_2 : (¬ g 12 (x1 + 1 : Int32).toNatClampNeg = 61) → (g 12 (x1 + 1 : Int32).toNatClampNeg = 60) → (g 12 (x1 + 2 : Int32).toNatClampNeg ≤ x2) → zn_holds C Post 121 [(0, .ref (ad C.1 0)), (1, .int x1), (2, .int x2), (3, .int (g 12 (x1 + 1 : Int32).toNatClampNeg))] [.int 0] f g)
    (k_121_3 : (¬ g 12 (x1 + 1 : Int32).toNatClampNeg = 61) → (g 12 (x1 + 1 : Int32).toNatClampNeg = 60) → (¬ g 12 (x1 + 2 : Int32).toNatClampNeg ≤ x2) → zn_holds C Post 121 [(0, .ref (ad C.1 0)), (1, .int x1), (2, .int x2), (3, .int (g 12 (x1 + 1 : Int32).toNatClampNeg))] [.int 1] f g)
    (h_66 : (g 12 (x1 + 1 : Int32).toNatClampNeg = 61) → vp_in (x1 + 2) 8400)
    (k_121_4 : (g 12 (x1 + 1 : Int32).toNatClampNeg = 61) → (¬ x2 = g 12 (x1 + 2 : Int32).toNatClampNeg) → zn_holds C Post 121 [(0, .ref (ad C.1 0)), (1, .int x1), (2, .int x2), (3, .int (g 12 (x1 + 1 : Int32).toNatClampNeg))] [.int 0] f g)
    (k_121_5 : (g 12 (x1 + 1 : Int32).toNatClampNeg = 61) → (x2 = g 12 (x1 + 2 : Int32).toNatClampNeg) → zn_holds C Post 121 [(0, .ref (ad C.1 0)), (1, .int x1), (2, .int x2), (3, .int (g 12 (x1 + 1 : Int32).toNatClampNeg))] [.int 1] f g) : zn_holds C Post 43 [(0, .ref (ad C.1 0)), (1, .int x1), (2, .int x2)] [] f g := by
  obtain ⟨⟨l, dC, dI, k, a⟩, p, e, s, m, args, below, meth, c, A⟩ := C
  obtain ⟨hx, hb, hr, htz, hown, hlocks, hml, hE, hK, hA⟩ := X
  intro H locs ls hl hP hD hS
  have hl : lv_has ls 4 [(0, .ref (a 0)), (1, .int x1), (2, .int x2)] := hl
  have hP : va_P (dC, dI) classes (mw k a f g) H := hP
  have hD : va_D A (mw k a f g) := hD
  show W p l e (z_rm 0 0 0) s m args below meth c H locs 0 0 _ (F0 m 43 ls [])
  refine lv_aload_n hx hb d_Mo_holds_43 rfl (lv_at hl 0 rfl) ?_
  refine va_get (D := (dC, dI)) (ci := 4) (v := .ref (a 13)) (C := R_Mo) (T := F_Mo) (N := 31) hx hb htz i_Mo hown hK hP 0 rfl rfl 17 (by decide) (htz _ kf_Mo_51) (fun _ h9 => h9) rfl d_Mo_holds_44 ?_
  refine lv_iload_n hx hb d_Mo_holds_47 rfl (lv_at hl 1 rfl) ?_
  refine lv_iconst (v := 1) hx hb d_Mo_holds_48 (by decide) ?_
  refine lv_iadd hx hb d_Mo_holds_49 ?_
  refine va_iald hx hb hK hP 13 0 rfl rfl h_50 d_Mo_holds_50 ?_
  refine lv_istore_n (lv' := [(3, .int (g 12 (x1 + 1 : Int32).toNatClampNeg)), (0, .ref (a 0)), (1, .int x1), (2, .int x2)]) hx hb d_Mo_holds_51 rfl hl (by decide) rfl (fun ls hl => ?_)
  refine lv_iload_n hx hb d_Mo_holds_52 rfl (lv_at hl 0 rfl) ?_
  refine lv_bipush (v := 61) hx hb d_Mo_holds_53 (by decide) ?_
  refine lv_icmp_ne (tgt := 78) hx hb d_Mo_holds_55 (by decide) (fun c_55 => ?_) (fun c_55 => ?_)
  · refine lv_iload_n hx hb d_Mo_holds_78 rfl (lv_at hl 0 rfl) ?_
    refine lv_bipush (v := 60) hx hb d_Mo_holds_79 (by decide) ?_
    refine lv_icmp_ne (tgt := 104) hx hb d_Mo_holds_81 (by decide) (fun c_81 => ?_) (fun c_81 => ?_)
    · refine lv_iload_n hx hb d_Mo_holds_104 rfl (lv_at hl 3 rfl) ?_
      refine lv_aload_n hx hb d_Mo_holds_105 rfl (lv_at hl 1 rfl) ?_
      refine va_get (D := (dC, dI)) (ci := 4) (v := .ref (a 13)) (C := R_Mo) (T := F_Mo) (N := 31) hx hb htz i_Mo hown hK hP 0 rfl rfl 17 (by decide) (htz _ kf_Mo_51) (fun _ h9 => h9) rfl d_Mo_holds_106 ?_
      refine lv_iload_n hx hb d_Mo_holds_109 rfl (lv_at hl 2 rfl) ?_
      refine lv_iconst (v := 2) hx hb d_Mo_holds_110 (by decide) ?_
      refine lv_iadd hx hb d_Mo_holds_111 ?_
      refine va_iald hx hb hK hP 13 0 rfl rfl (h_112 c_55 c_81) d_Mo_holds_112 ?_
      refine lv_icmp_le (tgt := 120) hx hb d_Mo_holds_113 (by decide) (fun c_113 => ?_) (fun c_113 => ?_)
      · refine lv_iconst (v := 0) hx hb d_Mo_holds_120 (by decide) ?_
        exact (k_121 c_55 c_81 c_113) H locs ls (lv_sub hl [1, 2, 3, 0] rfl) hP hD hS
      · refine lv_iconst (v := 1) hx hb d_Mo_holds_116 (by decide) ?_
        refine lv_goto (tgt := 121) hx hb d_Mo_holds_117 (by decide) ?_
        exact (k_121_1 c_55 c_81 c_113) H locs ls (lv_sub hl [1, 2, 3, 0] rfl) hP hD hS
    · refine lv_iload_n hx hb d_Mo_holds_84 rfl (lv_at hl 3 rfl) ?_
      refine lv_aload_n hx hb d_Mo_holds_85 rfl (lv_at hl 1 rfl) ?_
      refine va_get (D := (dC, dI)) (ci := 4) (v := .ref (a 13)) (C := R_Mo) (T := F_Mo) (N := 31) hx hb htz i_Mo hown hK hP 0 rfl rfl 17 (by decide) (htz _ kf_Mo_51) (fun _ h9 => h9) rfl d_Mo_holds_86 ?_
      refine lv_iload_n hx hb d_Mo_holds_89 rfl (lv_at hl 2 rfl) ?_
      refine lv_iconst (v := 2) hx hb d_Mo_holds_90 (by decide) ?_
      refine lv_iadd hx hb d_Mo_holds_91 ?_
      refine va_iald hx hb hK hP 13 0 rfl rfl (h_92 c_55 c_81) d_Mo_holds_92 ?_
      refine lv_icmp_ge (tgt := 100) hx hb d_Mo_holds_93 (by decide) (fun c_93 => ?_) (fun c_93 => ?_)
      · refine lv_iconst (v := 0) hx hb d_Mo_holds_100 (by decide) ?_
        refine lv_goto (tgt := 121) hx hb d_Mo_holds_101 (by decide) ?_
        exact (k_121_2 c_55 c_81 c_93) H locs ls (lv_sub hl [1, 2, 3, 0] rfl) hP hD hS
      · refine lv_iconst (v := 1) hx hb d_Mo_holds_96 (by decide) ?_
        refine lv_goto (tgt := 121) hx hb d_Mo_holds_97 (by decide) ?_
        exact (k_121_3 c_55 c_81 c_93) H locs ls (lv_sub hl [1, 2, 3, 0] rfl) hP hD hS
  · refine lv_iload_n hx hb d_Mo_holds_58 rfl (lv_at hl 3 rfl) ?_
    refine lv_aload_n hx hb d_Mo_holds_59 rfl (lv_at hl 1 rfl) ?_
    refine va_get (D := (dC, dI)) (ci := 4) (v := .ref (a 13)) (C := R_Mo) (T := F_Mo) (N := 31) hx hb htz i_Mo hown hK hP 0 rfl rfl 17 (by decide) (htz _ kf_Mo_51) (fun _ h9 => h9) rfl d_Mo_holds_60 ?_
    refine lv_iload_n hx hb d_Mo_holds_63 rfl (lv_at hl 2 rfl) ?_
    refine lv_iconst (v := 2) hx hb d_Mo_holds_64 (by decide) ?_
    refine lv_iadd hx hb d_Mo_holds_65 ?_
    refine va_iald hx hb hK hP 13 0 rfl rfl (h_66 c_55) d_Mo_holds_66 ?_
    refine lv_icmp_ne (tgt := 74) hx hb d_Mo_holds_67 (by decide) (fun c_67 => ?_) (fun c_67 => ?_)
    · refine lv_iconst (v := 0) hx hb d_Mo_holds_74 (by decide) ?_
      refine lv_goto (tgt := 121) hx hb d_Mo_holds_75 (by decide) ?_
      exact (k_121_4 c_55 c_67) H locs ls (lv_sub hl [1, 2, 3, 0] rfl) hP hD hS
    · refine lv_iconst (v := 1) hx hb d_Mo_holds_70 (by decide) ?_
      refine lv_goto (tgt := 121) hx hb d_Mo_holds_71 (by decide) ?_
      exact (k_121_5 c_55 c_67) H locs ls (lv_sub hl [1, 2, 3, 0] rfl) hP hD hS
set_option maxHeartbeats 1000000 in
set_option maxRecDepth 100000 in
theorem k_Mo_holds_121 {C : CT} (X : cM C "QuestionTextModel" b_Mo_holds 4 (some .boolean)) (Post : Int32 → FT → GT → Prop) (x1 : Int32) (x2 : Int32) (x3 : Int32) (y0 : Int32) (f : FT) (g : GT)
    (q_121 : Post (y0) f g)
    (z_121 : narrow .boolean (.int (y0)) = .int (y0)) : zn_holds C Post 121 [(0, .ref (ad C.1 0)), (1, .int x1), (2, .int x2), (3, .int x3)] [.int y0] f g := by
  obtain ⟨⟨l, dC, dI, k, a⟩, p, e, s, m, args, below, meth, c, A⟩ := C
  obtain ⟨hx, hb, hr, htz, hown, hlocks, hml, hE, hK, hA⟩ := X
  intro H locs ls hl hP hD hS
  have hl : lv_has ls 4 [(0, .ref (a 0)), (1, .int x1), (2, .int x2), (3, .int x3)] := hl
  have hP : va_P (dC, dI) classes (mw k a f g) H := hP
  have hD : va_D A (mw k a f g) := hD
  show W p l e (z_rm 0 0 0) s m args below meth c H locs 0 0 _ (F0 m 121 ls [.int y0])
  exact W.zret (v := y0) (ty := .boolean) hx hb hr z_121 (fun t ht hW => ⟨⟨_, (f, g), rfl, q_121, by rw [ht]; exact hP, va_K.moved hW.alike hK, hD⟩, hS.F ht⟩) hS.2.2 d_Mo_holds_121
set_option maxHeartbeats 1000000 in
set_option maxRecDepth 100000 in
theorem e_Mo_holds (T : ST) (Post : Int32 → FT → GT → Prop) (x1 : Int32) (f : FT) (g : GT) (h : ∀ C : CT, C.1 = T → cM C "QuestionTextModel" b_Mo_holds 4 (some .boolean) → zn_holds C Post 0 [(0, .ref (ad C.1 0)), (1, .int x1)] [] f g) : mI T y_Mo_holds (Cond.code y_Mo_holds b_Mo_holds 4 (some .boolean)) 0 [.ref (ad T 0), .int x1] f g Post := by
  obtain ⟨l, dC, dI, k, a⟩ := T
  intro sz
  refine Met.ofW (cc := b_Mo_holds) (maxL := 4) (ret := (some .boolean)) (by decide) rfl ?_
  intro p e s m args below meth c s₁ B hml hv
  obtain ⟨rfl, hsz, hE, hP, hK, hD0⟩ := hv
  have hts := atoms_spec (ws := (Cond.code y_Mo_holds b_Mo_holds 4 (some .boolean)) :: z_T) B.pre
  have htz : ∀ w ∈ z_T, w.before _ s = true := fun w h => hts w (z_cons w h)
  subst hsz
  have hD := hD0.self (sz := s.heap.size)
  generalize hAe : va_A (mw k a f g) s.heap.size = A at hD hE ⊢
  have hA : ∀ q : Nat, s.heap.size ≤ q → A q := fun q h => by rw [← hAe]; exact Or.inr h
  have hl := lv_entry ([.ref (a 0), .int x1]) (n := 4) (Nat.le_of_ble_eq_true rfl)
  rw [lg_entry_eq]
  generalize (lg_sl ([.ref (a 0), .int x1]) ++ List.replicate (4 - (lg_sl ([.ref (a 0), .int x1])).length) Slot.unset).toArray = ls at hl ⊢
  exact h ((l, dC, dI, k, a), p, e, s, m, ([.ref (a 0), .int x1] : List Value).toArray, below, meth, c, A) rfl ⟨B.exec, B.bytes, B.returns, htz, findClass_of_methodNamed B.named, B.notSynchronized, hml, hE, hK, hA⟩ s.heap [] ls hl hP hD va_S.rf
def zn_priority (C : CT) (Post : Int32 → FT → GT → Prop) (pc : Nat) (loc : List (Nat × Value)) (st : List Value) (f : FT) (g : GT) : Prop := zW C (z_rm 1 0 0) 6 (qI C Post) 0 0 pc loc st (mM C.1 f g)
set_option maxHeartbeats 1000000 in
set_option maxRecDepth 100000 in
theorem k_Mo_priority_0 {C : CT} (X : cM C "QuestionTextModel" b_Mo_priority 6 (some .int)) (Post : Int32 → FT → GT → Prop) (f : FT) (g : GT)
    (k_13 : (¬ f 9 = 0) → zn_priority C Post 13 [(0, .ref (ad C.1 0))] [.int 0, .ref (ad C.1 0)] f g)
    (k_13_1 : (f 9 = 0) → zn_priority C Post 13 [(0, .ref (ad C.1 0))] [.int 1, .ref (ad C.1 0)] f g) : zn_priority C Post 0 [(0, .ref (ad C.1 0))] [] f g := by
  obtain ⟨⟨l, dC, dI, k, a⟩, p, e, s, m, args, below, meth, c, A⟩ := C
  obtain ⟨hx, hb, hr, htz, hown, hlocks, hml, hE, hK, hA⟩ := X
  intro H locs ls hl hP hD hS
  have hl : lv_has ls 6 [(0, .ref (a 0))] := hl
  have hP : va_P (dC, dI) classes (mw k a f g) H := hP
  have hD : va_D A (mw k a f g) := hD
  show W p l e (z_rm 1 0 0) s m args below meth c H locs 0 0 _ (F0 m 0 ls [])
  refine lv_aload_n hx hb d_Mo_priority_0 rfl (lv_at hl 0 rfl) ?_
  refine lv_aload_n hx hb d_Mo_priority_1 rfl (lv_at hl 0 rfl) ?_
  refine va_get (D := (dC, dI)) (ci := 4) (v := .int (f 9)) (C := R_Mo) (T := F_Mo) (N := 31) hx hb htz i_Mo hown hK hP 0 rfl rfl 24 (by decide) (htz _ kf_Mo_141) (fun _ h9 => h9) rfl d_Mo_priority_2 ?_
  refine lv_if_ne (tgt := 12) hx hb d_Mo_priority_5 (by decide) (fun c_5 => ?_) (fun c_5 => ?_)
  · refine lv_iconst (v := 0) hx hb d_Mo_priority_12 (by decide) ?_
    exact (k_13 c_5) H locs ls (lv_sub hl [0] rfl) hP hD hS
  · refine lv_iconst (v := 1) hx hb d_Mo_priority_8 (by decide) ?_
    refine lv_goto (tgt := 13) hx hb d_Mo_priority_9 (by decide) ?_
    exact (k_13_1 c_5) H locs ls (lv_sub hl [0] rfl) hP hD hS
set_option maxHeartbeats 1000000 in
set_option maxRecDepth 100000 in
theorem k_Mo_priority_13 {C : CT} (X : cM C "QuestionTextModel" b_Mo_priority 6 (some .int)) (Post : Int32 → FT → GT → Prop) (y0 : Int32) (f : FT) (g : GT)
    (k_40 : (y0 ≤ 0) → zn_priority C Post 40 [(0, .ref (ad C.1 0)), (1, .int (((f 4) * 10) + (f 9))), (2, .int 0)] [] (va_up f 0 y0) g)
    (q_24 : (¬ y0 ≤ 0) → Post (0) (va_up f 0 y0) g) : zn_priority C Post 13 [(0, .ref (ad C.1 0))] [.int y0, .ref (ad C.1 0)] f g := by
  obtain ⟨⟨l, dC, dI, k, a⟩, p, e, s, m, args, below, meth, c, A⟩ := C
  obtain ⟨hx, hb, hr, htz, hown, hlocks, hml, hE, hK, hA⟩ := X
  intro H locs ls hl hP hD hS
  have hl : lv_has ls 6 [(0, .ref (a 0))] := hl
  have hP : va_P (dC, dI) classes (mw k a f g) H := hP
  have hD : va_D A (mw k a f g) := hD
  show W p l e (z_rm 1 0 0) s m args below meth c H locs 0 0 _ (F0 m 13 ls [.int y0, .ref (a 0)])
  refine va_put (D := (dC, dI)) (ci := 4) (v := .int y0) (ty := .int) (C := R_Mo) (T := F_Mo) (N := 31) hx hb htz i_Mo t_Mo o_Mo n_Mo hown hK hP hD hS 0 rfl rfl 0 (by decide) (htz _ kf_Mo_69) (fun _ h9 => h9) rfl (by decide +kernel) rfl rfl (Nat.le_of_ble_eq_true rfl) d_Mo_priority_13 (fun H locs hP hD hS => ?_)
  replace hP := mf_0 (v := y0) hP
  replace hD := md_0 (v := y0) hD
  refine lv_aload_n hx hb d_Mo_priority_16 rfl (lv_at hl 0 rfl) ?_
  refine va_get (D := (dC, dI)) (ci := 4) (v := .int y0) (C := R_Mo) (T := F_Mo) (N := 31) hx hb htz i_Mo hown hK hP 0 rfl rfl 0 (by decide) (htz _ kf_Mo_69) (fun _ h9 => h9) rfl d_Mo_priority_17 ?_
  refine lv_if_le (tgt := 25) hx hb d_Mo_priority_20 (by decide) (fun c_20 => ?_) (fun c_20 => ?_)
  · refine lv_aload_n hx hb d_Mo_priority_25 rfl (lv_at hl 0 rfl) ?_
    refine va_get (D := (dC, dI)) (ci := 4) (v := .int (f 4)) (C := R_Mo) (T := F_Mo) (N := 31) hx hb htz i_Mo hown hK hP 0 rfl rfl 5 (by decide) (htz _ kf_Mo_126) (fun _ h9 => h9) rfl d_Mo_priority_26 ?_
    refine lv_bipush (v := 10) hx hb d_Mo_priority_29 (by decide) ?_
    refine lv_imul hx hb d_Mo_priority_31 ?_
    refine lv_aload_n hx hb d_Mo_priority_32 rfl (lv_at hl 0 rfl) ?_
    refine va_get (D := (dC, dI)) (ci := 4) (v := .int (f 9)) (C := R_Mo) (T := F_Mo) (N := 31) hx hb htz i_Mo hown hK hP 0 rfl rfl 24 (by decide) (htz _ kf_Mo_141) (fun _ h9 => h9) rfl d_Mo_priority_33 ?_
    refine lv_iadd hx hb d_Mo_priority_36 ?_
    refine lv_istore_n (lv' := [(1, .int (((f 4) * 10) + (f 9))), (0, .ref (a 0))]) hx hb d_Mo_priority_37 rfl hl (by decide) rfl (fun ls hl => ?_)
    refine lv_iconst (v := 0) hx hb d_Mo_priority_38 (by decide) ?_
    refine lv_istore_n (lv' := [(2, .int 0), (1, .int (((f 4) * 10) + (f 9))), (0, .ref (a 0))]) hx hb d_Mo_priority_39 rfl hl (by decide) rfl (fun ls hl => ?_)
    exact (k_40 c_20) H locs ls (lv_sub hl [2, 1, 0] rfl) hP hD hS
  · refine lv_iconst (v := 0) hx hb d_Mo_priority_23 (by decide) ?_
    exact W.iret (v := 0) hx hb hr (fun t ht hW => ⟨⟨_, (va_up f 0 y0, g), rfl, (q_24 c_20), by rw [ht]; exact hP, va_K.moved hW.alike hK, hD⟩, hS.F ht⟩) hS.2.2 d_Mo_priority_24
set_option maxHeartbeats 1000000 in
set_option maxRecDepth 100000 in
theorem k_Mo_priority_40 {C : CT} (X : cM C "QuestionTextModel" b_Mo_priority 6 (some .int)) (Post : Int32 → FT → GT → Prop) (x1 : Int32) (x2 : Int32) (f : FT) (g : GT)
    (h_46 : vp_in (x1) 100)
    (h_135 : (g 11 (x1 : Int32).toNatClampNeg ≤ x2) → vp_in (x1) 100)
    (q_136 : (g 11 (x1 : Int32).toNatClampNeg ≤ x2) → Post (g 10 (x1 : Int32).toNatClampNeg) f g)
    (k_66 : (¬ g 11 (x1 : Int32).toNatClampNeg ≤ x2) → zn_priority C Post 66 [(0, .ref (ad C.1 0)), (1, .int x1), (2, .int x2), (3, .int (((x1 * 6) + x2) * 14)), (4, .int 1), (5, .int 0)] [] f g) : zn_priority C Post 40 [(0, .ref (ad C.1 0)), (1, .int x1), (2, .int x2)] [] f g := by
  obtain ⟨⟨l, dC, dI, k, a⟩, p, e, s, m, args, below, meth, c, A⟩ := C
  obtain ⟨hx, hb, hr, htz, hown, hlocks, hml, hE, hK, hA⟩ := X
  intro H locs ls hl hP hD hS
  have hl : lv_has ls 6 [(0, .ref (a 0)), (1, .int x1), (2, .int x2)] := hl
  have hP : va_P (dC, dI) classes (mw k a f g) H := hP
  have hD : va_D A (mw k a f g) := hD
  show W p l e (z_rm 1 0 0) s m args below meth c H locs 0 0 _ (F0 m 40 ls [])
  refine lv_iload_n hx hb d_Mo_priority_40 rfl (lv_at hl 2 rfl) ?_
  refine lv_aload_n hx hb d_Mo_priority_41 rfl (lv_at hl 0 rfl) ?_
  refine va_get (D := (dC, dI)) (ci := 4) (v := .ref (a 12)) (C := R_Mo) (T := F_Mo) (N := 31) hx hb htz i_Mo hown hK hP 0 rfl rfl 16 (by decide) (htz _ kf_Mo_48) (fun _ h9 => h9) rfl d_Mo_priority_42 ?_
  refine lv_iload_n hx hb d_Mo_priority_45 rfl (lv_at hl 1 rfl) ?_
  refine va_iald hx hb hK hP 12 0 rfl rfl h_46 d_Mo_priority_46 ?_
  refine lv_icmp_ge (tgt := 130) hx hb d_Mo_priority_47 (by decide) (fun c_47 => ?_) (fun c_47 => ?_)
  · refine lv_aload_n hx hb d_Mo_priority_130 rfl (lv_at hl 0 rfl) ?_
    refine va_get (D := (dC, dI)) (ci := 4) (v := .ref (a 11)) (C := R_Mo) (T := F_Mo) (N := 31) hx hb htz i_Mo hown hK hP 0 rfl rfl 15 (by decide) (htz _ kf_Mo_45) (fun _ h9 => h9) rfl d_Mo_priority_131 ?_
    refine lv_iload_n hx hb d_Mo_priority_134 rfl (lv_at hl 1 rfl) ?_
    refine va_iald hx hb hK hP 11 0 rfl rfl (h_135 c_47) d_Mo_priority_135 ?_
    exact W.iret (v := g 10 (x1 : Int32).toNatClampNeg) hx hb hr (fun t ht hW => ⟨⟨_, (f, g), rfl, (q_136 c_47), by rw [ht]; exact hP, va_K.moved hW.alike hK, hD⟩, hS.F ht⟩) hS.2.2 d_Mo_priority_136
  · refine lv_iload_n hx hb d_Mo_priority_50 rfl (lv_at hl 1 rfl) ?_
    refine lv_bipush (v := 6) hx hb d_Mo_priority_51 (by decide) ?_
    refine lv_imul hx hb d_Mo_priority_53 ?_
    refine lv_iload_n hx hb d_Mo_priority_54 rfl (lv_at hl 2 rfl) ?_
    refine lv_iadd hx hb d_Mo_priority_55 ?_
    refine lv_bipush (v := 14) hx hb d_Mo_priority_56 (by decide) ?_
    refine lv_imul hx hb d_Mo_priority_58 ?_
    refine lv_istore_n (lv' := [(3, .int (((x1 * 6) + x2) * 14)), (0, .ref (a 0)), (1, .int x1), (2, .int x2)]) hx hb d_Mo_priority_59 rfl hl (by decide) rfl (fun ls hl => ?_)
    refine lv_iconst (v := 1) hx hb d_Mo_priority_60 (by decide) ?_
    refine lv_istore (lv' := [(4, .int 1), (3, .int (((x1 * 6) + x2) * 14)), (0, .ref (a 0)), (1, .int x1), (2, .int x2)]) hx hb d_Mo_priority_61 hl (by decide) rfl (fun ls hl => ?_)
    refine lv_iconst (v := 0) hx hb d_Mo_priority_63 (by decide) ?_
    refine lv_istore (lv' := [(5, .int 0), (4, .int 1), (3, .int (((x1 * 6) + x2) * 14)), (0, .ref (a 0)), (1, .int x1), (2, .int x2)]) hx hb d_Mo_priority_64 hl (by decide) rfl (fun ls hl => ?_)
    exact (k_66 c_47) H locs ls (lv_sub hl [3, 4, 5, 2, 1, 0] rfl) hP hD hS
set_option maxHeartbeats 1000000 in
set_option maxRecDepth 100000 in
theorem k_Mo_priority_66 {C : CT} (X : cM C "QuestionTextModel" b_Mo_priority 6 (some .int)) (Post : Int32 → FT → GT → Prop) {P_93 : Int32 → FT → GT → Prop} (x1 : Int32) (x2 : Int32) (x3 : Int32) (x4 : Int32) (x5 : Int32) (f : FT) (g : GT)
    (h_75 : vp_in (x3 + 1) 8400)
    (k_40 : (g 12 (x3 + 1 : Int32).toNatClampNeg ≤ x5) → (x4 = 0) → zn_priority C Post 40 [(0, .ref (ad C.1 0)), (1, .int x1), (2, .int (x2 + 1))] [] f g)
    (h_122 : (g 12 (x3 + 1 : Int32).toNatClampNeg ≤ x5) → (¬ x4 = 0) → vp_in (x3) 8400)
    (q_123 : (g 12 (x3 + 1 : Int32).toNatClampNeg ≤ x5) → (¬ x4 = 0) → Post (g 12 (x3 : Int32).toNatClampNeg) f g)
    (k_103 : (¬ g 12 (x3 + 1 : Int32).toNatClampNeg ≤ x5) → (x4 = 0) → zn_priority C Post 103 [(0, .ref (ad C.1 0)), (1, .int x1), (2, .int x2), (3, .int x3), (4, .int x4), (5, .int x5)] [] f g)
    (m_93 : (¬ g 12 (x3 + 1 : Int32).toNatClampNeg ≤ x5) → (¬ x4 = 0) → mI C.1 y_Mo_holds (Cond.code y_Mo_holds b_Mo_holds 4 (some .boolean)) 0 [.ref (ad C.1 0), .int ((x3 + 2) + (3 * x5))] f g P_93)
    (k_93 : (¬ g 12 (x3 + 1 : Int32).toNatClampNeg ≤ x5) → (¬ x4 = 0) → ∀ (r : Int32) (f1 : FT) (g1 : GT), P_93 r f1 g1 → zn_priority C Post 96 [(0, .ref (ad C.1 0)), (1, .int x1), (2, .int x2), (3, .int x3), (4, .int x4), (5, .int x5)] [.int r] f1 g1) : zn_priority C Post 66 [(0, .ref (ad C.1 0)), (1, .int x1), (2, .int x2), (3, .int x3), (4, .int x4), (5, .int x5)] [] f g := by
  obtain ⟨⟨l, dC, dI, k, a⟩, p, e, s, m, args, below, meth, c, A⟩ := C
  obtain ⟨hx, hb, hr, htz, hown, hlocks, hml, hE, hK, hA⟩ := X
  intro H locs ls hl hP hD hS
  have hl : lv_has ls 6 [(0, .ref (a 0)), (1, .int x1), (2, .int x2), (3, .int x3), (4, .int x4), (5, .int x5)] := hl
  have hP : va_P (dC, dI) classes (mw k a f g) H := hP
  have hD : va_D A (mw k a f g) := hD
  show W p l e (z_rm 1 0 0) s m args below meth c H locs 0 0 _ (F0 m 66 ls [])
  refine lv_iload hx hb d_Mo_priority_66 (lv_at hl 5 rfl) ?_
  refine lv_aload_n hx hb d_Mo_priority_68 rfl (lv_at hl 0 rfl) ?_
  refine va_get (D := (dC, dI)) (ci := 4) (v := .ref (a 13)) (C := R_Mo) (T := F_Mo) (N := 31) hx hb htz i_Mo hown hK hP 0 rfl rfl 17 (by decide) (htz _ kf_Mo_51) (fun _ h9 => h9) rfl d_Mo_priority_69 ?_
  refine lv_iload_n hx hb d_Mo_priority_72 rfl (lv_at hl 3 rfl) ?_
  refine lv_iconst (v := 1) hx hb d_Mo_priority_73 (by decide) ?_
  refine lv_iadd hx hb d_Mo_priority_74 ?_
  refine va_iald hx hb hK hP 13 0 rfl rfl h_75 d_Mo_priority_75 ?_
  refine lv_icmp_ge (tgt := 112) hx hb d_Mo_priority_76 (by decide) (fun c_76 => ?_) (fun c_76 => ?_)
  · refine lv_iload hx hb d_Mo_priority_112 (lv_at hl 4 rfl) ?_
    refine lv_if_eq (tgt := 124) hx hb d_Mo_priority_114 (by decide) (fun c_114 => ?_) (fun c_114 => ?_)
    · refine lv_iinc (v := x2 + 1) (lv' := [(2, .int (x2 + 1)), (0, .ref (a 0)), (1, .int x1), (3, .int x3), (4, .int x4), (5, .int x5)]) hx hb d_Mo_priority_124 hl (k := 2) rfl (rfl) (by decide) rfl (fun ls hl => ?_)
      refine lv_goto (tgt := 40) hx hb d_Mo_priority_127 (by decide) ?_
      exact (k_40 c_76 c_114) H locs ls (lv_sub hl [1, 2, 0] rfl) hP hD hS
    · refine lv_aload_n hx hb d_Mo_priority_117 rfl (lv_at hl 0 rfl) ?_
      refine va_get (D := (dC, dI)) (ci := 4) (v := .ref (a 13)) (C := R_Mo) (T := F_Mo) (N := 31) hx hb htz i_Mo hown hK hP 0 rfl rfl 17 (by decide) (htz _ kf_Mo_51) (fun _ h9 => h9) rfl d_Mo_priority_118 ?_
      refine lv_iload_n hx hb d_Mo_priority_121 rfl (lv_at hl 3 rfl) ?_
      refine va_iald hx hb hK hP 13 0 rfl rfl (h_122 c_76 c_114) d_Mo_priority_122 ?_
      exact W.iret (v := g 12 (x3 : Int32).toNatClampNeg) hx hb hr (fun t ht hW => ⟨⟨_, (f, g), rfl, (q_123 c_76 c_114), by rw [ht]; exact hP, va_K.moved hW.alike hK, hD⟩, hS.F ht⟩) hS.2.2 d_Mo_priority_123
  · refine lv_iload hx hb d_Mo_priority_79 (lv_at hl 4 rfl) ?_
    refine lv_if_eq (tgt := 103) hx hb d_Mo_priority_81 (by decide) (fun c_81 => ?_) (fun c_81 => ?_)
    · exact (k_103 c_76 c_81) H locs ls (lv_sub hl [0, 1, 2, 3, 4, 5] rfl) hP hD hS
    · refine lv_aload_n hx hb d_Mo_priority_84 rfl (lv_at hl 0 rfl) ?_
      refine lv_iload_n hx hb d_Mo_priority_85 rfl (lv_at hl 3 rfl) ?_
      refine lv_iconst (v := 2) hx hb d_Mo_priority_86 (by decide) ?_
      refine lv_iadd hx hb d_Mo_priority_87 ?_
      refine lv_iconst (v := 3) hx hb d_Mo_priority_88 (by decide) ?_
      refine lv_iload hx hb d_Mo_priority_89 (lv_at hl 5 rfl) ?_
      refine lv_imul hx hb d_Mo_priority_91 ?_
      refine lv_iadd hx hb d_Mo_priority_92 ?_
      have hFc := va_free (wc := mw k a f g) hD hS hA [0, 1, 2, 3, 4, 5, 6, 7, 8, 9, 10, 11, 12, 13, 14, 15, 16, 17, 18] rfl
      refine va_calli (va_runV (As := [.int ((x3 + 2) + (3 * x5))]) (rest := []) ⟨hx, hb, hml, hown, htz⟩ ((m_93 c_76 c_81) H.size) (cwV 1 htz (z_gV (fun _ h => h) km_Mo_167 in_Mo_holds se_Mo_holds ini_Mo m_Mo_holds) rfl rfl rfl (by decide +kernel) ⟨(Nat.le_of_ble_eq_true rfl), (Nat.le_of_ble_eq_true rfl)⟩) ⟨z_blind, va_recv hK hP (ci := 4) (q0 := 0) rfl rfl, fun U hU hW => ⟨rfl, by rw [hU], hE.call hS hFc hU hW, by rw [hU]; exact hP, va_K.moved hW.alike hK, hD.weaken (fun _ _ _ _ => trivial)⟩⟩ rfl rfl hl.1 rfl (lv_room (Nat.le_of_ble_eq_true rfl)) d_Mo_priority_93 ⟨(Nat.le_of_ble_eq_true rfl), (Nat.le_of_ble_eq_true rfl)⟩) hS (fun q _ h => hFc q h) hFc (fun r u t H1 locs ht hvm hw hB hz1 hk1 hS => ?_)
      obtain ⟨hP1, hK1, hD1⟩ := hB
      rw [ht] at hP1
      exact (k_93 c_76 c_81) r _ _ hw H1 locs ls (lv_sub hl [0, 1, 2, 3, 4, 5] rfl) hP1 (hD1.weaken (fun _ q _ h => hFc _ h)) hS
set_option maxHeartbeats 1000000 in
set_option maxRecDepth 100000 in
theorem k_Mo_priority_96 {C : CT} (X : cM C "QuestionTextModel" b_Mo_priority 6 (some .int)) (Post : Int32 → FT → GT → Prop) (x1 : Int32) (x2 : Int32) (x3 : Int32) (x4 : Int32) (x5 : Int32) (y0 : Int32) (f : FT) (g : GT)
    (k_103 : (y0 = 0) → zn_priority C Post 103 [(0, .ref (ad C.1 0)), (1, .int x1), (2, .int x2), (3, .int x3), (4, .int x4), (5, .int x5)] [] f g)
    (k_104 : (¬ y0 = 0) → zn_priority C Post 104 [(0, .ref (ad C.1 0)), (1, .int x1), (2, .int x2), (3, .int x3), (4, .int x4), (5, .int x5)] [.int 1] f g) : zn_priority C Post 96 [(0, .ref (ad C.1 0)), (1, .int x1), (2, .int x2), (3, .int x3), (4, .int x4), (5, .int x5)] [.int y0] f g := by
  obtain ⟨⟨l, dC, dI, k, a⟩, p, e, s, m, args, below, meth, c, A⟩ := C
  obtain ⟨hx, hb, hr, htz, hown, hlocks, hml, hE, hK, hA⟩ := X
  intro H locs ls hl hP hD hS
  have hl : lv_has ls 6 [(0, .ref (a 0)), (1, .int x1), (2, .int x2), (3, .int x3), (4, .int x4), (5, .int x5)] := hl
  have hP : va_P (dC, dI) classes (mw k a f g) H := hP
  have hD : va_D A (mw k a f g) := hD
  show W p l e (z_rm 1 0 0) s m args below meth c H locs 0 0 _ (F0 m 96 ls [.int y0])
  refine lv_if_eq (tgt := 103) hx hb d_Mo_priority_96 (by decide) (fun c_96 => ?_) (fun c_96 => ?_)
  · exact (k_103 c_96) H locs ls (lv_sub hl [0, 1, 2, 3, 4, 5] rfl) hP hD hS
  · refine lv_iconst (v := 1) hx hb d_Mo_priority_99 (by decide) ?_
    refine lv_goto (tgt := 104) hx hb d_Mo_priority_100 (by decide) ?_
    exact (k_104 c_96) H locs ls (lv_sub hl [0, 1, 2, 3, 4, 5] rfl) hP hD hS
set_option maxHeartbeats 1000000 in
set_option maxRecDepth 100000 in
theorem k_Mo_priority_103 {C : CT} (X : cM C "QuestionTextModel" b_Mo_priority 6 (some .int)) (Post : Int32 → FT → GT → Prop) (x1 : Int32) (x2 : Int32) (x3 : Int32) (x4 : Int32) (x5 : Int32) (f : FT) (g : GT)
    (k_104 : zn_priority C Post 104 [(0, .ref (ad C.1 0)), (1, .int x1), (2, .int x2), (3, .int x3), (4, .int x4), (5, .int x5)] [.int 0] f g) : zn_priority C Post 103 [(0, .ref (ad C.1 0)), (1, .int x1), (2, .int x2), (3, .int x3), (4, .int x4), (5, .int x5)] [] f g := by
  obtain ⟨⟨l, dC, dI, k, a⟩, p, e, s, m, args, below, meth, c, A⟩ := C
  obtain ⟨hx, hb, hr, htz, hown, hlocks, hml, hE, hK, hA⟩ := X
  intro H locs ls hl hP hD hS
  have hl : lv_has ls 6 [(0, .ref (a 0)), (1, .int x1), (2, .int x2), (3, .int x3), (4, .int x4), (5, .int x5)] := hl
  have hP : va_P (dC, dI) classes (mw k a f g) H := hP
  have hD : va_D A (mw k a f g) := hD
  show W p l e (z_rm 1 0 0) s m args below meth c H locs 0 0 _ (F0 m 103 ls [])
  refine lv_iconst (v := 0) hx hb d_Mo_priority_103 (by decide) ?_
  exact k_104 H locs ls (lv_sub hl [0, 1, 2, 3, 4, 5] rfl) hP hD hS
set_option maxHeartbeats 1000000 in
set_option maxRecDepth 100000 in
theorem k_Mo_priority_104 {C : CT} (X : cM C "QuestionTextModel" b_Mo_priority 6 (some .int)) (Post : Int32 → FT → GT → Prop) (x1 : Int32) (x2 : Int32) (x3 : Int32) (x4 : Int32) (x5 : Int32) (y0 : Int32) (f : FT) (g : GT)
    (k_66 : zn_priority C Post 66 [(0, .ref (ad C.1 0)), (1, .int x1), (2, .int x2), (3, .int x3), (4, .int y0), (5, .int (x5 + 1))] [] f g) : zn_priority C Post 104 [(0, .ref (ad C.1 0)), (1, .int x1), (2, .int x2), (3, .int x3), (4, .int x4), (5, .int x5)] [.int y0] f g := by
  obtain ⟨⟨l, dC, dI, k, a⟩, p, e, s, m, args, below, meth, c, A⟩ := C
  obtain ⟨hx, hb, hr, htz, hown, hlocks, hml, hE, hK, hA⟩ := X
  intro H locs ls hl hP hD hS
  have hl : lv_has ls 6 [(0, .ref (a 0)), (1, .int x1), (2, .int x2), (3, .int x3), (4, .int x4), (5, .int x5)] := hl
  have hP : va_P (dC, dI) classes (mw k a f g) H := hP
  have hD : va_D A (mw k a f g) := hD
  show W p l e (z_rm 1 0 0) s m args below meth c H locs 0 0 _ (F0 m 104 ls [.int y0])
  refine lv_istore (lv' := [(4, .int y0), (0, .ref (a 0)), (1, .int x1), (2, .int x2), (3, .int x3), (5, .int x5)]) hx hb d_Mo_priority_104 hl (by decide) rfl (fun ls hl => ?_)
  refine lv_iinc (v := x5 + 1) (lv' := [(5, .int (x5 + 1)), (4, .int y0), (0, .ref (a 0)), (1, .int x1), (2, .int x2), (3, .int x3)]) hx hb d_Mo_priority_106 hl (k := 5) rfl (rfl) (by decide) rfl (fun ls hl => ?_)
  refine lv_goto (tgt := 66) hx hb d_Mo_priority_109 (by decide) ?_
  exact k_66 H locs ls (lv_sub hl [2, 3, 4, 5, 1, 0] rfl) hP hD hS
set_option maxHeartbeats 1000000 in
set_option maxRecDepth 100000 in
theorem e_Mo_priority (T : ST) (Post : Int32 → FT → GT → Prop) (f : FT) (g : GT) (h : ∀ C : CT, C.1 = T → cM C "QuestionTextModel" b_Mo_priority 6 (some .int) → zn_priority C Post 0 [(0, .ref (ad C.1 0))] [] f g) : mI T y_Mo_priority (Cond.code y_Mo_priority b_Mo_priority 6 (some .int)) 1 [.ref (ad T 0)] f g Post := by
  obtain ⟨l, dC, dI, k, a⟩ := T
  intro sz
  refine Met.ofW (cc := b_Mo_priority) (maxL := 6) (ret := (some .int)) (by decide) rfl ?_
  intro p e s m args below meth c s₁ B hml hv
  obtain ⟨rfl, hsz, hE, hP, hK, hD0⟩ := hv
  have hts := atoms_spec (ws := (Cond.code y_Mo_priority b_Mo_priority 6 (some .int)) :: z_T) B.pre
  have htz : ∀ w ∈ z_T, w.before _ s = true := fun w h => hts w (z_cons w h)
  subst hsz
  have hD := hD0.self (sz := s.heap.size)
  generalize hAe : va_A (mw k a f g) s.heap.size = A at hD hE ⊢
  have hA : ∀ q : Nat, s.heap.size ≤ q → A q := fun q h => by rw [← hAe]; exact Or.inr h
  have hl := lv_entry ([.ref (a 0)]) (n := 6) (Nat.le_of_ble_eq_true rfl)
  rw [lg_entry_eq]
  generalize (lg_sl ([.ref (a 0)]) ++ List.replicate (6 - (lg_sl ([.ref (a 0)])).length) Slot.unset).toArray = ls at hl ⊢
  exact h ((l, dC, dI, k, a), p, e, s, m, ([.ref (a 0)] : List Value).toArray, below, meth, c, A) rfl ⟨B.exec, B.bytes, B.returns, htz, findClass_of_methodNamed B.named, B.notSynchronized, hml, hE, hK, hA⟩ s.heap [] ls hl hP hD va_S.rf
def zn_spreads (C : CT) (Post : Int32 → FT → GT → Prop) (pc : Nat) (loc : List (Nat × Value)) (st : List Value) (f : FT) (g : GT) : Prop := zW C (z_rm 1 0 0) 7 (qI C Post) 0 0 pc loc st (mM C.1 f g)
set_option maxHeartbeats 1000000 in
set_option maxRecDepth 100000 in
theorem k_Mo_spreads_0 {C : CT} (X : cM C "QuestionTextModel" b_Mo_spreads 7 (some .boolean)) (Post : Int32 → FT → GT → Prop) (f : FT) (g : GT)
    (k_4 : zn_spreads C Post 4 [(0, .ref (ad C.1 0)), (1, .int 0), (2, .int 1)] [] f g) : zn_spreads C Post 0 [(0, .ref (ad C.1 0))] [] f g := by
  obtain ⟨⟨l, dC, dI, k, a⟩, p, e, s, m, args, below, meth, c, A⟩ := C
  obtain ⟨hx, hb, hr, htz, hown, hlocks, hml, hE, hK, hA⟩ := X
  intro H locs ls hl hP hD hS
  have hl : lv_has ls 7 [(0, .ref (a 0))] := hl
  have hP : va_P (dC, dI) classes (mw k a f g) H := hP
  have hD : va_D A (mw k a f g) := hD
  show W p l e (z_rm 1 0 0) s m args below meth c H locs 0 0 _ (F0 m 0 ls [])
  refine lv_iconst (v := 0) hx hb d_Mo_spreads_0 (by decide) ?_
  refine lv_istore_n (lv' := [(1, .int 0), (0, .ref (a 0))]) hx hb d_Mo_spreads_1 rfl hl (by decide) rfl (fun ls hl => ?_)
  refine lv_iconst (v := 1) hx hb d_Mo_spreads_2 (by decide) ?_
  refine lv_istore_n (lv' := [(2, .int 1), (1, .int 0), (0, .ref (a 0))]) hx hb d_Mo_spreads_3 rfl hl (by decide) rfl (fun ls hl => ?_)
  exact k_4 H locs ls (lv_sub hl [2, 1, 0] rfl) hP hD hS
set_option maxHeartbeats 1000000 in
set_option maxRecDepth 100000 in
theorem k_Mo_spreads_4 {C : CT} (X : cM C "QuestionTextModel" b_Mo_spreads 7 (some .boolean)) (Post : Int32 → FT → GT → Prop) (x1 : Int32) (x2 : Int32) (f : FT) (g : GT)
    (q_122 : (x2 = 0) → Post (x1) f g)
    (z_122 : (x2 = 0) → narrow .boolean (.int (x1)) = .int (x1))
    (k_12 : (¬ x2 = 0) → zn_spreads C Post 12 [(0, .ref (ad C.1 0)), (1, .int x1), (2, .int 0), (3, .int 1)] [] f g) : zn_spreads C Post 4 [(0, .ref (ad C.1 0)), (1, .int x1), (2, .int x2)] [] f g := by
  obtain ⟨⟨l, dC, dI, k, a⟩, p, e, s, m, args, below, meth, c, A⟩ := C
  obtain ⟨hx, hb, hr, htz, hown, hlocks, hml, hE, hK, hA⟩ := X
  intro H locs ls hl hP hD hS
  have hl : lv_has ls 7 [(0, .ref (a 0)), (1, .int x1), (2, .int x2)] := hl
  have hP : va_P (dC, dI) classes (mw k a f g) H := hP
  have hD : va_D A (mw k a f g) := hD
  show W p l e (z_rm 1 0 0) s m args below meth c H locs 0 0 _ (F0 m 4 ls [])
  refine lv_iload_n hx hb d_Mo_spreads_4 rfl (lv_at hl 2 rfl) ?_
  refine lv_if_eq (tgt := 121) hx hb d_Mo_spreads_5 (by decide) (fun c_5 => ?_) (fun c_5 => ?_)
  · refine lv_iload_n hx hb d_Mo_spreads_121 rfl (lv_at hl 1 rfl) ?_
    exact W.zret (v := x1) (ty := .boolean) hx hb hr (z_122 c_5) (fun t ht hW => ⟨⟨_, (f, g), rfl, (q_122 c_5), by rw [ht]; exact hP, va_K.moved hW.alike hK, hD⟩, hS.F ht⟩) hS.2.2 d_Mo_spreads_122
  · refine lv_iconst (v := 0) hx hb d_Mo_spreads_8 (by decide) ?_
    refine lv_istore_n (lv' := [(2, .int 0), (0, .ref (a 0)), (1, .int x1)]) hx hb d_Mo_spreads_9 rfl hl (by decide) rfl (fun ls hl => ?_)
    refine lv_iconst (v := 1) hx hb d_Mo_spreads_10 (by decide) ?_
    refine lv_istore_n (lv' := [(3, .int 1), (2, .int 0), (0, .ref (a 0)), (1, .int x1)]) hx hb d_Mo_spreads_11 rfl hl (by decide) rfl (fun ls hl => ?_)
    exact (k_12 c_5) H locs ls (lv_sub hl [2, 3, 1, 0] rfl) hP hD hS
set_option maxHeartbeats 1000000 in
set_option maxRecDepth 100000 in
theorem k_Mo_spreads_12 {C : CT} (X : cM C "QuestionTextModel" b_Mo_spreads 7 (some .boolean)) (Post : Int32 → FT → GT → Prop) (x1 : Int32) (x2 : Int32) (x3 : Int32) (f : FT) (g : GT)
    (k_4 : (61 ≤ x3) → zn_spreads C Post 4 [(0, .ref (ad C.1 0)), (1, .int x1), (2, .int x2)] [] f g)
    (k_32 : (¬ 61 ≤ x3) → zn_spreads C Post 32 [(0, .ref (ad C.1 0)), (1, .int x1), (2, .int x2), (3, .int x3), (4, .int (((f 4) * 61) + x3)), (5, .int 0)] [] f g) : zn_spreads C Post 12 [(0, .ref (ad C.1 0)), (1, .int x1), (2, .int x2), (3, .int x3)] [] f g := by
  obtain ⟨⟨l, dC, dI, k, a⟩, p, e, s, m, args, below, meth, c, A⟩ := C
  obtain ⟨hx, hb, hr, htz, hown, hlocks, hml, hE, hK, hA⟩ := X
  intro H locs ls hl hP hD hS
  have hl : lv_has ls 7 [(0, .ref (a 0)), (1, .int x1), (2, .int x2), (3, .int x3)] := hl
  have hP : va_P (dC, dI) classes (mw k a f g) H := hP
  have hD : va_D A (mw k a f g) := hD
  show W p l e (z_rm 1 0 0) s m args below meth c H locs 0 0 _ (F0 m 12 ls [])
  refine lv_iload_n hx hb d_Mo_spreads_12 rfl (lv_at hl 3 rfl) ?_
  refine lv_bipush (v := 61) hx hb d_Mo_spreads_13 (by decide) ?_
  refine lv_icmp_ge (tgt := 118) hx hb d_Mo_spreads_15 (by decide) (fun c_15 => ?_) (fun c_15 => ?_)
  · refine lv_goto (tgt := 4) hx hb d_Mo_spreads_118 (by decide) ?_
    exact (k_4 c_15) H locs ls (lv_sub hl [0, 1, 2] rfl) hP hD hS
  · refine lv_aload_n hx hb d_Mo_spreads_18 rfl (lv_at hl 0 rfl) ?_
    refine va_get (D := (dC, dI)) (ci := 4) (v := .int (f 4)) (C := R_Mo) (T := F_Mo) (N := 31) hx hb htz i_Mo hown hK hP 0 rfl rfl 5 (by decide) (htz _ kf_Mo_126) (fun _ h9 => h9) rfl d_Mo_spreads_19 ?_
    refine lv_bipush (v := 61) hx hb d_Mo_spreads_22 (by decide) ?_
    refine lv_imul hx hb d_Mo_spreads_24 ?_
    refine lv_iload_n hx hb d_Mo_spreads_25 rfl (lv_at hl 3 rfl) ?_
    refine lv_iadd hx hb d_Mo_spreads_26 ?_
    refine lv_istore (lv' := [(4, .int (((f 4) * 61) + x3)), (0, .ref (a 0)), (1, .int x1), (2, .int x2), (3, .int x3)]) hx hb d_Mo_spreads_27 hl (by decide) rfl (fun ls hl => ?_)
    refine lv_iconst (v := 0) hx hb d_Mo_spreads_29 (by decide) ?_
    refine lv_istore (lv' := [(5, .int 0), (4, .int (((f 4) * 61) + x3)), (0, .ref (a 0)), (1, .int x1), (2, .int x2), (3, .int x3)]) hx hb d_Mo_spreads_30 hl (by decide) rfl (fun ls hl => ?_)
    exact (k_32 c_15) H locs ls (lv_sub hl [2, 3, 4, 5, 1, 0] rfl) hP hD hS
set_option maxHeartbeats 1000000 in
set_option maxRecDepth 100000 in
theorem k_Mo_spreads_32 {C : CT} (X : cM C "QuestionTextModel" b_Mo_spreads 7 (some .boolean)) (Post : Int32 → FT → GT → Prop) {P_75 : Int32 → FT → GT → Prop} (x1 : Int32) (x2 : Int32) (x3 : Int32) (x4 : Int32) (x5 : Int32) (f : FT) (g : GT)
    (h_40 : vp_in (x4) 610)
    (k_112 : (g 7 (x4 : Int32).toNatClampNeg ≤ x5) → zn_spreads C Post 112 [(0, .ref (ad C.1 0)), (1, .int x1), (2, .int x2), (3, .int x3), (4, .int x4), (5, .int x5)] [] f g)
    (h_49 : (¬ g 7 (x4 : Int32).toNatClampNeg ≤ x5) → vp_in (x3) 61)
    (k_112_1 : (¬ g 7 (x4 : Int32).toNatClampNeg ≤ x5) → (g 17 (x3 : Int32).toNatClampNeg = 0) → zn_spreads C Post 112 [(0, .ref (ad C.1 0)), (1, .int x1), (2, .int x2), (3, .int x3), (4, .int x4), (5, .int x5)] [] f g)
    (h_69 : (¬ g 7 (x4 : Int32).toNatClampNeg ≤ x5) → (¬ g 17 (x3 : Int32).toNatClampNeg = 0) → vp_in ((((x4 * 6) + x5) * 4) + 2) 14640)
    (m_75 : (¬ g 7 (x4 : Int32).toNatClampNeg ≤ x5) → (¬ g 17 (x3 : Int32).toNatClampNeg = 0) → mI C.1 y_Mo_isThere (Cond.code y_Mo_isThere b_Mo_isThere 2 (some .boolean)) 0 [.ref (ad C.1 0), .int (g 8 ((((x4 * 6) + x5) * 4) + 2 : Int32).toNatClampNeg)] f g P_75)
    (k_75 : (¬ g 7 (x4 : Int32).toNatClampNeg ≤ x5) → (¬ g 17 (x3 : Int32).toNatClampNeg = 0) → ∀ (r : Int32) (f1 : FT) (g1 : GT), P_75 r f1 g1 → zn_spreads C Post 78 [(0, .ref (ad C.1 0)), (1, .int x1), (2, .int x2), (3, .int x3), (4, .int x4), (5, .int x5), (6, .int (g 8 ((((x4 * 6) + x5) * 4) + 2 : Int32).toNatClampNeg))] [.int r] f1 g1) : zn_spreads C Post 32 [(0, .ref (ad C.1 0)), (1, .int x1), (2, .int x2), (3, .int x3), (4, .int x4), (5, .int x5)] [] f g := by
  obtain ⟨⟨l, dC, dI, k, a⟩, p, e, s, m, args, below, meth, c, A⟩ := C
  obtain ⟨hx, hb, hr, htz, hown, hlocks, hml, hE, hK, hA⟩ := X
  intro H locs ls hl hP hD hS
  have hl : lv_has ls 7 [(0, .ref (a 0)), (1, .int x1), (2, .int x2), (3, .int x3), (4, .int x4), (5, .int x5)] := hl
  have hP : va_P (dC, dI) classes (mw k a f g) H := hP
  have hD : va_D A (mw k a f g) := hD
  show W p l e (z_rm 1 0 0) s m args below meth c H locs 0 0 _ (F0 m 32 ls [])
  refine lv_iload hx hb d_Mo_spreads_32 (lv_at hl 5 rfl) ?_
  refine lv_aload_n hx hb d_Mo_spreads_34 rfl (lv_at hl 0 rfl) ?_
  refine va_get (D := (dC, dI)) (ci := 4) (v := .ref (a 8)) (C := R_Mo) (T := F_Mo) (N := 31) hx hb htz i_Mo hown hK hP 0 rfl rfl 12 (by decide) (htz _ kf_Mo_36) (fun _ h9 => h9) rfl d_Mo_spreads_35 ?_
  refine lv_iload hx hb d_Mo_spreads_38 (lv_at hl 4 rfl) ?_
  refine va_iald hx hb hK hP 8 0 rfl rfl h_40 d_Mo_spreads_40 ?_
  refine lv_icmp_ge (tgt := 112) hx hb d_Mo_spreads_41 (by decide) (fun c_41 => ?_) (fun c_41 => ?_)
  · exact (k_112 c_41) H locs ls (lv_sub hl [0, 1, 2, 3, 4, 5] rfl) hP hD hS
  · refine lv_aload_n hx hb d_Mo_spreads_44 rfl (lv_at hl 0 rfl) ?_
    refine va_get (D := (dC, dI)) (ci := 4) (v := .ref (a 18)) (C := R_Mo) (T := F_Mo) (N := 31) hx hb htz i_Mo hown hK hP 0 rfl rfl 30 (by decide) (htz _ kf_Mo_66) (fun _ h9 => h9) rfl d_Mo_spreads_45 ?_
    refine lv_iload_n hx hb d_Mo_spreads_48 rfl (lv_at hl 3 rfl) ?_
    refine va_zald hx hb hK hP 18 2 rfl rfl (h_49 c_41) d_Mo_spreads_49 ?_
    refine lv_if_eq (tgt := 112) hx hb d_Mo_spreads_50 (by decide) (fun c_50 => ?_) (fun c_50 => ?_)
    · exact (k_112_1 c_41 c_50) H locs ls (lv_sub hl [0, 1, 2, 3, 4, 5] rfl) hP hD hS
    · refine lv_aload_n hx hb d_Mo_spreads_53 rfl (lv_at hl 0 rfl) ?_
      refine va_get (D := (dC, dI)) (ci := 4) (v := .ref (a 9)) (C := R_Mo) (T := F_Mo) (N := 31) hx hb htz i_Mo hown hK hP 0 rfl rfl 13 (by decide) (htz _ kf_Mo_39) (fun _ h9 => h9) rfl d_Mo_spreads_54 ?_
      refine lv_iload hx hb d_Mo_spreads_57 (lv_at hl 4 rfl) ?_
      refine lv_bipush (v := 6) hx hb d_Mo_spreads_59 (by decide) ?_
      refine lv_imul hx hb d_Mo_spreads_61 ?_
      refine lv_iload hx hb d_Mo_spreads_62 (lv_at hl 5 rfl) ?_
      refine lv_iadd hx hb d_Mo_spreads_64 ?_
      refine lv_iconst (v := 4) hx hb d_Mo_spreads_65 (by decide) ?_
      refine lv_imul hx hb d_Mo_spreads_66 ?_
      refine lv_iconst (v := 2) hx hb d_Mo_spreads_67 (by decide) ?_
      refine lv_iadd hx hb d_Mo_spreads_68 ?_
      refine va_iald hx hb hK hP 9 0 rfl rfl (h_69 c_41 c_50) d_Mo_spreads_69 ?_
      refine lv_istore (lv' := [(6, .int (g 8 ((((x4 * 6) + x5) * 4) + 2 : Int32).toNatClampNeg)), (0, .ref (a 0)), (1, .int x1), (2, .int x2), (3, .int x3), (4, .int x4), (5, .int x5)]) hx hb d_Mo_spreads_70 hl (by decide) rfl (fun ls hl => ?_)
      refine lv_aload_n hx hb d_Mo_spreads_72 rfl (lv_at hl 1 rfl) ?_
      refine lv_iload hx hb d_Mo_spreads_73 (lv_at hl 0 rfl) ?_
      have hFc := va_free (wc := mw k a f g) hD hS hA [0, 1, 2, 3, 4, 5, 6, 7, 8, 9, 10, 11, 12, 13, 14, 15, 16, 17, 18] rfl
      refine va_calli (va_runV (As := [.int (g 8 ((((x4 * 6) + x5) * 4) + 2 : Int32).toNatClampNeg)]) (rest := []) ⟨hx, hb, hml, hown, htz⟩ ((m_75 c_41 c_50) H.size) (cwV 1 htz (z_gV (fun _ h => h) km_Mo_151 in_Mo_isThere se_Mo_isThere ini_Mo m_Mo_isThere) rfl rfl rfl (by decide +kernel) ⟨(Nat.le_of_ble_eq_true rfl), (Nat.le_of_ble_eq_true rfl)⟩) ⟨z_blind, va_recv hK hP (ci := 4) (q0 := 0) rfl rfl, fun U hU hW => ⟨rfl, by rw [hU], hE.call hS hFc hU hW, by rw [hU]; exact hP, va_K.moved hW.alike hK, hD.weaken (fun _ _ _ _ => trivial)⟩⟩ rfl rfl hl.1 rfl (lv_room (Nat.le_of_ble_eq_true rfl)) d_Mo_spreads_75 ⟨(Nat.le_of_ble_eq_true rfl), (Nat.le_of_ble_eq_true rfl)⟩) hS (fun q _ h => hFc q h) hFc (fun r u t H1 locs ht hvm hw hB hz1 hk1 hS => ?_)
      obtain ⟨hP1, hK1, hD1⟩ := hB
      rw [ht] at hP1
      exact (k_75 c_41 c_50) r _ _ hw H1 locs ls (lv_sub hl [1, 2, 3, 4, 5, 6, 0] rfl) hP1 (hD1.weaken (fun _ q _ h => hFc _ h)) hS
set_option maxHeartbeats 1000000 in
set_option maxRecDepth 100000 in
theorem k_Mo_spreads_78 {C : CT} (X : cM C "QuestionTextModel" b_Mo_spreads 7 (some .boolean)) (Post : Int32 → FT → GT → Prop) (x1 : Int32) (x2 : Int32) (x3 : Int32) (x4 : Int32) (x5 : Int32) (x6 : Int32) (y0 : Int32) (f : FT) (g : GT)
    (h_92 : (¬ y0 = 0) → vp_in (x6) 61)
    (k_106 : (¬ y0 = 0) → (¬ g 17 (x6 : Int32).toNatClampNeg = 0) → zn_spreads C Post 106 [(0, .ref (ad C.1 0)), (1, .int x1), (2, .int x2), (3, .int x3), (4, .int x4), (5, .int x5), (6, .int x6)] [] f g)
    (h_103 : (¬ y0 = 0) → (g 17 (x6 : Int32).toNatClampNeg = 0) → vp_in (x6) 61)
    (k_106_1 : (¬ y0 = 0) → (g 17 (x6 : Int32).toNatClampNeg = 0) → zn_spreads C Post 106 [(0, .ref (ad C.1 0)), (1, .int x1), (2, .int 1), (3, .int x3), (4, .int x4), (5, .int x5), (6, .int x6)] [] f (va_up g 17 (upd (g 17) (x6 : Int32).toNatClampNeg (vp_nar .boolean 1))))
    (k_106_2 : (y0 = 0) → zn_spreads C Post 106 [(0, .ref (ad C.1 0)), (1, .int 1), (2, .int x2), (3, .int x3), (4, .int x4), (5, .int x5), (6, .int x6)] [] f g) : zn_spreads C Post 78 [(0, .ref (ad C.1 0)), (1, .int x1), (2, .int x2), (3, .int x3), (4, .int x4), (5, .int x5), (6, .int x6)] [.int y0] f g := by
  obtain ⟨⟨l, dC, dI, k, a⟩, p, e, s, m, args, below, meth, c, A⟩ := C
  obtain ⟨hx, hb, hr, htz, hown, hlocks, hml, hE, hK, hA⟩ := X
  intro H locs ls hl hP hD hS
  have hl : lv_has ls 7 [(0, .ref (a 0)), (1, .int x1), (2, .int x2), (3, .int x3), (4, .int x4), (5, .int x5), (6, .int x6)] := hl
  have hP : va_P (dC, dI) classes (mw k a f g) H := hP
  have hD : va_D A (mw k a f g) := hD
  show W p l e (z_rm 1 0 0) s m args below meth c H locs 0 0 _ (F0 m 78 ls [.int y0])
  refine lv_if_ne (tgt := 86) hx hb d_Mo_spreads_78 (by decide) (fun c_78 => ?_) (fun c_78 => ?_)
  · refine lv_aload_n hx hb d_Mo_spreads_86 rfl (lv_at hl 0 rfl) ?_
    refine va_get (D := (dC, dI)) (ci := 4) (v := .ref (a 18)) (C := R_Mo) (T := F_Mo) (N := 31) hx hb htz i_Mo hown hK hP 0 rfl rfl 30 (by decide) (htz _ kf_Mo_66) (fun _ h9 => h9) rfl d_Mo_spreads_87 ?_
    refine lv_iload hx hb d_Mo_spreads_90 (lv_at hl 6 rfl) ?_
    refine va_zald hx hb hK hP 18 2 rfl rfl (h_92 c_78) d_Mo_spreads_92 ?_
    refine lv_if_ne (tgt := 106) hx hb d_Mo_spreads_93 (by decide) (fun c_93 => ?_) (fun c_93 => ?_)
    · exact (k_106 c_78 c_93) H locs ls (lv_sub hl [0, 1, 2, 3, 4, 5, 6] rfl) hP hD hS
    · refine lv_aload_n hx hb d_Mo_spreads_96 rfl (lv_at hl 0 rfl) ?_
      refine va_get (D := (dC, dI)) (ci := 4) (v := .ref (a 18)) (C := R_Mo) (T := F_Mo) (N := 31) hx hb htz i_Mo hown hK hP 0 rfl rfl 30 (by decide) (htz _ kf_Mo_66) (fun _ h9 => h9) rfl d_Mo_spreads_97 ?_
      refine lv_iload hx hb d_Mo_spreads_100 (lv_at hl 6 rfl) ?_
      refine lv_iconst (v := 1) hx hb d_Mo_spreads_102 (by decide) ?_
      refine va_zast hx hb hK hP hD hS 18 2 rfl rfl (h_103 c_78 c_93) d_Mo_spreads_103 (fun H locs hP hD hS => ?_)
      replace hP := mg_17 (c := upd (g 17) (x6 : Int32).toNatClampNeg (vp_nar .boolean 1)) hP
      replace hD := mh_17 (c := upd (g 17) (x6 : Int32).toNatClampNeg (vp_nar .boolean 1)) hD
      refine lv_iconst (v := 1) hx hb d_Mo_spreads_104 (by decide) ?_
      refine lv_istore_n (lv' := [(2, .int 1), (0, .ref (a 0)), (1, .int x1), (3, .int x3), (4, .int x4), (5, .int x5), (6, .int x6)]) hx hb d_Mo_spreads_105 rfl hl (by decide) rfl (fun ls hl => ?_)
      exact (k_106_1 c_78 c_93) H locs ls (lv_sub hl [1, 2, 0, 3, 4, 5, 6] rfl) hP hD hS
  · refine lv_iconst (v := 1) hx hb d_Mo_spreads_81 (by decide) ?_
    refine lv_istore_n (lv' := [(1, .int 1), (0, .ref (a 0)), (2, .int x2), (3, .int x3), (4, .int x4), (5, .int x5), (6, .int x6)]) hx hb d_Mo_spreads_82 rfl hl (by decide) rfl (fun ls hl => ?_)
    refine lv_goto (tgt := 106) hx hb d_Mo_spreads_83 (by decide) ?_
    exact (k_106_2 c_78) H locs ls (lv_sub hl [1, 0, 2, 3, 4, 5, 6] rfl) hP hD hS
set_option maxHeartbeats 1000000 in
set_option maxRecDepth 100000 in
theorem k_Mo_spreads_106 {C : CT} (X : cM C "QuestionTextModel" b_Mo_spreads 7 (some .boolean)) (Post : Int32 → FT → GT → Prop) (x1 : Int32) (x2 : Int32) (x3 : Int32) (x4 : Int32) (x5 : Int32) (x6 : Int32) (f : FT) (g : GT)
    (k_32 : zn_spreads C Post 32 [(0, .ref (ad C.1 0)), (1, .int x1), (2, .int x2), (3, .int x3), (4, .int x4), (5, .int (x5 + 1))] [] f g) : zn_spreads C Post 106 [(0, .ref (ad C.1 0)), (1, .int x1), (2, .int x2), (3, .int x3), (4, .int x4), (5, .int x5), (6, .int x6)] [] f g := by
  obtain ⟨⟨l, dC, dI, k, a⟩, p, e, s, m, args, below, meth, c, A⟩ := C
  obtain ⟨hx, hb, hr, htz, hown, hlocks, hml, hE, hK, hA⟩ := X
  intro H locs ls hl hP hD hS
  have hl : lv_has ls 7 [(0, .ref (a 0)), (1, .int x1), (2, .int x2), (3, .int x3), (4, .int x4), (5, .int x5), (6, .int x6)] := hl
  have hP : va_P (dC, dI) classes (mw k a f g) H := hP
  have hD : va_D A (mw k a f g) := hD
  show W p l e (z_rm 1 0 0) s m args below meth c H locs 0 0 _ (F0 m 106 ls [])
  refine lv_iinc (v := x5 + 1) (lv' := [(5, .int (x5 + 1)), (0, .ref (a 0)), (1, .int x1), (2, .int x2), (3, .int x3), (4, .int x4), (6, .int x6)]) hx hb d_Mo_spreads_106 hl (k := 5) rfl (rfl) (by decide) rfl (fun ls hl => ?_)
  refine lv_goto (tgt := 32) hx hb d_Mo_spreads_109 (by decide) ?_
  exact k_32 H locs ls (lv_sub hl [1, 2, 3, 4, 5, 0] rfl) hP hD hS
set_option maxHeartbeats 1000000 in
set_option maxRecDepth 100000 in
theorem k_Mo_spreads_112 {C : CT} (X : cM C "QuestionTextModel" b_Mo_spreads 7 (some .boolean)) (Post : Int32 → FT → GT → Prop) (x1 : Int32) (x2 : Int32) (x3 : Int32) (x4 : Int32) (x5 : Int32) (f : FT) (g : GT)
    (k_12 : zn_spreads C Post 12 [(0, .ref (ad C.1 0)), (1, .int x1), (2, .int x2), (3, .int (x3 + 1))] [] f g) : zn_spreads C Post 112 [(0, .ref (ad C.1 0)), (1, .int x1), (2, .int x2), (3, .int x3), (4, .int x4), (5, .int x5)] [] f g := by
  obtain ⟨⟨l, dC, dI, k, a⟩, p, e, s, m, args, below, meth, c, A⟩ := C
  obtain ⟨hx, hb, hr, htz, hown, hlocks, hml, hE, hK, hA⟩ := X
  intro H locs ls hl hP hD hS
  have hl : lv_has ls 7 [(0, .ref (a 0)), (1, .int x1), (2, .int x2), (3, .int x3), (4, .int x4), (5, .int x5)] := hl
  have hP : va_P (dC, dI) classes (mw k a f g) H := hP
  have hD : va_D A (mw k a f g) := hD
  show W p l e (z_rm 1 0 0) s m args below meth c H locs 0 0 _ (F0 m 112 ls [])
  refine lv_iinc (v := x3 + 1) (lv' := [(3, .int (x3 + 1)), (0, .ref (a 0)), (1, .int x1), (2, .int x2), (4, .int x4), (5, .int x5)]) hx hb d_Mo_spreads_112 hl (k := 3) rfl (rfl) (by decide) rfl (fun ls hl => ?_)
  refine lv_goto (tgt := 12) hx hb d_Mo_spreads_115 (by decide) ?_
  exact k_12 H locs ls (lv_sub hl [1, 2, 3, 0] rfl) hP hD hS
set_option maxHeartbeats 1000000 in
set_option maxRecDepth 100000 in
theorem e_Mo_spreads (T : ST) (Post : Int32 → FT → GT → Prop) (f : FT) (g : GT) (h : ∀ C : CT, C.1 = T → cM C "QuestionTextModel" b_Mo_spreads 7 (some .boolean) → zn_spreads C Post 0 [(0, .ref (ad C.1 0))] [] f g) : mI T y_Mo_spreads (Cond.code y_Mo_spreads b_Mo_spreads 7 (some .boolean)) 1 [.ref (ad T 0)] f g Post := by
  obtain ⟨l, dC, dI, k, a⟩ := T
  intro sz
  refine Met.ofW (cc := b_Mo_spreads) (maxL := 7) (ret := (some .boolean)) (by decide) rfl ?_
  intro p e s m args below meth c s₁ B hml hv
  obtain ⟨rfl, hsz, hE, hP, hK, hD0⟩ := hv
  have hts := atoms_spec (ws := (Cond.code y_Mo_spreads b_Mo_spreads 7 (some .boolean)) :: z_T) B.pre
  have htz : ∀ w ∈ z_T, w.before _ s = true := fun w h => hts w (z_cons w h)
  subst hsz
  have hD := hD0.self (sz := s.heap.size)
  generalize hAe : va_A (mw k a f g) s.heap.size = A at hD hE ⊢
  have hA : ∀ q : Nat, s.heap.size ≤ q → A q := fun q h => by rw [← hAe]; exact Or.inr h
  have hl := lv_entry ([.ref (a 0)]) (n := 7) (Nat.le_of_ble_eq_true rfl)
  rw [lg_entry_eq]
  generalize (lg_sl ([.ref (a 0)]) ++ List.replicate (7 - (lg_sl ([.ref (a 0)])).length) Slot.unset).toArray = ls at hl ⊢
  exact h ((l, dC, dI, k, a), p, e, s, m, ([.ref (a 0)] : List Value).toArray, below, meth, c, A) rfl ⟨B.exec, B.bytes, B.returns, htz, findClass_of_methodNamed B.named, B.notSynchronized, hml, hE, hK, hA⟩ s.heap [] ls hl hP hD va_S.rf
def zn_unmark (C : CT) (Post : FT → GT → Prop) (pc : Nat) (loc : List (Nat × Value)) (st : List Value) (f : FT) (g : GT) : Prop := zW C (z_rm 0 0 0) 2 (qV C Post) 0 0 pc loc st (mM C.1 f g)
set_option maxHeartbeats 1000000 in
set_option maxRecDepth 100000 in
theorem k_Mo_unmark_0 {C : CT} (X : cM C "QuestionTextModel" b_Mo_unmark 2 none) (Post : FT → GT → Prop) (f : FT) (g : GT)
    (k_2 : zn_unmark C Post 2 [(0, .ref (ad C.1 0)), (1, .int 0)] [] f g) : zn_unmark C Post 0 [(0, .ref (ad C.1 0))] [] f g := by
  obtain ⟨⟨l, dC, dI, k, a⟩, p, e, s, m, args, below, meth, c, A⟩ := C
  obtain ⟨hx, hb, hr, htz, hown, hlocks, hml, hE, hK, hA⟩ := X
  intro H locs ls hl hP hD hS
  have hl : lv_has ls 2 [(0, .ref (a 0))] := hl
  have hP : va_P (dC, dI) classes (mw k a f g) H := hP
  have hD : va_D A (mw k a f g) := hD
  show W p l e (z_rm 0 0 0) s m args below meth c H locs 0 0 _ (F0 m 0 ls [])
  refine lv_iconst (v := 0) hx hb d_Mo_unmark_0 (by decide) ?_
  refine lv_istore_n (lv' := [(1, .int 0), (0, .ref (a 0))]) hx hb d_Mo_unmark_1 rfl hl (by decide) rfl (fun ls hl => ?_)
  exact k_2 H locs ls (lv_sub hl [1, 0] rfl) hP hD hS
set_option maxHeartbeats 1000000 in
set_option maxRecDepth 100000 in
theorem k_Mo_unmark_2 {C : CT} (X : cM C "QuestionTextModel" b_Mo_unmark 2 none) (Post : FT → GT → Prop) (x1 : Int32) (f : FT) (g : GT)
    (q_21 : (61 ≤ x1) → Post f g)
    (h_14 : (¬ 61 ≤ x1) → vp_in (x1) 61)
    (k_2 : (¬ 61 ≤ x1) → zn_unmark C Post 2 [(0, .ref (ad C.1 0)), (1, .int (x1 + 1))] [] f (va_up g 17 (upd (g 17) (x1 : Int32).toNatClampNeg (vp_nar .boolean 0)))) : zn_unmark C Post 2 [(0, .ref (ad C.1 0)), (1, .int x1)] [] f g := by
  obtain ⟨⟨l, dC, dI, k, a⟩, p, e, s, m, args, below, meth, c, A⟩ := C
  obtain ⟨hx, hb, hr, htz, hown, hlocks, hml, hE, hK, hA⟩ := X
  intro H locs ls hl hP hD hS
  have hl : lv_has ls 2 [(0, .ref (a 0)), (1, .int x1)] := hl
  have hP : va_P (dC, dI) classes (mw k a f g) H := hP
  have hD : va_D A (mw k a f g) := hD
  show W p l e (z_rm 0 0 0) s m args below meth c H locs 0 0 _ (F0 m 2 ls [])
  refine lv_iload_n hx hb d_Mo_unmark_2 rfl (lv_at hl 1 rfl) ?_
  refine lv_bipush (v := 61) hx hb d_Mo_unmark_3 (by decide) ?_
  refine lv_icmp_ge (tgt := 21) hx hb d_Mo_unmark_5 (by decide) (fun c_5 => ?_) (fun c_5 => ?_)
  · exact W.vret hx hb hr (fun t ht hW => ⟨⟨(f, g), rfl, (q_21 c_5), by rw [ht]; exact hP, va_K.moved hW.alike hK, hD⟩, hS.F ht⟩) hS.2.2 d_Mo_unmark_21
  · refine lv_aload_n hx hb d_Mo_unmark_8 rfl (lv_at hl 0 rfl) ?_
    refine va_get (D := (dC, dI)) (ci := 4) (v := .ref (a 18)) (C := R_Mo) (T := F_Mo) (N := 31) hx hb htz i_Mo hown hK hP 0 rfl rfl 30 (by decide) (htz _ kf_Mo_66) (fun _ h9 => h9) rfl d_Mo_unmark_9 ?_
    refine lv_iload_n hx hb d_Mo_unmark_12 rfl (lv_at hl 1 rfl) ?_
    refine lv_iconst (v := 0) hx hb d_Mo_unmark_13 (by decide) ?_
    refine va_zast hx hb hK hP hD hS 18 2 rfl rfl (h_14 c_5) d_Mo_unmark_14 (fun H locs hP hD hS => ?_)
    replace hP := mg_17 (c := upd (g 17) (x1 : Int32).toNatClampNeg (vp_nar .boolean 0)) hP
    replace hD := mh_17 (c := upd (g 17) (x1 : Int32).toNatClampNeg (vp_nar .boolean 0)) hD
    refine lv_iinc (v := x1 + 1) (lv' := [(1, .int (x1 + 1)), (0, .ref (a 0))]) hx hb d_Mo_unmark_15 hl (k := 1) rfl (rfl) (by decide) rfl (fun ls hl => ?_)
    refine lv_goto (tgt := 2) hx hb d_Mo_unmark_18 (by decide) ?_
    exact (k_2 c_5) H locs ls (lv_sub hl [1, 0] rfl) hP hD hS
set_option maxHeartbeats 1000000 in
set_option maxRecDepth 100000 in
theorem e_Mo_unmark (T : ST) (Post : FT → GT → Prop) (f : FT) (g : GT) (h : ∀ C : CT, C.1 = T → cM C "QuestionTextModel" b_Mo_unmark 2 none → zn_unmark C Post 0 [(0, .ref (ad C.1 0))] [] f g) : mV T y_Mo_unmark (Cond.code y_Mo_unmark b_Mo_unmark 2 none) 0 [.ref (ad T 0)] f g Post := by
  obtain ⟨l, dC, dI, k, a⟩ := T
  intro sz
  refine Met.ofW (cc := b_Mo_unmark) (maxL := 2) (ret := none) (by decide) rfl ?_
  intro p e s m args below meth c s₁ B hml hv
  obtain ⟨rfl, hsz, hE, hP, hK, hD0⟩ := hv
  have hts := atoms_spec (ws := (Cond.code y_Mo_unmark b_Mo_unmark 2 none) :: z_T) B.pre
  have htz : ∀ w ∈ z_T, w.before _ s = true := fun w h => hts w (z_cons w h)
  subst hsz
  have hD := hD0.self (sz := s.heap.size)
  generalize hAe : va_A (mw k a f g) s.heap.size = A at hD hE ⊢
  have hA : ∀ q : Nat, s.heap.size ≤ q → A q := fun q h => by rw [← hAe]; exact Or.inr h
  have hl := lv_entry ([.ref (a 0)]) (n := 2) (Nat.le_of_ble_eq_true rfl)
  rw [lg_entry_eq]
  generalize (lg_sl ([.ref (a 0)]) ++ List.replicate (2 - (lg_sl ([.ref (a 0)])).length) Slot.unset).toArray = ls at hl ⊢
  exact h ((l, dC, dI, k, a), p, e, s, m, ([.ref (a 0)] : List Value).toArray, below, meth, c, A) rfl ⟨B.exec, B.bytes, B.returns, htz, findClass_of_methodNamed B.named, B.notSynchronized, hml, hE, hK, hA⟩ s.heap [] ls hl hP hD va_S.rf
def zn_loops (C : CT) (Post : Int32 → FT → GT → Prop) (pc : Nat) (loc : List (Nat × Value)) (st : List Value) (f : FT) (g : GT) : Prop := zW C (z_rm 2 0 0) 5 (qI C Post) 0 0 pc loc st (mM C.1 f g)
set_option maxHeartbeats 1000000 in
set_option maxRecDepth 100000 in
theorem k_Mo_loops_0 {C : CT} (X : cM C "QuestionTextModel" b_Mo_loops 5 (some .boolean)) (Post : Int32 → FT → GT → Prop) {P_1 : FT → GT → Prop} (x1 : Int32) (f : FT) (g : GT)
    (m_1 : mV C.1 y_Mo_unmark (Cond.code y_Mo_unmark b_Mo_unmark 2 none) 0 [.ref (ad C.1 0)] f g P_1)
    (k_1 : ∀ (f1 : FT) (g1 : GT), P_1 f1 g1 → zn_loops C Post 4 [(0, .ref (ad C.1 0)), (1, .int x1)] [] f1 g1) : zn_loops C Post 0 [(0, .ref (ad C.1 0)), (1, .int x1)] [] f g := by
  obtain ⟨⟨l, dC, dI, k, a⟩, p, e, s, m, args, below, meth, c, A⟩ := C
  obtain ⟨hx, hb, hr, htz, hown, hlocks, hml, hE, hK, hA⟩ := X
  intro H locs ls hl hP hD hS
  have hl : lv_has ls 5 [(0, .ref (a 0)), (1, .int x1)] := hl
  have hP : va_P (dC, dI) classes (mw k a f g) H := hP
  have hD : va_D A (mw k a f g) := hD
  show W p l e (z_rm 2 0 0) s m args below meth c H locs 0 0 _ (F0 m 0 ls [])
  refine lv_aload_n hx hb d_Mo_loops_0 rfl (lv_at hl 0 rfl) ?_
  have hFc := va_free (wc := mw k a f g) hD hS hA [0, 1, 2, 3, 4, 5, 6, 7, 8, 9, 10, 11, 12, 13, 14, 15, 16, 17, 18] rfl
  refine va_callv (va_runV (As := []) (rest := []) ⟨hx, hb, hml, hown, htz⟩ (m_1 H.size) (cwV 0 htz (z_gV (fun _ h => h) km_Mo_170 in_Mo_unmark se_Mo_unmark ini_Mo m_Mo_unmark) rfl rfl rfl (by decide +kernel) ⟨(Nat.le_of_ble_eq_true rfl), (Nat.le_of_ble_eq_true rfl)⟩) ⟨z_blind, va_recv hK hP (ci := 4) (q0 := 0) rfl rfl, fun U hU hW => ⟨rfl, by rw [hU], hE.call hS hFc hU hW, by rw [hU]; exact hP, va_K.moved hW.alike hK, hD.weaken (fun _ _ _ _ => trivial)⟩⟩ rfl rfl hl.1 rfl (lv_room (Nat.le_of_ble_eq_true rfl)) d_Mo_loops_1 ⟨(Nat.le_of_ble_eq_true rfl), (Nat.le_of_ble_eq_true rfl)⟩) hS (fun q _ h => hFc q h) hFc (fun u t H1 locs ht hvm hw hB hz1 hk1 hS => ?_)
  obtain ⟨hP1, hK1, hD1⟩ := hB
  rw [ht] at hP1
  exact k_1 _ _ hw H1 locs ls (lv_sub hl [0, 1] rfl) hP1 (hD1.weaken (fun _ q _ h => hFc _ h)) hS
set_option maxHeartbeats 1000000 in
set_option maxRecDepth 100000 in
theorem k_Mo_loops_4 {C : CT} (X : cM C "QuestionTextModel" b_Mo_loops 5 (some .boolean)) (Post : Int32 → FT → GT → Prop) (x1 : Int32) (f : FT) (g : GT)
    (k_16 : zn_loops C Post 16 [(0, .ref (ad C.1 0)), (1, .int x1), (2, .int (((f 4) * 61) + x1)), (3, .int 0)] [] f g) : zn_loops C Post 4 [(0, .ref (ad C.1 0)), (1, .int x1)] [] f g := by
  obtain ⟨⟨l, dC, dI, k, a⟩, p, e, s, m, args, below, meth, c, A⟩ := C
  obtain ⟨hx, hb, hr, htz, hown, hlocks, hml, hE, hK, hA⟩ := X
  intro H locs ls hl hP hD hS
  have hl : lv_has ls 5 [(0, .ref (a 0)), (1, .int x1)] := hl
  have hP : va_P (dC, dI) classes (mw k a f g) H := hP
  have hD : va_D A (mw k a f g) := hD
  show W p l e (z_rm 2 0 0) s m args below meth c H locs 0 0 _ (F0 m 4 ls [])
  refine lv_aload_n hx hb d_Mo_loops_4 rfl (lv_at hl 0 rfl) ?_
  refine va_get (D := (dC, dI)) (ci := 4) (v := .int (f 4)) (C := R_Mo) (T := F_Mo) (N := 31) hx hb htz i_Mo hown hK hP 0 rfl rfl 5 (by decide) (htz _ kf_Mo_126) (fun _ h9 => h9) rfl d_Mo_loops_5 ?_
  refine lv_bipush (v := 61) hx hb d_Mo_loops_8 (by decide) ?_
  refine lv_imul hx hb d_Mo_loops_10 ?_
  refine lv_iload_n hx hb d_Mo_loops_11 rfl (lv_at hl 1 rfl) ?_
  refine lv_iadd hx hb d_Mo_loops_12 ?_
  refine lv_istore_n (lv' := [(2, .int (((f 4) * 61) + x1)), (0, .ref (a 0)), (1, .int x1)]) hx hb d_Mo_loops_13 rfl hl (by decide) rfl (fun ls hl => ?_)
  refine lv_iconst (v := 0) hx hb d_Mo_loops_14 (by decide) ?_
  refine lv_istore_n (lv' := [(3, .int 0), (2, .int (((f 4) * 61) + x1)), (0, .ref (a 0)), (1, .int x1)]) hx hb d_Mo_loops_15 rfl hl (by decide) rfl (fun ls hl => ?_)
  exact k_16 H locs ls (lv_sub hl [2, 3, 1, 0] rfl) hP hD hS
set_option maxHeartbeats 1000000 in
set_option maxRecDepth 100000 in
theorem k_Mo_loops_16 {C : CT} (X : cM C "QuestionTextModel" b_Mo_loops 5 (some .boolean)) (Post : Int32 → FT → GT → Prop) {P_67 : Int32 → FT → GT → Prop} {P_46 : Int32 → FT → GT → Prop} (x1 : Int32) (x2 : Int32) (x3 : Int32) (f : FT) (g : GT)
    (h_22 : vp_in (x2) 610)
    (m_67 : (g 7 (x2 : Int32).toNatClampNeg ≤ x3) → mI C.1 y_Mo_spreads (Cond.code y_Mo_spreads b_Mo_spreads 7 (some .boolean)) 1 [.ref (ad C.1 0)] f g P_67)
    (k_67 : (g 7 (x2 : Int32).toNatClampNeg ≤ x3) → ∀ (r : Int32) (f1 : FT) (g1 : GT), P_67 r f1 g1 → zn_loops C Post 70 [(0, .ref (ad C.1 0)), (1, .int x1), (2, .int x2), (3, .int x3)] [.int r] f1 g1)
    (h_40 : (¬ g 7 (x2 : Int32).toNatClampNeg ≤ x3) → vp_in ((((x2 * 6) + x3) * 4) + 2) 14640)
    (m_46 : (¬ g 7 (x2 : Int32).toNatClampNeg ≤ x3) → mI C.1 y_Mo_isThere (Cond.code y_Mo_isThere b_Mo_isThere 2 (some .boolean)) 0 [.ref (ad C.1 0), .int (g 8 ((((x2 * 6) + x3) * 4) + 2 : Int32).toNatClampNeg)] f g P_46)
    (k_46 : (¬ g 7 (x2 : Int32).toNatClampNeg ≤ x3) → ∀ (r : Int32) (f1 : FT) (g1 : GT), P_46 r f1 g1 → zn_loops C Post 49 [(0, .ref (ad C.1 0)), (1, .int x1), (2, .int x2), (3, .int x3), (4, .int (g 8 ((((x2 * 6) + x3) * 4) + 2 : Int32).toNatClampNeg))] [.int r] f1 g1) : zn_loops C Post 16 [(0, .ref (ad C.1 0)), (1, .int x1), (2, .int x2), (3, .int x3)] [] f g := by
  obtain ⟨⟨l, dC, dI, k, a⟩, p, e, s, m, args, below, meth, c, A⟩ := C
  obtain ⟨hx, hb, hr, htz, hown, hlocks, hml, hE, hK, hA⟩ := X
  intro H locs ls hl hP hD hS
  have hl : lv_has ls 5 [(0, .ref (a 0)), (1, .int x1), (2, .int x2), (3, .int x3)] := hl
  have hP : va_P (dC, dI) classes (mw k a f g) H := hP
  have hD : va_D A (mw k a f g) := hD
  show W p l e (z_rm 2 0 0) s m args below meth c H locs 0 0 _ (F0 m 16 ls [])
  refine lv_iload_n hx hb d_Mo_loops_16 rfl (lv_at hl 3 rfl) ?_
  refine lv_aload_n hx hb d_Mo_loops_17 rfl (lv_at hl 0 rfl) ?_
  refine va_get (D := (dC, dI)) (ci := 4) (v := .ref (a 8)) (C := R_Mo) (T := F_Mo) (N := 31) hx hb htz i_Mo hown hK hP 0 rfl rfl 12 (by decide) (htz _ kf_Mo_36) (fun _ h9 => h9) rfl d_Mo_loops_18 ?_
  refine lv_iload_n hx hb d_Mo_loops_21 rfl (lv_at hl 2 rfl) ?_
  refine va_iald hx hb hK hP 8 0 rfl rfl h_22 d_Mo_loops_22 ?_
  refine lv_icmp_ge (tgt := 66) hx hb d_Mo_loops_23 (by decide) (fun c_23 => ?_) (fun c_23 => ?_)
  · refine lv_aload_n hx hb d_Mo_loops_66 rfl (lv_at hl 0 rfl) ?_
    have hFc := va_free (wc := mw k a f g) hD hS hA [0, 1, 2, 3, 4, 5, 6, 7, 8, 9, 10, 11, 12, 13, 14, 15, 16, 17, 18] rfl
    refine va_calli (va_runV (As := []) (rest := []) ⟨hx, hb, hml, hown, htz⟩ ((m_67 c_23) H.size) (cwV 0 htz (z_gV (fun _ h => h) km_Mo_173 in_Mo_spreads se_Mo_spreads ini_Mo m_Mo_spreads) rfl rfl rfl (by decide +kernel) ⟨(Nat.le_of_ble_eq_true rfl), (Nat.le_of_ble_eq_true rfl)⟩) ⟨z_blind, va_recv hK hP (ci := 4) (q0 := 0) rfl rfl, fun U hU hW => ⟨rfl, by rw [hU], hE.call hS hFc hU hW, by rw [hU]; exact hP, va_K.moved hW.alike hK, hD.weaken (fun _ _ _ _ => trivial)⟩⟩ rfl rfl hl.1 rfl (lv_room (Nat.le_of_ble_eq_true rfl)) d_Mo_loops_67 ⟨(Nat.le_of_ble_eq_true rfl), (Nat.le_of_ble_eq_true rfl)⟩) hS (fun q _ h => hFc q h) hFc (fun r u t H1 locs ht hvm hw hB hz1 hk1 hS => ?_)
    obtain ⟨hP1, hK1, hD1⟩ := hB
    rw [ht] at hP1
    exact (k_67 c_23) r _ _ hw H1 locs ls (lv_sub hl [0, 1, 2, 3] rfl) hP1 (hD1.weaken (fun _ q _ h => hFc _ h)) hS
  · refine lv_aload_n hx hb d_Mo_loops_26 rfl (lv_at hl 0 rfl) ?_
    refine va_get (D := (dC, dI)) (ci := 4) (v := .ref (a 9)) (C := R_Mo) (T := F_Mo) (N := 31) hx hb htz i_Mo hown hK hP 0 rfl rfl 13 (by decide) (htz _ kf_Mo_39) (fun _ h9 => h9) rfl d_Mo_loops_27 ?_
    refine lv_iload_n hx hb d_Mo_loops_30 rfl (lv_at hl 2 rfl) ?_
    refine lv_bipush (v := 6) hx hb d_Mo_loops_31 (by decide) ?_
    refine lv_imul hx hb d_Mo_loops_33 ?_
    refine lv_iload_n hx hb d_Mo_loops_34 rfl (lv_at hl 3 rfl) ?_
    refine lv_iadd hx hb d_Mo_loops_35 ?_
    refine lv_iconst (v := 4) hx hb d_Mo_loops_36 (by decide) ?_
    refine lv_imul hx hb d_Mo_loops_37 ?_
    refine lv_iconst (v := 2) hx hb d_Mo_loops_38 (by decide) ?_
    refine lv_iadd hx hb d_Mo_loops_39 ?_
    refine va_iald hx hb hK hP 9 0 rfl rfl (h_40 c_23) d_Mo_loops_40 ?_
    refine lv_istore (lv' := [(4, .int (g 8 ((((x2 * 6) + x3) * 4) + 2 : Int32).toNatClampNeg)), (0, .ref (a 0)), (1, .int x1), (2, .int x2), (3, .int x3)]) hx hb d_Mo_loops_41 hl (by decide) rfl (fun ls hl => ?_)
    refine lv_aload_n hx hb d_Mo_loops_43 rfl (lv_at hl 1 rfl) ?_
    refine lv_iload hx hb d_Mo_loops_44 (lv_at hl 0 rfl) ?_
    have hFc := va_free (wc := mw k a f g) hD hS hA [0, 1, 2, 3, 4, 5, 6, 7, 8, 9, 10, 11, 12, 13, 14, 15, 16, 17, 18] rfl
    refine va_calli (va_runV (As := [.int (g 8 ((((x2 * 6) + x3) * 4) + 2 : Int32).toNatClampNeg)]) (rest := []) ⟨hx, hb, hml, hown, htz⟩ ((m_46 c_23) H.size) (cwV 1 htz (z_gV (fun _ h => h) km_Mo_151 in_Mo_isThere se_Mo_isThere ini_Mo m_Mo_isThere) rfl rfl rfl (by decide +kernel) ⟨(Nat.le_of_ble_eq_true rfl), (Nat.le_of_ble_eq_true rfl)⟩) ⟨z_blind, va_recv hK hP (ci := 4) (q0 := 0) rfl rfl, fun U hU hW => ⟨rfl, by rw [hU], hE.call hS hFc hU hW, by rw [hU]; exact hP, va_K.moved hW.alike hK, hD.weaken (fun _ _ _ _ => trivial)⟩⟩ rfl rfl hl.1 rfl (lv_room (Nat.le_of_ble_eq_true rfl)) d_Mo_loops_46 ⟨(Nat.le_of_ble_eq_true rfl), (Nat.le_of_ble_eq_true rfl)⟩) hS (fun q _ h => hFc q h) hFc (fun r u t H1 locs ht hvm hw hB hz1 hk1 hS => ?_)
    obtain ⟨hP1, hK1, hD1⟩ := hB
    rw [ht] at hP1
    exact (k_46 c_23) r _ _ hw H1 locs ls (lv_sub hl [1, 2, 3, 4, 0] rfl) hP1 (hD1.weaken (fun _ q _ h => hFc _ h)) hS
set_option maxHeartbeats 1000000 in
set_option maxRecDepth 100000 in
theorem k_Mo_loops_49 {C : CT} (X : cM C "QuestionTextModel" b_Mo_loops 5 (some .boolean)) (Post : Int32 → FT → GT → Prop) (x1 : Int32) (x2 : Int32) (x3 : Int32) (x4 : Int32) (y0 : Int32) (f : FT) (g : GT)
    (k_60 : (y0 = 0) → zn_loops C Post 60 [(0, .ref (ad C.1 0)), (1, .int x1), (2, .int x2), (3, .int x3), (4, .int x4)] [] f g)
    (h_59 : (¬ y0 = 0) → vp_in (x4) 61)
    (k_60_1 : (¬ y0 = 0) → zn_loops C Post 60 [(0, .ref (ad C.1 0)), (1, .int x1), (2, .int x2), (3, .int x3), (4, .int x4)] [] f (va_up g 17 (upd (g 17) (x4 : Int32).toNatClampNeg (vp_nar .boolean 1)))) : zn_loops C Post 49 [(0, .ref (ad C.1 0)), (1, .int x1), (2, .int x2), (3, .int x3), (4, .int x4)] [.int y0] f g := by
  obtain ⟨⟨l, dC, dI, k, a⟩, p, e, s, m, args, below, meth, c, A⟩ := C
  obtain ⟨hx, hb, hr, htz, hown, hlocks, hml, hE, hK, hA⟩ := X
  intro H locs ls hl hP hD hS
  have hl : lv_has ls 5 [(0, .ref (a 0)), (1, .int x1), (2, .int x2), (3, .int x3), (4, .int x4)] := hl
  have hP : va_P (dC, dI) classes (mw k a f g) H := hP
  have hD : va_D A (mw k a f g) := hD
  show W p l e (z_rm 2 0 0) s m args below meth c H locs 0 0 _ (F0 m 49 ls [.int y0])
  refine lv_if_eq (tgt := 60) hx hb d_Mo_loops_49 (by decide) (fun c_49 => ?_) (fun c_49 => ?_)
  · exact (k_60 c_49) H locs ls (lv_sub hl [0, 1, 2, 3, 4] rfl) hP hD hS
  · refine lv_aload_n hx hb d_Mo_loops_52 rfl (lv_at hl 0 rfl) ?_
    refine va_get (D := (dC, dI)) (ci := 4) (v := .ref (a 18)) (C := R_Mo) (T := F_Mo) (N := 31) hx hb htz i_Mo hown hK hP 0 rfl rfl 30 (by decide) (htz _ kf_Mo_66) (fun _ h9 => h9) rfl d_Mo_loops_53 ?_
    refine lv_iload hx hb d_Mo_loops_56 (lv_at hl 4 rfl) ?_
    refine lv_iconst (v := 1) hx hb d_Mo_loops_58 (by decide) ?_
    refine va_zast hx hb hK hP hD hS 18 2 rfl rfl (h_59 c_49) d_Mo_loops_59 (fun H locs hP hD hS => ?_)
    replace hP := mg_17 (c := upd (g 17) (x4 : Int32).toNatClampNeg (vp_nar .boolean 1)) hP
    replace hD := mh_17 (c := upd (g 17) (x4 : Int32).toNatClampNeg (vp_nar .boolean 1)) hD
    exact (k_60_1 c_49) H locs ls (lv_sub hl [0, 1, 2, 3, 4] rfl) hP hD hS
set_option maxHeartbeats 1000000 in
set_option maxRecDepth 100000 in
theorem k_Mo_loops_60 {C : CT} (X : cM C "QuestionTextModel" b_Mo_loops 5 (some .boolean)) (Post : Int32 → FT → GT → Prop) (x1 : Int32) (x2 : Int32) (x3 : Int32) (x4 : Int32) (f : FT) (g : GT)
    (k_16 : zn_loops C Post 16 [(0, .ref (ad C.1 0)), (1, .int x1), (2, .int x2), (3, .int (x3 + 1))] [] f g) : zn_loops C Post 60 [(0, .ref (ad C.1 0)), (1, .int x1), (2, .int x2), (3, .int x3), (4, .int x4)] [] f g := by
  obtain ⟨⟨l, dC, dI, k, a⟩, p, e, s, m, args, below, meth, c, A⟩ := C
  obtain ⟨hx, hb, hr, htz, hown, hlocks, hml, hE, hK, hA⟩ := X
  intro H locs ls hl hP hD hS
  have hl : lv_has ls 5 [(0, .ref (a 0)), (1, .int x1), (2, .int x2), (3, .int x3), (4, .int x4)] := hl
  have hP : va_P (dC, dI) classes (mw k a f g) H := hP
  have hD : va_D A (mw k a f g) := hD
  show W p l e (z_rm 2 0 0) s m args below meth c H locs 0 0 _ (F0 m 60 ls [])
  refine lv_iinc (v := x3 + 1) (lv' := [(3, .int (x3 + 1)), (0, .ref (a 0)), (1, .int x1), (2, .int x2), (4, .int x4)]) hx hb d_Mo_loops_60 hl (k := 3) rfl (rfl) (by decide) rfl (fun ls hl => ?_)
  refine lv_goto (tgt := 16) hx hb d_Mo_loops_63 (by decide) ?_
  exact k_16 H locs ls (lv_sub hl [1, 2, 3, 0] rfl) hP hD hS
set_option maxHeartbeats 1000000 in
set_option maxRecDepth 100000 in
theorem k_Mo_loops_70 {C : CT} (X : cM C "QuestionTextModel" b_Mo_loops 5 (some .boolean)) (Post : Int32 → FT → GT → Prop) (x1 : Int32) (x2 : Int32) (x3 : Int32) (y0 : Int32) (f : FT) (g : GT)
    (h_76 : vp_in (x1) 61)
    (q_77 : Post (g 17 (x1 : Int32).toNatClampNeg) f g)
    (z_77 : narrow .boolean (.int (g 17 (x1 : Int32).toNatClampNeg)) = .int (g 17 (x1 : Int32).toNatClampNeg)) : zn_loops C Post 70 [(0, .ref (ad C.1 0)), (1, .int x1), (2, .int x2), (3, .int x3)] [.int y0] f g := by
  obtain ⟨⟨l, dC, dI, k, a⟩, p, e, s, m, args, below, meth, c, A⟩ := C
  obtain ⟨hx, hb, hr, htz, hown, hlocks, hml, hE, hK, hA⟩ := X
  intro H locs ls hl hP hD hS
  have hl : lv_has ls 5 [(0, .ref (a 0)), (1, .int x1), (2, .int x2), (3, .int x3)] := hl
  have hP : va_P (dC, dI) classes (mw k a f g) H := hP
  have hD : va_D A (mw k a f g) := hD
  show W p l e (z_rm 2 0 0) s m args below meth c H locs 0 0 _ (F0 m 70 ls [.int y0])
  refine lv_istore_n (lv' := [(3, .int y0), (0, .ref (a 0)), (1, .int x1), (2, .int x2)]) hx hb d_Mo_loops_70 rfl hl (by decide) rfl (fun ls hl => ?_)
  refine lv_aload_n hx hb d_Mo_loops_71 rfl (lv_at hl 1 rfl) ?_
  refine va_get (D := (dC, dI)) (ci := 4) (v := .ref (a 18)) (C := R_Mo) (T := F_Mo) (N := 31) hx hb htz i_Mo hown hK hP 0 rfl rfl 30 (by decide) (htz _ kf_Mo_66) (fun _ h9 => h9) rfl d_Mo_loops_72 ?_
  refine lv_iload_n hx hb d_Mo_loops_75 rfl (lv_at hl 2 rfl) ?_
  refine va_zald hx hb hK hP 18 2 rfl rfl h_76 d_Mo_loops_76 ?_
  exact W.zret (v := g 17 (x1 : Int32).toNatClampNeg) (ty := .boolean) hx hb hr z_77 (fun t ht hW => ⟨⟨_, (f, g), rfl, q_77, by rw [ht]; exact hP, va_K.moved hW.alike hK, hD⟩, hS.F ht⟩) hS.2.2 d_Mo_loops_77
set_option maxHeartbeats 1000000 in
set_option maxRecDepth 100000 in
theorem e_Mo_loops (T : ST) (Post : Int32 → FT → GT → Prop) (x1 : Int32) (f : FT) (g : GT) (h : ∀ C : CT, C.1 = T → cM C "QuestionTextModel" b_Mo_loops 5 (some .boolean) → zn_loops C Post 0 [(0, .ref (ad C.1 0)), (1, .int x1)] [] f g) : mI T y_Mo_loops (Cond.code y_Mo_loops b_Mo_loops 5 (some .boolean)) 2 [.ref (ad T 0), .int x1] f g Post := by
  obtain ⟨l, dC, dI, k, a⟩ := T
  intro sz
  refine Met.ofW (cc := b_Mo_loops) (maxL := 5) (ret := (some .boolean)) (by decide) rfl ?_
  intro p e s m args below meth c s₁ B hml hv
  obtain ⟨rfl, hsz, hE, hP, hK, hD0⟩ := hv
  have hts := atoms_spec (ws := (Cond.code y_Mo_loops b_Mo_loops 5 (some .boolean)) :: z_T) B.pre
  have htz : ∀ w ∈ z_T, w.before _ s = true := fun w h => hts w (z_cons w h)
  subst hsz
  have hD := hD0.self (sz := s.heap.size)
  generalize hAe : va_A (mw k a f g) s.heap.size = A at hD hE ⊢
  have hA : ∀ q : Nat, s.heap.size ≤ q → A q := fun q h => by rw [← hAe]; exact Or.inr h
  have hl := lv_entry ([.ref (a 0), .int x1]) (n := 5) (Nat.le_of_ble_eq_true rfl)
  rw [lg_entry_eq]
  generalize (lg_sl ([.ref (a 0), .int x1]) ++ List.replicate (5 - (lg_sl ([.ref (a 0), .int x1])).length) Slot.unset).toArray = ls at hl ⊢
  exact h ((l, dC, dI, k, a), p, e, s, m, ([.ref (a 0), .int x1] : List Value).toArray, below, meth, c, A) rfl ⟨B.exec, B.bytes, B.returns, htz, findClass_of_methodNamed B.named, B.notSynchronized, hml, hE, hK, hA⟩ s.heap [] ls hl hP hD va_S.rf
def zn_loop (C : CT) (Post : Int32 → FT → GT → Prop) (pc : Nat) (loc : List (Nat × Value)) (st : List Value) (f : FT) (g : GT) : Prop := zW C (z_rm 3 0 0) 4 (qI C Post) 0 0 pc loc st (mM C.1 f g)
set_option maxHeartbeats 1000000 in
set_option maxRecDepth 100000 in
theorem k_Mo_loop_0 {C : CT} (X : cM C "QuestionTextModel" b_Mo_loop 4 (some .int)) (Post : Int32 → FT → GT → Prop) (x1 : Int32) (f : FT) (g : GT)
    (k_10 : (x1 < 0) → zn_loop C Post 10 [(0, .ref (ad C.1 0)), (1, .int x1)] [.int 0, .ref (ad C.1 0)] f g)
    (k_10_1 : (¬ x1 < 0) → zn_loop C Post 10 [(0, .ref (ad C.1 0)), (1, .int x1)] [.int 1, .ref (ad C.1 0)] f g) : zn_loop C Post 0 [(0, .ref (ad C.1 0)), (1, .int x1)] [] f g := by
  obtain ⟨⟨l, dC, dI, k, a⟩, p, e, s, m, args, below, meth, c, A⟩ := C
  obtain ⟨hx, hb, hr, htz, hown, hlocks, hml, hE, hK, hA⟩ := X
  intro H locs ls hl hP hD hS
  have hl : lv_has ls 4 [(0, .ref (a 0)), (1, .int x1)] := hl
  have hP : va_P (dC, dI) classes (mw k a f g) H := hP
  have hD : va_D A (mw k a f g) := hD
  show W p l e (z_rm 3 0 0) s m args below meth c H locs 0 0 _ (F0 m 0 ls [])
  refine lv_aload_n hx hb d_Mo_loop_0 rfl (lv_at hl 0 rfl) ?_
  refine lv_iload_n hx hb d_Mo_loop_1 rfl (lv_at hl 1 rfl) ?_
  refine lv_if_lt (tgt := 9) hx hb d_Mo_loop_2 (by decide) (fun c_2 => ?_) (fun c_2 => ?_)
  · refine lv_iconst (v := 0) hx hb d_Mo_loop_9 (by decide) ?_
    exact (k_10 c_2) H locs ls (lv_sub hl [0, 1] rfl) hP hD hS
  · refine lv_iconst (v := 1) hx hb d_Mo_loop_5 (by decide) ?_
    refine lv_goto (tgt := 10) hx hb d_Mo_loop_6 (by decide) ?_
    exact (k_10_1 c_2) H locs ls (lv_sub hl [0, 1] rfl) hP hD hS
set_option maxHeartbeats 1000000 in
set_option maxRecDepth 100000 in
theorem k_Mo_loop_10 {C : CT} (X : cM C "QuestionTextModel" b_Mo_loop 4 (some .int)) (Post : Int32 → FT → GT → Prop) {P_10 : Int32 → FT → GT → Prop} (x1 : Int32) (y0 : Int32) (f : FT) (g : GT)
    (m_10 : mI C.1 y_Mo_says (Cond.code y_Mo_says b_Mo_says 2 (some .boolean)) 0 [.ref (ad C.1 0), .int y0] f g P_10)
    (k_10 : ∀ (r : Int32) (f1 : FT) (g1 : GT), P_10 r f1 g1 → zn_loop C Post 13 [(0, .ref (ad C.1 0)), (1, .int x1)] [.int r] f1 g1) : zn_loop C Post 10 [(0, .ref (ad C.1 0)), (1, .int x1)] [.int y0, .ref (ad C.1 0)] f g := by
  obtain ⟨⟨l, dC, dI, k, a⟩, p, e, s, m, args, below, meth, c, A⟩ := C
  obtain ⟨hx, hb, hr, htz, hown, hlocks, hml, hE, hK, hA⟩ := X
  intro H locs ls hl hP hD hS
  have hl : lv_has ls 4 [(0, .ref (a 0)), (1, .int x1)] := hl
  have hP : va_P (dC, dI) classes (mw k a f g) H := hP
  have hD : va_D A (mw k a f g) := hD
  show W p l e (z_rm 3 0 0) s m args below meth c H locs 0 0 _ (F0 m 10 ls [.int y0, .ref (a 0)])
  have hFc := va_free (wc := mw k a f g) hD hS hA [0, 1, 2, 3, 4, 5, 6, 7, 8, 9, 10, 11, 12, 13, 14, 15, 16, 17, 18] rfl
  refine va_calli (va_runV (As := [.int y0]) (rest := []) ⟨hx, hb, hml, hown, htz⟩ (m_10 H.size) (cwV 1 htz (z_gV (fun _ h => h) km_Mo_147 in_Mo_says se_Mo_says ini_Mo m_Mo_says) rfl rfl rfl (by decide +kernel) ⟨(Nat.le_of_ble_eq_true rfl), (Nat.le_of_ble_eq_true rfl)⟩) ⟨z_blind, va_recv hK hP (ci := 4) (q0 := 0) rfl rfl, fun U hU hW => ⟨rfl, by rw [hU], hE.call hS hFc hU hW, by rw [hU]; exact hP, va_K.moved hW.alike hK, hD.weaken (fun _ _ _ _ => trivial)⟩⟩ rfl rfl hl.1 rfl (lv_room (Nat.le_of_ble_eq_true rfl)) d_Mo_loop_10 ⟨(Nat.le_of_ble_eq_true rfl), (Nat.le_of_ble_eq_true rfl)⟩) hS (fun q _ h => hFc q h) hFc (fun r u t H1 locs ht hvm hw hB hz1 hk1 hS => ?_)
  obtain ⟨hP1, hK1, hD1⟩ := hB
  rw [ht] at hP1
  exact k_10 r _ _ hw H1 locs ls (lv_sub hl [0, 1] rfl) hP1 (hD1.weaken (fun _ q _ h => hFc _ h)) hS
set_option maxHeartbeats 1000000 in
set_option maxRecDepth 100000 in
theorem k_Mo_loop_13 {C : CT} (X : cM C "QuestionTextModel" b_Mo_loop 4 (some .int)) (Post : Int32 → FT → GT → Prop) (x1 : Int32) (y0 : Int32) (f : FT) (g : GT)
    (k_22 : (¬ y0 = 0) → zn_loop C Post 22 [(0, .ref (ad C.1 0)), (1, .int x1), (2, .int x1), (3, .int 1)] [] f g)
    (q_17 : (y0 = 0) → Post (0) f g) : zn_loop C Post 13 [(0, .ref (ad C.1 0)), (1, .int x1)] [.int y0] f g := by
  obtain ⟨⟨l, dC, dI, k, a⟩, p, e, s, m, args, below, meth, c, A⟩ := C
  obtain ⟨hx, hb, hr, htz, hown, hlocks, hml, hE, hK, hA⟩ := X
  intro H locs ls hl hP hD hS
  have hl : lv_has ls 4 [(0, .ref (a 0)), (1, .int x1)] := hl
  have hP : va_P (dC, dI) classes (mw k a f g) H := hP
  have hD : va_D A (mw k a f g) := hD
  show W p l e (z_rm 3 0 0) s m args below meth c H locs 0 0 _ (F0 m 13 ls [.int y0])
  refine lv_if_ne (tgt := 18) hx hb d_Mo_loop_13 (by decide) (fun c_13 => ?_) (fun c_13 => ?_)
  · refine lv_iload_n hx hb d_Mo_loop_18 rfl (lv_at hl 1 rfl) ?_
    refine lv_istore_n (lv' := [(2, .int x1), (0, .ref (a 0)), (1, .int x1)]) hx hb d_Mo_loop_19 rfl hl (by decide) rfl (fun ls hl => ?_)
    refine lv_iconst (v := 1) hx hb d_Mo_loop_20 (by decide) ?_
    refine lv_istore_n (lv' := [(3, .int 1), (2, .int x1), (0, .ref (a 0)), (1, .int x1)]) hx hb d_Mo_loop_21 rfl hl (by decide) rfl (fun ls hl => ?_)
    exact (k_22 c_13) H locs ls (lv_sub hl [2, 3, 1, 0] rfl) hP hD hS
  · refine lv_iconst (v := 0) hx hb d_Mo_loop_16 (by decide) ?_
    exact W.iret (v := 0) hx hb hr (fun t ht hW => ⟨⟨_, (f, g), rfl, (q_17 c_13), by rw [ht]; exact hP, va_K.moved hW.alike hK, hD⟩, hS.F ht⟩) hS.2.2 d_Mo_loop_17
set_option maxHeartbeats 1000000 in
set_option maxRecDepth 100000 in
theorem k_Mo_loop_22 {C : CT} (X : cM C "QuestionTextModel" b_Mo_loop 4 (some .int)) (Post : Int32 → FT → GT → Prop) {P_30 : Int32 → FT → GT → Prop} (x1 : Int32) (x2 : Int32) (x3 : Int32) (f : FT) (g : GT)
    (q_63 : (61 ≤ x3) → Post (0) f g)
    (m_30 : (¬ 61 ≤ x3) → mI C.1 y_Mo_isThere (Cond.code y_Mo_isThere b_Mo_isThere 2 (some .boolean)) 0 [.ref (ad C.1 0), .int x3] f g P_30)
    (k_30 : (¬ 61 ≤ x3) → ∀ (r : Int32) (f1 : FT) (g1 : GT), P_30 r f1 g1 → zn_loop C Post 33 [(0, .ref (ad C.1 0)), (1, .int x1), (2, .int x2), (3, .int x3)] [.int r] f1 g1) : zn_loop C Post 22 [(0, .ref (ad C.1 0)), (1, .int x1), (2, .int x2), (3, .int x3)] [] f g := by
  obtain ⟨⟨l, dC, dI, k, a⟩, p, e, s, m, args, below, meth, c, A⟩ := C
  obtain ⟨hx, hb, hr, htz, hown, hlocks, hml, hE, hK, hA⟩ := X
  intro H locs ls hl hP hD hS
  have hl : lv_has ls 4 [(0, .ref (a 0)), (1, .int x1), (2, .int x2), (3, .int x3)] := hl
  have hP : va_P (dC, dI) classes (mw k a f g) H := hP
  have hD : va_D A (mw k a f g) := hD
  show W p l e (z_rm 3 0 0) s m args below meth c H locs 0 0 _ (F0 m 22 ls [])
  refine lv_iload_n hx hb d_Mo_loop_22 rfl (lv_at hl 3 rfl) ?_
  refine lv_bipush (v := 61) hx hb d_Mo_loop_23 (by decide) ?_
  refine lv_icmp_ge (tgt := 62) hx hb d_Mo_loop_25 (by decide) (fun c_25 => ?_) (fun c_25 => ?_)
  · refine lv_iconst (v := 0) hx hb d_Mo_loop_62 (by decide) ?_
    exact W.iret (v := 0) hx hb hr (fun t ht hW => ⟨⟨_, (f, g), rfl, (q_63 c_25), by rw [ht]; exact hP, va_K.moved hW.alike hK, hD⟩, hS.F ht⟩) hS.2.2 d_Mo_loop_63
  · refine lv_aload_n hx hb d_Mo_loop_28 rfl (lv_at hl 0 rfl) ?_
    refine lv_iload_n hx hb d_Mo_loop_29 rfl (lv_at hl 3 rfl) ?_
    have hFc := va_free (wc := mw k a f g) hD hS hA [0, 1, 2, 3, 4, 5, 6, 7, 8, 9, 10, 11, 12, 13, 14, 15, 16, 17, 18] rfl
    refine va_calli (va_runV (As := [.int x3]) (rest := []) ⟨hx, hb, hml, hown, htz⟩ ((m_30 c_25) H.size) (cwV 1 htz (z_gV (fun _ h => h) km_Mo_151 in_Mo_isThere se_Mo_isThere ini_Mo m_Mo_isThere) rfl rfl rfl (by decide +kernel) ⟨(Nat.le_of_ble_eq_true rfl), (Nat.le_of_ble_eq_true rfl)⟩) ⟨z_blind, va_recv hK hP (ci := 4) (q0 := 0) rfl rfl, fun U hU hW => ⟨rfl, by rw [hU], hE.call hS hFc hU hW, by rw [hU]; exact hP, va_K.moved hW.alike hK, hD.weaken (fun _ _ _ _ => trivial)⟩⟩ rfl rfl hl.1 rfl (lv_room (Nat.le_of_ble_eq_true rfl)) d_Mo_loop_30 ⟨(Nat.le_of_ble_eq_true rfl), (Nat.le_of_ble_eq_true rfl)⟩) hS (fun q _ h => hFc q h) hFc (fun r u t H1 locs ht hvm hw hB hz1 hk1 hS => ?_)
    obtain ⟨hP1, hK1, hD1⟩ := hB
    rw [ht] at hP1
    exact (k_30 c_25) r _ _ hw H1 locs ls (lv_sub hl [0, 1, 2, 3] rfl) hP1 (hD1.weaken (fun _ q _ h => hFc _ h)) hS
set_option maxHeartbeats 1000000 in
set_option maxRecDepth 100000 in
theorem k_Mo_loop_33 {C : CT} (X : cM C "QuestionTextModel" b_Mo_loop 4 (some .int)) (Post : Int32 → FT → GT → Prop) {P_38 : Int32 → FT → GT → Prop} (x1 : Int32) (x2 : Int32) (x3 : Int32) (y0 : Int32) (f : FT) (g : GT)
    (k_56 : (y0 = 0) → zn_loop C Post 56 [(0, .ref (ad C.1 0)), (1, .int x1), (2, .int x2), (3, .int x3)] [] f g)
    (m_38 : (¬ y0 = 0) → mI C.1 y_Mo_loops (Cond.code y_Mo_loops b_Mo_loops 5 (some .boolean)) 2 [.ref (ad C.1 0), .int x3] f g P_38)
    (k_38 : (¬ y0 = 0) → ∀ (r : Int32) (f1 : FT) (g1 : GT), P_38 r f1 g1 → zn_loop C Post 41 [(0, .ref (ad C.1 0)), (1, .int x1), (2, .int x2), (3, .int x3)] [.int r] f1 g1) : zn_loop C Post 33 [(0, .ref (ad C.1 0)), (1, .int x1), (2, .int x2), (3, .int x3)] [.int y0] f g := by
  obtain ⟨⟨l, dC, dI, k, a⟩, p, e, s, m, args, below, meth, c, A⟩ := C
  obtain ⟨hx, hb, hr, htz, hown, hlocks, hml, hE, hK, hA⟩ := X
  intro H locs ls hl hP hD hS
  have hl : lv_has ls 4 [(0, .ref (a 0)), (1, .int x1), (2, .int x2), (3, .int x3)] := hl
  have hP : va_P (dC, dI) classes (mw k a f g) H := hP
  have hD : va_D A (mw k a f g) := hD
  show W p l e (z_rm 3 0 0) s m args below meth c H locs 0 0 _ (F0 m 33 ls [.int y0])
  refine lv_if_eq (tgt := 56) hx hb d_Mo_loop_33 (by decide) (fun c_33 => ?_) (fun c_33 => ?_)
  · exact (k_56 c_33) H locs ls (lv_sub hl [0, 1, 2, 3] rfl) hP hD hS
  · refine lv_aload_n hx hb d_Mo_loop_36 rfl (lv_at hl 0 rfl) ?_
    refine lv_iload_n hx hb d_Mo_loop_37 rfl (lv_at hl 3 rfl) ?_
    have hFc := va_free (wc := mw k a f g) hD hS hA [0, 1, 2, 3, 4, 5, 6, 7, 8, 9, 10, 11, 12, 13, 14, 15, 16, 17, 18] rfl
    refine va_calli (va_runV (As := [.int x3]) (rest := []) ⟨hx, hb, hml, hown, htz⟩ ((m_38 c_33) H.size) (cwV 1 htz (z_gV (fun _ h => h) km_Mo_176 in_Mo_loops se_Mo_loops ini_Mo m_Mo_loops) rfl rfl rfl (by decide +kernel) ⟨(Nat.le_of_ble_eq_true rfl), (Nat.le_of_ble_eq_true rfl)⟩) ⟨z_blind, va_recv hK hP (ci := 4) (q0 := 0) rfl rfl, fun U hU hW => ⟨rfl, by rw [hU], hE.call hS hFc hU hW, by rw [hU]; exact hP, va_K.moved hW.alike hK, hD.weaken (fun _ _ _ _ => trivial)⟩⟩ rfl rfl hl.1 rfl (lv_room (Nat.le_of_ble_eq_true rfl)) d_Mo_loop_38 ⟨(Nat.le_of_ble_eq_true rfl), (Nat.le_of_ble_eq_true rfl)⟩) hS (fun q _ h => hFc q h) hFc (fun r u t H1 locs ht hvm hw hB hz1 hk1 hS => ?_)
    obtain ⟨hP1, hK1, hD1⟩ := hB
    rw [ht] at hP1
    exact (k_38 c_33) r _ _ hw H1 locs ls (lv_sub hl [0, 1, 2, 3] rfl) hP1 (hD1.weaken (fun _ q _ h => hFc _ h)) hS
set_option maxHeartbeats 1000000 in
set_option maxRecDepth 100000 in
theorem k_Mo_loop_41 {C : CT} (X : cM C "QuestionTextModel" b_Mo_loop 4 (some .int)) (Post : Int32 → FT → GT → Prop) (x1 : Int32) (x2 : Int32) (x3 : Int32) (y0 : Int32) (f : FT) (g : GT)
    (k_56 : (¬ y0 = 0) → (¬ x2 = 0) → zn_loop C Post 56 [(0, .ref (ad C.1 0)), (1, .int x1), (2, .int (x2 + (-1))), (3, .int x3)] [] f g)
    (q_52 : (¬ y0 = 0) → (x2 = 0) → Post (x3) f g)
    (k_56_1 : (y0 = 0) → zn_loop C Post 56 [(0, .ref (ad C.1 0)), (1, .int x1), (2, .int x2), (3, .int x3)] [] f g) : zn_loop C Post 41 [(0, .ref (ad C.1 0)), (1, .int x1), (2, .int x2), (3, .int x3)] [.int y0] f g := by
  obtain ⟨⟨l, dC, dI, k, a⟩, p, e, s, m, args, below, meth, c, A⟩ := C
  obtain ⟨hx, hb, hr, htz, hown, hlocks, hml, hE, hK, hA⟩ := X
  intro H locs ls hl hP hD hS
  have hl : lv_has ls 4 [(0, .ref (a 0)), (1, .int x1), (2, .int x2), (3, .int x3)] := hl
  have hP : va_P (dC, dI) classes (mw k a f g) H := hP
  have hD : va_D A (mw k a f g) := hD
  show W p l e (z_rm 3 0 0) s m args below meth c H locs 0 0 _ (F0 m 41 ls [.int y0])
  refine lv_if_ne (tgt := 47) hx hb d_Mo_loop_41 (by decide) (fun c_41 => ?_) (fun c_41 => ?_)
  · refine lv_iload_n hx hb d_Mo_loop_47 rfl (lv_at hl 2 rfl) ?_
    refine lv_if_ne (tgt := 53) hx hb d_Mo_loop_48 (by decide) (fun c_48 => ?_) (fun c_48 => ?_)
    · refine lv_iinc (v := x2 + (-1)) (lv' := [(2, .int (x2 + (-1))), (0, .ref (a 0)), (1, .int x1), (3, .int x3)]) hx hb d_Mo_loop_53 hl (k := 2) rfl (rfl) (by decide) rfl (fun ls hl => ?_)
      exact (k_56 c_41 c_48) H locs ls (lv_sub hl [1, 2, 0, 3] rfl) hP hD hS
    · refine lv_iload_n hx hb d_Mo_loop_51 rfl (lv_at hl 3 rfl) ?_
      exact W.iret (v := x3) hx hb hr (fun t ht hW => ⟨⟨_, (f, g), rfl, (q_52 c_41 c_48), by rw [ht]; exact hP, va_K.moved hW.alike hK, hD⟩, hS.F ht⟩) hS.2.2 d_Mo_loop_52
  · refine lv_goto (tgt := 56) hx hb d_Mo_loop_44 (by decide) ?_
    exact (k_56_1 c_41) H locs ls (lv_sub hl [0, 1, 2, 3] rfl) hP hD hS
set_option maxHeartbeats 1000000 in
set_option maxRecDepth 100000 in
theorem k_Mo_loop_56 {C : CT} (X : cM C "QuestionTextModel" b_Mo_loop 4 (some .int)) (Post : Int32 → FT → GT → Prop) (x1 : Int32) (x2 : Int32) (x3 : Int32) (f : FT) (g : GT)
    (k_22 : zn_loop C Post 22 [(0, .ref (ad C.1 0)), (1, .int x1), (2, .int x2), (3, .int (x3 + 1))] [] f g) : zn_loop C Post 56 [(0, .ref (ad C.1 0)), (1, .int x1), (2, .int x2), (3, .int x3)] [] f g := by
  obtain ⟨⟨l, dC, dI, k, a⟩, p, e, s, m, args, below, meth, c, A⟩ := C
  obtain ⟨hx, hb, hr, htz, hown, hlocks, hml, hE, hK, hA⟩ := X
  intro H locs ls hl hP hD hS
  have hl : lv_has ls 4 [(0, .ref (a 0)), (1, .int x1), (2, .int x2), (3, .int x3)] := hl
  have hP : va_P (dC, dI) classes (mw k a f g) H := hP
  have hD : va_D A (mw k a f g) := hD
  show W p l e (z_rm 3 0 0) s m args below meth c H locs 0 0 _ (F0 m 56 ls [])
  refine lv_iinc (v := x3 + 1) (lv' := [(3, .int (x3 + 1)), (0, .ref (a 0)), (1, .int x1), (2, .int x2)]) hx hb d_Mo_loop_56 hl (k := 3) rfl (rfl) (by decide) rfl (fun ls hl => ?_)
  refine lv_goto (tgt := 22) hx hb d_Mo_loop_59 (by decide) ?_
  exact k_22 H locs ls (lv_sub hl [1, 2, 3, 0] rfl) hP hD hS
set_option maxHeartbeats 1000000 in
set_option maxRecDepth 100000 in
theorem e_Mo_loop (T : ST) (Post : Int32 → FT → GT → Prop) (x1 : Int32) (f : FT) (g : GT) (h : ∀ C : CT, C.1 = T → cM C "QuestionTextModel" b_Mo_loop 4 (some .int) → zn_loop C Post 0 [(0, .ref (ad C.1 0)), (1, .int x1)] [] f g) : mI T y_Mo_loop (Cond.code y_Mo_loop b_Mo_loop 4 (some .int)) 3 [.ref (ad T 0), .int x1] f g Post := by
  obtain ⟨l, dC, dI, k, a⟩ := T
  intro sz
  refine Met.ofW (cc := b_Mo_loop) (maxL := 4) (ret := (some .int)) (by decide) rfl ?_
  intro p e s m args below meth c s₁ B hml hv
  obtain ⟨rfl, hsz, hE, hP, hK, hD0⟩ := hv
  have hts := atoms_spec (ws := (Cond.code y_Mo_loop b_Mo_loop 4 (some .int)) :: z_T) B.pre
  have htz : ∀ w ∈ z_T, w.before _ s = true := fun w h => hts w (z_cons w h)
  subst hsz
  have hD := hD0.self (sz := s.heap.size)
  generalize hAe : va_A (mw k a f g) s.heap.size = A at hD hE ⊢
  have hA : ∀ q : Nat, s.heap.size ≤ q → A q := fun q h => by rw [← hAe]; exact Or.inr h
  have hl := lv_entry ([.ref (a 0), .int x1]) (n := 4) (Nat.le_of_ble_eq_true rfl)
  rw [lg_entry_eq]
  generalize (lg_sl ([.ref (a 0), .int x1]) ++ List.replicate (4 - (lg_sl ([.ref (a 0), .int x1])).length) Slot.unset).toArray = ls at hl ⊢
  exact h ((l, dC, dI, k, a), p, e, s, m, ([.ref (a 0), .int x1] : List Value).toArray, below, meth, c, A) rfl ⟨B.exec, B.bytes, B.returns, htz, findClass_of_methodNamed B.named, B.notSynchronized, hml, hE, hK, hA⟩ s.heap [] ls hl hP hD va_S.rf
def zn_never (C : CT) (Post : Int32 → FT → GT → Prop) (pc : Nat) (loc : List (Nat × Value)) (st : List Value) (f : FT) (g : GT) : Prop := zW C (z_rm 2 0 0) 5 (qI C Post) 0 0 pc loc st (mM C.1 f g)
set_option maxHeartbeats 1000000 in
set_option maxRecDepth 100000 in
theorem k_Mo_never_0 {C : CT} (X : cM C "QuestionTextModel" b_Mo_never 5 (some .int)) (Post : Int32 → FT → GT → Prop) (x1 : Int32) (f : FT) (g : GT)
    (k_10 : (x1 < 0) → zn_never C Post 10 [(0, .ref (ad C.1 0)), (1, .int x1)] [.int 0, .ref (ad C.1 0)] f g)
    (k_10_1 : (¬ x1 < 0) → zn_never C Post 10 [(0, .ref (ad C.1 0)), (1, .int x1)] [.int 1, .ref (ad C.1 0)] f g) : zn_never C Post 0 [(0, .ref (ad C.1 0)), (1, .int x1)] [] f g := by
  obtain ⟨⟨l, dC, dI, k, a⟩, p, e, s, m, args, below, meth, c, A⟩ := C
  obtain ⟨hx, hb, hr, htz, hown, hlocks, hml, hE, hK, hA⟩ := X
  intro H locs ls hl hP hD hS
  have hl : lv_has ls 5 [(0, .ref (a 0)), (1, .int x1)] := hl
  have hP : va_P (dC, dI) classes (mw k a f g) H := hP
  have hD : va_D A (mw k a f g) := hD
  show W p l e (z_rm 2 0 0) s m args below meth c H locs 0 0 _ (F0 m 0 ls [])
  refine lv_aload_n hx hb d_Mo_never_0 rfl (lv_at hl 0 rfl) ?_
  refine lv_iload_n hx hb d_Mo_never_1 rfl (lv_at hl 1 rfl) ?_
  refine lv_if_lt (tgt := 9) hx hb d_Mo_never_2 (by decide) (fun c_2 => ?_) (fun c_2 => ?_)
  · refine lv_iconst (v := 0) hx hb d_Mo_never_9 (by decide) ?_
    exact (k_10 c_2) H locs ls (lv_sub hl [0, 1] rfl) hP hD hS
  · refine lv_iconst (v := 1) hx hb d_Mo_never_5 (by decide) ?_
    refine lv_goto (tgt := 10) hx hb d_Mo_never_6 (by decide) ?_
    exact (k_10_1 c_2) H locs ls (lv_sub hl [0, 1] rfl) hP hD hS
set_option maxHeartbeats 1000000 in
set_option maxRecDepth 100000 in
theorem k_Mo_never_10 {C : CT} (X : cM C "QuestionTextModel" b_Mo_never 5 (some .int)) (Post : Int32 → FT → GT → Prop) {P_10 : Int32 → FT → GT → Prop} (x1 : Int32) (y0 : Int32) (f : FT) (g : GT)
    (m_10 : mI C.1 y_Mo_says (Cond.code y_Mo_says b_Mo_says 2 (some .boolean)) 0 [.ref (ad C.1 0), .int y0] f g P_10)
    (k_10 : ∀ (r : Int32) (f1 : FT) (g1 : GT), P_10 r f1 g1 → zn_never C Post 13 [(0, .ref (ad C.1 0)), (1, .int x1)] [.int r] f1 g1) : zn_never C Post 10 [(0, .ref (ad C.1 0)), (1, .int x1)] [.int y0, .ref (ad C.1 0)] f g := by
  obtain ⟨⟨l, dC, dI, k, a⟩, p, e, s, m, args, below, meth, c, A⟩ := C
  obtain ⟨hx, hb, hr, htz, hown, hlocks, hml, hE, hK, hA⟩ := X
  intro H locs ls hl hP hD hS
  have hl : lv_has ls 5 [(0, .ref (a 0)), (1, .int x1)] := hl
  have hP : va_P (dC, dI) classes (mw k a f g) H := hP
  have hD : va_D A (mw k a f g) := hD
  show W p l e (z_rm 2 0 0) s m args below meth c H locs 0 0 _ (F0 m 10 ls [.int y0, .ref (a 0)])
  have hFc := va_free (wc := mw k a f g) hD hS hA [0, 1, 2, 3, 4, 5, 6, 7, 8, 9, 10, 11, 12, 13, 14, 15, 16, 17, 18] rfl
  refine va_calli (va_runV (As := [.int y0]) (rest := []) ⟨hx, hb, hml, hown, htz⟩ (m_10 H.size) (cwV 1 htz (z_gV (fun _ h => h) km_Mo_147 in_Mo_says se_Mo_says ini_Mo m_Mo_says) rfl rfl rfl (by decide +kernel) ⟨(Nat.le_of_ble_eq_true rfl), (Nat.le_of_ble_eq_true rfl)⟩) ⟨z_blind, va_recv hK hP (ci := 4) (q0 := 0) rfl rfl, fun U hU hW => ⟨rfl, by rw [hU], hE.call hS hFc hU hW, by rw [hU]; exact hP, va_K.moved hW.alike hK, hD.weaken (fun _ _ _ _ => trivial)⟩⟩ rfl rfl hl.1 rfl (lv_room (Nat.le_of_ble_eq_true rfl)) d_Mo_never_10 ⟨(Nat.le_of_ble_eq_true rfl), (Nat.le_of_ble_eq_true rfl)⟩) hS (fun q _ h => hFc q h) hFc (fun r u t H1 locs ht hvm hw hB hz1 hk1 hS => ?_)
  obtain ⟨hP1, hK1, hD1⟩ := hB
  rw [ht] at hP1
  exact k_10 r _ _ hw H1 locs ls (lv_sub hl [0, 1] rfl) hP1 (hD1.weaken (fun _ q _ h => hFc _ h)) hS
set_option maxHeartbeats 1000000 in
set_option maxRecDepth 100000 in
theorem k_Mo_never_13 {C : CT} (X : cM C "QuestionTextModel" b_Mo_never 5 (some .int)) (Post : Int32 → FT → GT → Prop) {P_19 : FT → GT → Prop} (x1 : Int32) (y0 : Int32) (f : FT) (g : GT)
    (m_19 : (¬ y0 = 0) → mV C.1 y_Mo_unmark (Cond.code y_Mo_unmark b_Mo_unmark 2 none) 0 [.ref (ad C.1 0)] f g P_19)
    (k_19 : (¬ y0 = 0) → ∀ (f1 : FT) (g1 : GT), P_19 f1 g1 → zn_never C Post 22 [(0, .ref (ad C.1 0)), (1, .int x1)] [] f1 g1)
    (q_17 : (y0 = 0) → Post (0) f g) : zn_never C Post 13 [(0, .ref (ad C.1 0)), (1, .int x1)] [.int y0] f g := by
  obtain ⟨⟨l, dC, dI, k, a⟩, p, e, s, m, args, below, meth, c, A⟩ := C
  obtain ⟨hx, hb, hr, htz, hown, hlocks, hml, hE, hK, hA⟩ := X
  intro H locs ls hl hP hD hS
  have hl : lv_has ls 5 [(0, .ref (a 0)), (1, .int x1)] := hl
  have hP : va_P (dC, dI) classes (mw k a f g) H := hP
  have hD : va_D A (mw k a f g) := hD
  show W p l e (z_rm 2 0 0) s m args below meth c H locs 0 0 _ (F0 m 13 ls [.int y0])
  refine lv_if_ne (tgt := 18) hx hb d_Mo_never_13 (by decide) (fun c_13 => ?_) (fun c_13 => ?_)
  · refine lv_aload_n hx hb d_Mo_never_18 rfl (lv_at hl 0 rfl) ?_
    have hFc := va_free (wc := mw k a f g) hD hS hA [0, 1, 2, 3, 4, 5, 6, 7, 8, 9, 10, 11, 12, 13, 14, 15, 16, 17, 18] rfl
    refine va_callv (va_runV (As := []) (rest := []) ⟨hx, hb, hml, hown, htz⟩ ((m_19 c_13) H.size) (cwV 0 htz (z_gV (fun _ h => h) km_Mo_170 in_Mo_unmark se_Mo_unmark ini_Mo m_Mo_unmark) rfl rfl rfl (by decide +kernel) ⟨(Nat.le_of_ble_eq_true rfl), (Nat.le_of_ble_eq_true rfl)⟩) ⟨z_blind, va_recv hK hP (ci := 4) (q0 := 0) rfl rfl, fun U hU hW => ⟨rfl, by rw [hU], hE.call hS hFc hU hW, by rw [hU]; exact hP, va_K.moved hW.alike hK, hD.weaken (fun _ _ _ _ => trivial)⟩⟩ rfl rfl hl.1 rfl (lv_room (Nat.le_of_ble_eq_true rfl)) d_Mo_never_19 ⟨(Nat.le_of_ble_eq_true rfl), (Nat.le_of_ble_eq_true rfl)⟩) hS (fun q _ h => hFc q h) hFc (fun u t H1 locs ht hvm hw hB hz1 hk1 hS => ?_)
    obtain ⟨hP1, hK1, hD1⟩ := hB
    rw [ht] at hP1
    exact (k_19 c_13) _ _ hw H1 locs ls (lv_sub hl [0, 1] rfl) hP1 (hD1.weaken (fun _ q _ h => hFc _ h)) hS
  · refine lv_iconst (v := 0) hx hb d_Mo_never_16 (by decide) ?_
    exact W.iret (v := 0) hx hb hr (fun t ht hW => ⟨⟨_, (f, g), rfl, (q_17 c_13), by rw [ht]; exact hP, va_K.moved hW.alike hK, hD⟩, hS.F ht⟩) hS.2.2 d_Mo_never_17
set_option maxHeartbeats 1000000 in
set_option maxRecDepth 100000 in
theorem k_Mo_never_22 {C : CT} (X : cM C "QuestionTextModel" b_Mo_never 5 (some .int)) (Post : Int32 → FT → GT → Prop) (x1 : Int32) (f : FT) (g : GT)
    (k_24 : zn_never C Post 24 [(0, .ref (ad C.1 0)), (1, .int x1), (2, .int 1)] [] f g) : zn_never C Post 22 [(0, .ref (ad C.1 0)), (1, .int x1)] [] f g := by
  obtain ⟨⟨l, dC, dI, k, a⟩, p, e, s, m, args, below, meth, c, A⟩ := C
  obtain ⟨hx, hb, hr, htz, hown, hlocks, hml, hE, hK, hA⟩ := X
  intro H locs ls hl hP hD hS
  have hl : lv_has ls 5 [(0, .ref (a 0)), (1, .int x1)] := hl
  have hP : va_P (dC, dI) classes (mw k a f g) H := hP
  have hD : va_D A (mw k a f g) := hD
  show W p l e (z_rm 2 0 0) s m args below meth c H locs 0 0 _ (F0 m 22 ls [])
  refine lv_iconst (v := 1) hx hb d_Mo_never_22 (by decide) ?_
  refine lv_istore_n (lv' := [(2, .int 1), (0, .ref (a 0)), (1, .int x1)]) hx hb d_Mo_never_23 rfl hl (by decide) rfl (fun ls hl => ?_)
  exact k_24 H locs ls (lv_sub hl [1, 2, 0] rfl) hP hD hS
set_option maxHeartbeats 1000000 in
set_option maxRecDepth 100000 in
theorem k_Mo_never_24 {C : CT} (X : cM C "QuestionTextModel" b_Mo_never 5 (some .int)) (Post : Int32 → FT → GT → Prop) {P_67 : Int32 → FT → GT → Prop} {P_47 : Int32 → FT → GT → Prop} (x1 : Int32) (x2 : Int32) (f : FT) (g : GT)
    (m_67 : (10 ≤ x2) → mI C.1 y_Mo_spreads (Cond.code y_Mo_spreads b_Mo_spreads 7 (some .boolean)) 1 [.ref (ad C.1 0)] f g P_67)
    (k_67 : (10 ≤ x2) → ∀ (r : Int32) (f1 : FT) (g1 : GT), P_67 r f1 g1 → zn_never C Post 70 [(0, .ref (ad C.1 0)), (1, .int x1), (2, .int x2)] [.int r] f1 g1)
    (h_43 : (¬ 10 ≤ x2) → vp_in (((f 4) * 10) + x2) 100)
    (m_47 : (¬ 10 ≤ x2) → mI C.1 y_Mo_isThere (Cond.code y_Mo_isThere b_Mo_isThere 2 (some .boolean)) 0 [.ref (ad C.1 0), .int (g 9 (((f 4) * 10) + x2 : Int32).toNatClampNeg)] f g P_47)
    (k_47 : (¬ 10 ≤ x2) → ∀ (r : Int32) (f1 : FT) (g1 : GT), P_47 r f1 g1 → zn_never C Post 50 [(0, .ref (ad C.1 0)), (1, .int x1), (2, .int x2), (3, .int (g 9 (((f 4) * 10) + x2 : Int32).toNatClampNeg))] [.int r] f1 g1) : zn_never C Post 24 [(0, .ref (ad C.1 0)), (1, .int x1), (2, .int x2)] [] f g := by
  obtain ⟨⟨l, dC, dI, k, a⟩, p, e, s, m, args, below, meth, c, A⟩ := C
  obtain ⟨hx, hb, hr, htz, hown, hlocks, hml, hE, hK, hA⟩ := X
  intro H locs ls hl hP hD hS
  have hl : lv_has ls 5 [(0, .ref (a 0)), (1, .int x1), (2, .int x2)] := hl
  have hP : va_P (dC, dI) classes (mw k a f g) H := hP
  have hD : va_D A (mw k a f g) := hD
  show W p l e (z_rm 2 0 0) s m args below meth c H locs 0 0 _ (F0 m 24 ls [])
  refine lv_iload_n hx hb d_Mo_never_24 rfl (lv_at hl 2 rfl) ?_
  refine lv_bipush (v := 10) hx hb d_Mo_never_25 (by decide) ?_
  refine lv_icmp_ge (tgt := 66) hx hb d_Mo_never_27 (by decide) (fun c_27 => ?_) (fun c_27 => ?_)
  · refine lv_aload_n hx hb d_Mo_never_66 rfl (lv_at hl 0 rfl) ?_
    have hFc := va_free (wc := mw k a f g) hD hS hA [0, 1, 2, 3, 4, 5, 6, 7, 8, 9, 10, 11, 12, 13, 14, 15, 16, 17, 18] rfl
    refine va_calli (va_runV (As := []) (rest := []) ⟨hx, hb, hml, hown, htz⟩ ((m_67 c_27) H.size) (cwV 0 htz (z_gV (fun _ h => h) km_Mo_173 in_Mo_spreads se_Mo_spreads ini_Mo m_Mo_spreads) rfl rfl rfl (by decide +kernel) ⟨(Nat.le_of_ble_eq_true rfl), (Nat.le_of_ble_eq_true rfl)⟩) ⟨z_blind, va_recv hK hP (ci := 4) (q0 := 0) rfl rfl, fun U hU hW => ⟨rfl, by rw [hU], hE.call hS hFc hU hW, by rw [hU]; exact hP, va_K.moved hW.alike hK, hD.weaken (fun _ _ _ _ => trivial)⟩⟩ rfl rfl hl.1 rfl (lv_room (Nat.le_of_ble_eq_true rfl)) d_Mo_never_67 ⟨(Nat.le_of_ble_eq_true rfl), (Nat.le_of_ble_eq_true rfl)⟩) hS (fun q _ h => hFc q h) hFc (fun r u t H1 locs ht hvm hw hB hz1 hk1 hS => ?_)
    obtain ⟨hP1, hK1, hD1⟩ := hB
    rw [ht] at hP1
    exact (k_67 c_27) r _ _ hw H1 locs ls (lv_sub hl [0, 1, 2] rfl) hP1 (hD1.weaken (fun _ q _ h => hFc _ h)) hS
  · refine lv_aload_n hx hb d_Mo_never_30 rfl (lv_at hl 0 rfl) ?_
    refine va_get (D := (dC, dI)) (ci := 4) (v := .ref (a 10)) (C := R_Mo) (T := F_Mo) (N := 31) hx hb htz i_Mo hown hK hP 0 rfl rfl 14 (by decide) (htz _ kf_Mo_42) (fun _ h9 => h9) rfl d_Mo_never_31 ?_
    refine lv_aload_n hx hb d_Mo_never_34 rfl (lv_at hl 0 rfl) ?_
    refine va_get (D := (dC, dI)) (ci := 4) (v := .int (f 4)) (C := R_Mo) (T := F_Mo) (N := 31) hx hb htz i_Mo hown hK hP 0 rfl rfl 5 (by decide) (htz _ kf_Mo_126) (fun _ h9 => h9) rfl d_Mo_never_35 ?_
    refine lv_bipush (v := 10) hx hb d_Mo_never_38 (by decide) ?_
    refine lv_imul hx hb d_Mo_never_40 ?_
    refine lv_iload_n hx hb d_Mo_never_41 rfl (lv_at hl 2 rfl) ?_
    refine lv_iadd hx hb d_Mo_never_42 ?_
    refine va_iald hx hb hK hP 10 0 rfl rfl (h_43 c_27) d_Mo_never_43 ?_
    refine lv_istore_n (lv' := [(3, .int (g 9 (((f 4) * 10) + x2 : Int32).toNatClampNeg)), (0, .ref (a 0)), (1, .int x1), (2, .int x2)]) hx hb d_Mo_never_44 rfl hl (by decide) rfl (fun ls hl => ?_)
    refine lv_aload_n hx hb d_Mo_never_45 rfl (lv_at hl 1 rfl) ?_
    refine lv_iload_n hx hb d_Mo_never_46 rfl (lv_at hl 0 rfl) ?_
    have hFc := va_free (wc := mw k a f g) hD hS hA [0, 1, 2, 3, 4, 5, 6, 7, 8, 9, 10, 11, 12, 13, 14, 15, 16, 17, 18] rfl
    refine va_calli (va_runV (As := [.int (g 9 (((f 4) * 10) + x2 : Int32).toNatClampNeg)]) (rest := []) ⟨hx, hb, hml, hown, htz⟩ ((m_47 c_27) H.size) (cwV 1 htz (z_gV (fun _ h => h) km_Mo_151 in_Mo_isThere se_Mo_isThere ini_Mo m_Mo_isThere) rfl rfl rfl (by decide +kernel) ⟨(Nat.le_of_ble_eq_true rfl), (Nat.le_of_ble_eq_true rfl)⟩) ⟨z_blind, va_recv hK hP (ci := 4) (q0 := 0) rfl rfl, fun U hU hW => ⟨rfl, by rw [hU], hE.call hS hFc hU hW, by rw [hU]; exact hP, va_K.moved hW.alike hK, hD.weaken (fun _ _ _ _ => trivial)⟩⟩ rfl rfl hl.1 rfl (lv_room (Nat.le_of_ble_eq_true rfl)) d_Mo_never_47 ⟨(Nat.le_of_ble_eq_true rfl), (Nat.le_of_ble_eq_true rfl)⟩) hS (fun q _ h => hFc q h) hFc (fun r u t H1 locs ht hvm hw hB hz1 hk1 hS => ?_)
    obtain ⟨hP1, hK1, hD1⟩ := hB
    rw [ht] at hP1
    exact (k_47 c_27) r _ _ hw H1 locs ls (lv_sub hl [1, 2, 3, 0] rfl) hP1 (hD1.weaken (fun _ q _ h => hFc _ h)) hS
set_option maxHeartbeats 1000000 in
set_option maxRecDepth 100000 in
theorem k_Mo_never_50 {C : CT} (X : cM C "QuestionTextModel" b_Mo_never 5 (some .int)) (Post : Int32 → FT → GT → Prop) (x1 : Int32) (x2 : Int32) (x3 : Int32) (y0 : Int32) (f : FT) (g : GT)
    (k_60 : (y0 = 0) → zn_never C Post 60 [(0, .ref (ad C.1 0)), (1, .int x1), (2, .int x2), (3, .int x3)] [] f g)
    (h_59 : (¬ y0 = 0) → vp_in (x3) 61)
    (k_60_1 : (¬ y0 = 0) → zn_never C Post 60 [(0, .ref (ad C.1 0)), (1, .int x1), (2, .int x2), (3, .int x3)] [] f (va_up g 17 (upd (g 17) (x3 : Int32).toNatClampNeg (vp_nar .boolean 1)))) : zn_never C Post 50 [(0, .ref (ad C.1 0)), (1, .int x1), (2, .int x2), (3, .int x3)] [.int y0] f g := by
  obtain ⟨⟨l, dC, dI, k, a⟩, p, e, s, m, args, below, meth, c, A⟩ := C
  obtain ⟨hx, hb, hr, htz, hown, hlocks, hml, hE, hK, hA⟩ := X
  intro H locs ls hl hP hD hS
  have hl : lv_has ls 5 [(0, .ref (a 0)), (1, .int x1), (2, .int x2), (3, .int x3)] := hl
  have hP : va_P (dC, dI) classes (mw k a f g) H := hP
  have hD : va_D A (mw k a f g) := hD
  show W p l e (z_rm 2 0 0) s m args below meth c H locs 0 0 _ (F0 m 50 ls [.int y0])
  refine lv_if_eq (tgt := 60) hx hb d_Mo_never_50 (by decide) (fun c_50 => ?_) (fun c_50 => ?_)
  · exact (k_60 c_50) H locs ls (lv_sub hl [0, 1, 2, 3] rfl) hP hD hS
  · refine lv_aload_n hx hb d_Mo_never_53 rfl (lv_at hl 0 rfl) ?_
    refine va_get (D := (dC, dI)) (ci := 4) (v := .ref (a 18)) (C := R_Mo) (T := F_Mo) (N := 31) hx hb htz i_Mo hown hK hP 0 rfl rfl 30 (by decide) (htz _ kf_Mo_66) (fun _ h9 => h9) rfl d_Mo_never_54 ?_
    refine lv_iload_n hx hb d_Mo_never_57 rfl (lv_at hl 3 rfl) ?_
    refine lv_iconst (v := 1) hx hb d_Mo_never_58 (by decide) ?_
    refine va_zast hx hb hK hP hD hS 18 2 rfl rfl (h_59 c_50) d_Mo_never_59 (fun H locs hP hD hS => ?_)
    replace hP := mg_17 (c := upd (g 17) (x3 : Int32).toNatClampNeg (vp_nar .boolean 1)) hP
    replace hD := mh_17 (c := upd (g 17) (x3 : Int32).toNatClampNeg (vp_nar .boolean 1)) hD
    exact (k_60_1 c_50) H locs ls (lv_sub hl [0, 1, 2, 3] rfl) hP hD hS
set_option maxHeartbeats 1000000 in
set_option maxRecDepth 100000 in
theorem k_Mo_never_60 {C : CT} (X : cM C "QuestionTextModel" b_Mo_never 5 (some .int)) (Post : Int32 → FT → GT → Prop) (x1 : Int32) (x2 : Int32) (x3 : Int32) (f : FT) (g : GT)
    (k_24 : zn_never C Post 24 [(0, .ref (ad C.1 0)), (1, .int x1), (2, .int (x2 + 1))] [] f g) : zn_never C Post 60 [(0, .ref (ad C.1 0)), (1, .int x1), (2, .int x2), (3, .int x3)] [] f g := by
  obtain ⟨⟨l, dC, dI, k, a⟩, p, e, s, m, args, below, meth, c, A⟩ := C
  obtain ⟨hx, hb, hr, htz, hown, hlocks, hml, hE, hK, hA⟩ := X
  intro H locs ls hl hP hD hS
  have hl : lv_has ls 5 [(0, .ref (a 0)), (1, .int x1), (2, .int x2), (3, .int x3)] := hl
  have hP : va_P (dC, dI) classes (mw k a f g) H := hP
  have hD : va_D A (mw k a f g) := hD
  show W p l e (z_rm 2 0 0) s m args below meth c H locs 0 0 _ (F0 m 60 ls [])
  refine lv_iinc (v := x2 + 1) (lv' := [(2, .int (x2 + 1)), (0, .ref (a 0)), (1, .int x1), (3, .int x3)]) hx hb d_Mo_never_60 hl (k := 2) rfl (rfl) (by decide) rfl (fun ls hl => ?_)
  refine lv_goto (tgt := 24) hx hb d_Mo_never_63 (by decide) ?_
  exact k_24 H locs ls (lv_sub hl [1, 2, 0] rfl) hP hD hS
set_option maxHeartbeats 1000000 in
set_option maxRecDepth 100000 in
theorem k_Mo_never_70 {C : CT} (X : cM C "QuestionTextModel" b_Mo_never 5 (some .int)) (Post : Int32 → FT → GT → Prop) (x1 : Int32) (x2 : Int32) (y0 : Int32) (f : FT) (g : GT)
    (k_76 : zn_never C Post 76 [(0, .ref (ad C.1 0)), (1, .int x1), (2, .int y0), (3, .int x1), (4, .int 1)] [] f g) : zn_never C Post 70 [(0, .ref (ad C.1 0)), (1, .int x1), (2, .int x2)] [.int y0] f g := by
  obtain ⟨⟨l, dC, dI, k, a⟩, p, e, s, m, args, below, meth, c, A⟩ := C
  obtain ⟨hx, hb, hr, htz, hown, hlocks, hml, hE, hK, hA⟩ := X
  intro H locs ls hl hP hD hS
  have hl : lv_has ls 5 [(0, .ref (a 0)), (1, .int x1), (2, .int x2)] := hl
  have hP : va_P (dC, dI) classes (mw k a f g) H := hP
  have hD : va_D A (mw k a f g) := hD
  show W p l e (z_rm 2 0 0) s m args below meth c H locs 0 0 _ (F0 m 70 ls [.int y0])
  refine lv_istore_n (lv' := [(2, .int y0), (0, .ref (a 0)), (1, .int x1)]) hx hb d_Mo_never_70 rfl hl (by decide) rfl (fun ls hl => ?_)
  refine lv_iload_n hx hb d_Mo_never_71 rfl (lv_at hl 2 rfl) ?_
  refine lv_istore_n (lv' := [(3, .int x1), (2, .int y0), (0, .ref (a 0)), (1, .int x1)]) hx hb d_Mo_never_72 rfl hl (by decide) rfl (fun ls hl => ?_)
  refine lv_iconst (v := 1) hx hb d_Mo_never_73 (by decide) ?_
  refine lv_istore (lv' := [(4, .int 1), (3, .int x1), (2, .int y0), (0, .ref (a 0)), (1, .int x1)]) hx hb d_Mo_never_74 hl (by decide) rfl (fun ls hl => ?_)
  exact k_76 H locs ls (lv_sub hl [3, 4, 2, 1, 0] rfl) hP hD hS
set_option maxHeartbeats 1000000 in
set_option maxRecDepth 100000 in
theorem k_Mo_never_76 {C : CT} (X : cM C "QuestionTextModel" b_Mo_never 5 (some .int)) (Post : Int32 → FT → GT → Prop) {P_86 : Int32 → FT → GT → Prop} (x1 : Int32) (x2 : Int32) (x3 : Int32) (x4 : Int32) (f : FT) (g : GT)
    (q_122 : (61 ≤ x4) → Post (0) f g)
    (m_86 : (¬ 61 ≤ x4) → mI C.1 y_Mo_isThere (Cond.code y_Mo_isThere b_Mo_isThere 2 (some .boolean)) 0 [.ref (ad C.1 0), .int x4] f g P_86)
    (k_86 : (¬ 61 ≤ x4) → ∀ (r : Int32) (f1 : FT) (g1 : GT), P_86 r f1 g1 → zn_never C Post 89 [(0, .ref (ad C.1 0)), (1, .int x1), (2, .int x2), (3, .int x3), (4, .int x4)] [.int r] f1 g1) : zn_never C Post 76 [(0, .ref (ad C.1 0)), (1, .int x1), (2, .int x2), (3, .int x3), (4, .int x4)] [] f g := by
  obtain ⟨⟨l, dC, dI, k, a⟩, p, e, s, m, args, below, meth, c, A⟩ := C
  obtain ⟨hx, hb, hr, htz, hown, hlocks, hml, hE, hK, hA⟩ := X
  intro H locs ls hl hP hD hS
  have hl : lv_has ls 5 [(0, .ref (a 0)), (1, .int x1), (2, .int x2), (3, .int x3), (4, .int x4)] := hl
  have hP : va_P (dC, dI) classes (mw k a f g) H := hP
  have hD : va_D A (mw k a f g) := hD
  show W p l e (z_rm 2 0 0) s m args below meth c H locs 0 0 _ (F0 m 76 ls [])
  refine lv_iload hx hb d_Mo_never_76 (lv_at hl 4 rfl) ?_
  refine lv_bipush (v := 61) hx hb d_Mo_never_78 (by decide) ?_
  refine lv_icmp_ge (tgt := 121) hx hb d_Mo_never_80 (by decide) (fun c_80 => ?_) (fun c_80 => ?_)
  · refine lv_iconst (v := 0) hx hb d_Mo_never_121 (by decide) ?_
    exact W.iret (v := 0) hx hb hr (fun t ht hW => ⟨⟨_, (f, g), rfl, (q_122 c_80), by rw [ht]; exact hP, va_K.moved hW.alike hK, hD⟩, hS.F ht⟩) hS.2.2 d_Mo_never_122
  · refine lv_aload_n hx hb d_Mo_never_83 rfl (lv_at hl 0 rfl) ?_
    refine lv_iload hx hb d_Mo_never_84 (lv_at hl 4 rfl) ?_
    have hFc := va_free (wc := mw k a f g) hD hS hA [0, 1, 2, 3, 4, 5, 6, 7, 8, 9, 10, 11, 12, 13, 14, 15, 16, 17, 18] rfl
    refine va_calli (va_runV (As := [.int x4]) (rest := []) ⟨hx, hb, hml, hown, htz⟩ ((m_86 c_80) H.size) (cwV 1 htz (z_gV (fun _ h => h) km_Mo_151 in_Mo_isThere se_Mo_isThere ini_Mo m_Mo_isThere) rfl rfl rfl (by decide +kernel) ⟨(Nat.le_of_ble_eq_true rfl), (Nat.le_of_ble_eq_true rfl)⟩) ⟨z_blind, va_recv hK hP (ci := 4) (q0 := 0) rfl rfl, fun U hU hW => ⟨rfl, by rw [hU], hE.call hS hFc hU hW, by rw [hU]; exact hP, va_K.moved hW.alike hK, hD.weaken (fun _ _ _ _ => trivial)⟩⟩ rfl rfl hl.1 rfl (lv_room (Nat.le_of_ble_eq_true rfl)) d_Mo_never_86 ⟨(Nat.le_of_ble_eq_true rfl), (Nat.le_of_ble_eq_true rfl)⟩) hS (fun q _ h => hFc q h) hFc (fun r u t H1 locs ht hvm hw hB hz1 hk1 hS => ?_)
    obtain ⟨hP1, hK1, hD1⟩ := hB
    rw [ht] at hP1
    exact (k_86 c_80) r _ _ hw H1 locs ls (lv_sub hl [0, 1, 2, 3, 4] rfl) hP1 (hD1.weaken (fun _ q _ h => hFc _ h)) hS
set_option maxHeartbeats 1000000 in
set_option maxRecDepth 100000 in
theorem k_Mo_never_89 {C : CT} (X : cM C "QuestionTextModel" b_Mo_never 5 (some .int)) (Post : Int32 → FT → GT → Prop) (x1 : Int32) (x2 : Int32) (x3 : Int32) (x4 : Int32) (y0 : Int32) (f : FT) (g : GT)
    (k_115 : (y0 = 0) → zn_never C Post 115 [(0, .ref (ad C.1 0)), (1, .int x1), (2, .int x2), (3, .int x3), (4, .int x4)] [] f g)
    (h_98 : (¬ y0 = 0) → vp_in (x4) 61)
    (k_115_1 : (¬ y0 = 0) → (g 17 (x4 : Int32).toNatClampNeg = 0) → (¬ x3 = 0) → zn_never C Post 115 [(0, .ref (ad C.1 0)), (1, .int x1), (2, .int x2), (3, .int (x3 + (-1))), (4, .int x4)] [] f g)
    (q_111 : (¬ y0 = 0) → (g 17 (x4 : Int32).toNatClampNeg = 0) → (x3 = 0) → Post (x4) f g)
    (k_115_2 : (¬ y0 = 0) → (¬ g 17 (x4 : Int32).toNatClampNeg = 0) → zn_never C Post 115 [(0, .ref (ad C.1 0)), (1, .int x1), (2, .int x2), (3, .int x3), (4, .int x4)] [] f g) : zn_never C Post 89 [(0, .ref (ad C.1 0)), (1, .int x1), (2, .int x2), (3, .int x3), (4, .int x4)] [.int y0] f g := by
  obtain ⟨⟨l, dC, dI, k, a⟩, p, e, s, m, args, below, meth, c, A⟩ := C
  obtain ⟨hx, hb, hr, htz, hown, hlocks, hml, hE, hK, hA⟩ := X
  intro H locs ls hl hP hD hS
  have hl : lv_has ls 5 [(0, .ref (a 0)), (1, .int x1), (2, .int x2), (3, .int x3), (4, .int x4)] := hl
  have hP : va_P (dC, dI) classes (mw k a f g) H := hP
  have hD : va_D A (mw k a f g) := hD
  show W p l e (z_rm 2 0 0) s m args below meth c H locs 0 0 _ (F0 m 89 ls [.int y0])
  refine lv_if_eq (tgt := 115) hx hb d_Mo_never_89 (by decide) (fun c_89 => ?_) (fun c_89 => ?_)
  · exact (k_115 c_89) H locs ls (lv_sub hl [0, 1, 2, 3, 4] rfl) hP hD hS
  · refine lv_aload_n hx hb d_Mo_never_92 rfl (lv_at hl 0 rfl) ?_
    refine va_get (D := (dC, dI)) (ci := 4) (v := .ref (a 18)) (C := R_Mo) (T := F_Mo) (N := 31) hx hb htz i_Mo hown hK hP 0 rfl rfl 30 (by decide) (htz _ kf_Mo_66) (fun _ h9 => h9) rfl d_Mo_never_93 ?_
    refine lv_iload hx hb d_Mo_never_96 (lv_at hl 4 rfl) ?_
    refine va_zald hx hb hK hP 18 2 rfl rfl (h_98 c_89) d_Mo_never_98 ?_
    refine lv_if_eq (tgt := 105) hx hb d_Mo_never_99 (by decide) (fun c_99 => ?_) (fun c_99 => ?_)
    · refine lv_iload_n hx hb d_Mo_never_105 rfl (lv_at hl 3 rfl) ?_
      refine lv_if_ne (tgt := 112) hx hb d_Mo_never_106 (by decide) (fun c_106 => ?_) (fun c_106 => ?_)
      · refine lv_iinc (v := x3 + (-1)) (lv' := [(3, .int (x3 + (-1))), (0, .ref (a 0)), (1, .int x1), (2, .int x2), (4, .int x4)]) hx hb d_Mo_never_112 hl (k := 3) rfl (rfl) (by decide) rfl (fun ls hl => ?_)
        exact (k_115_1 c_89 c_99 c_106) H locs ls (lv_sub hl [1, 2, 3, 0, 4] rfl) hP hD hS
      · refine lv_iload hx hb d_Mo_never_109 (lv_at hl 4 rfl) ?_
        exact W.iret (v := x4) hx hb hr (fun t ht hW => ⟨⟨_, (f, g), rfl, (q_111 c_89 c_99 c_106), by rw [ht]; exact hP, va_K.moved hW.alike hK, hD⟩, hS.F ht⟩) hS.2.2 d_Mo_never_111
    · refine lv_goto (tgt := 115) hx hb d_Mo_never_102 (by decide) ?_
      exact (k_115_2 c_89 c_99) H locs ls (lv_sub hl [0, 1, 2, 3, 4] rfl) hP hD hS
set_option maxHeartbeats 1000000 in
set_option maxRecDepth 100000 in
theorem k_Mo_never_115 {C : CT} (X : cM C "QuestionTextModel" b_Mo_never 5 (some .int)) (Post : Int32 → FT → GT → Prop) (x1 : Int32) (x2 : Int32) (x3 : Int32) (x4 : Int32) (f : FT) (g : GT)
    (k_76 : zn_never C Post 76 [(0, .ref (ad C.1 0)), (1, .int x1), (2, .int x2), (3, .int x3), (4, .int (x4 + 1))] [] f g) : zn_never C Post 115 [(0, .ref (ad C.1 0)), (1, .int x1), (2, .int x2), (3, .int x3), (4, .int x4)] [] f g := by
  obtain ⟨⟨l, dC, dI, k, a⟩, p, e, s, m, args, below, meth, c, A⟩ := C
  obtain ⟨hx, hb, hr, htz, hown, hlocks, hml, hE, hK, hA⟩ := X
  intro H locs ls hl hP hD hS
  have hl : lv_has ls 5 [(0, .ref (a 0)), (1, .int x1), (2, .int x2), (3, .int x3), (4, .int x4)] := hl
  have hP : va_P (dC, dI) classes (mw k a f g) H := hP
  have hD : va_D A (mw k a f g) := hD
  show W p l e (z_rm 2 0 0) s m args below meth c H locs 0 0 _ (F0 m 115 ls [])
  refine lv_iinc (v := x4 + 1) (lv' := [(4, .int (x4 + 1)), (0, .ref (a 0)), (1, .int x1), (2, .int x2), (3, .int x3)]) hx hb d_Mo_never_115 hl (k := 4) rfl (rfl) (by decide) rfl (fun ls hl => ?_)
  refine lv_goto (tgt := 76) hx hb d_Mo_never_118 (by decide) ?_
  exact k_76 H locs ls (lv_sub hl [1, 2, 3, 4, 0] rfl) hP hD hS
set_option maxHeartbeats 1000000 in
set_option maxRecDepth 100000 in
theorem e_Mo_never (T : ST) (Post : Int32 → FT → GT → Prop) (x1 : Int32) (f : FT) (g : GT) (h : ∀ C : CT, C.1 = T → cM C "QuestionTextModel" b_Mo_never 5 (some .int) → zn_never C Post 0 [(0, .ref (ad C.1 0)), (1, .int x1)] [] f g) : mI T y_Mo_never (Cond.code y_Mo_never b_Mo_never 5 (some .int)) 2 [.ref (ad T 0), .int x1] f g Post := by
  obtain ⟨l, dC, dI, k, a⟩ := T
  intro sz
  refine Met.ofW (cc := b_Mo_never) (maxL := 5) (ret := (some .int)) (by decide) rfl ?_
  intro p e s m args below meth c s₁ B hml hv
  obtain ⟨rfl, hsz, hE, hP, hK, hD0⟩ := hv
  have hts := atoms_spec (ws := (Cond.code y_Mo_never b_Mo_never 5 (some .int)) :: z_T) B.pre
  have htz : ∀ w ∈ z_T, w.before _ s = true := fun w h => hts w (z_cons w h)
  subst hsz
  have hD := hD0.self (sz := s.heap.size)
  generalize hAe : va_A (mw k a f g) s.heap.size = A at hD hE ⊢
  have hA : ∀ q : Nat, s.heap.size ≤ q → A q := fun q h => by rw [← hAe]; exact Or.inr h
  have hl := lv_entry ([.ref (a 0), .int x1]) (n := 5) (Nat.le_of_ble_eq_true rfl)
  rw [lg_entry_eq]
  generalize (lg_sl ([.ref (a 0), .int x1]) ++ List.replicate (5 - (lg_sl ([.ref (a 0), .int x1])).length) Slot.unset).toArray = ls at hl ⊢
  exact h ((l, dC, dI, k, a), p, e, s, m, ([.ref (a 0), .int x1] : List Value).toArray, below, meth, c, A) rfl ⟨B.exec, B.bytes, B.returns, htz, findClass_of_methodNamed B.named, B.notSynchronized, hml, hE, hK, hA⟩ s.heap [] ls hl hP hD va_S.rf
def zn_endless (C : CT) (Post : Int32 → FT → GT → Prop) (pc : Nat) (loc : List (Nat × Value)) (st : List Value) (f : FT) (g : GT) : Prop := zW C (z_rm 2 0 0) 5 (qI C Post) 0 0 pc loc st (mM C.1 f g)
set_option maxHeartbeats 1000000 in
set_option maxRecDepth 100000 in
theorem k_Mo_endless_0 {C : CT} (X : cM C "QuestionTextModel" b_Mo_endless 5 (some .int)) (Post : Int32 → FT → GT → Prop) (x1 : Int32) (f : FT) (g : GT)
    (k_10 : (x1 < 0) → zn_endless C Post 10 [(0, .ref (ad C.1 0)), (1, .int x1)] [.int 0, .ref (ad C.1 0)] f g)
    (k_10_1 : (¬ x1 < 0) → zn_endless C Post 10 [(0, .ref (ad C.1 0)), (1, .int x1)] [.int 1, .ref (ad C.1 0)] f g) : zn_endless C Post 0 [(0, .ref (ad C.1 0)), (1, .int x1)] [] f g := by
  obtain ⟨⟨l, dC, dI, k, a⟩, p, e, s, m, args, below, meth, c, A⟩ := C
  obtain ⟨hx, hb, hr, htz, hown, hlocks, hml, hE, hK, hA⟩ := X
  intro H locs ls hl hP hD hS
  have hl : lv_has ls 5 [(0, .ref (a 0)), (1, .int x1)] := hl
  have hP : va_P (dC, dI) classes (mw k a f g) H := hP
  have hD : va_D A (mw k a f g) := hD
  show W p l e (z_rm 2 0 0) s m args below meth c H locs 0 0 _ (F0 m 0 ls [])
  refine lv_aload_n hx hb d_Mo_endless_0 rfl (lv_at hl 0 rfl) ?_
  refine lv_iload_n hx hb d_Mo_endless_1 rfl (lv_at hl 1 rfl) ?_
  refine lv_if_lt (tgt := 9) hx hb d_Mo_endless_2 (by decide) (fun c_2 => ?_) (fun c_2 => ?_)
  · refine lv_iconst (v := 0) hx hb d_Mo_endless_9 (by decide) ?_
    exact (k_10 c_2) H locs ls (lv_sub hl [0, 1] rfl) hP hD hS
  · refine lv_iconst (v := 1) hx hb d_Mo_endless_5 (by decide) ?_
    refine lv_goto (tgt := 10) hx hb d_Mo_endless_6 (by decide) ?_
    exact (k_10_1 c_2) H locs ls (lv_sub hl [0, 1] rfl) hP hD hS
set_option maxHeartbeats 1000000 in
set_option maxRecDepth 100000 in
theorem k_Mo_endless_10 {C : CT} (X : cM C "QuestionTextModel" b_Mo_endless 5 (some .int)) (Post : Int32 → FT → GT → Prop) {P_10 : Int32 → FT → GT → Prop} (x1 : Int32) (y0 : Int32) (f : FT) (g : GT)
    (m_10 : mI C.1 y_Mo_says (Cond.code y_Mo_says b_Mo_says 2 (some .boolean)) 0 [.ref (ad C.1 0), .int y0] f g P_10)
    (k_10 : ∀ (r : Int32) (f1 : FT) (g1 : GT), P_10 r f1 g1 → zn_endless C Post 13 [(0, .ref (ad C.1 0)), (1, .int x1)] [.int r] f1 g1) : zn_endless C Post 10 [(0, .ref (ad C.1 0)), (1, .int x1)] [.int y0, .ref (ad C.1 0)] f g := by
  obtain ⟨⟨l, dC, dI, k, a⟩, p, e, s, m, args, below, meth, c, A⟩ := C
  obtain ⟨hx, hb, hr, htz, hown, hlocks, hml, hE, hK, hA⟩ := X
  intro H locs ls hl hP hD hS
  have hl : lv_has ls 5 [(0, .ref (a 0)), (1, .int x1)] := hl
  have hP : va_P (dC, dI) classes (mw k a f g) H := hP
  have hD : va_D A (mw k a f g) := hD
  show W p l e (z_rm 2 0 0) s m args below meth c H locs 0 0 _ (F0 m 10 ls [.int y0, .ref (a 0)])
  have hFc := va_free (wc := mw k a f g) hD hS hA [0, 1, 2, 3, 4, 5, 6, 7, 8, 9, 10, 11, 12, 13, 14, 15, 16, 17, 18] rfl
  refine va_calli (va_runV (As := [.int y0]) (rest := []) ⟨hx, hb, hml, hown, htz⟩ (m_10 H.size) (cwV 1 htz (z_gV (fun _ h => h) km_Mo_147 in_Mo_says se_Mo_says ini_Mo m_Mo_says) rfl rfl rfl (by decide +kernel) ⟨(Nat.le_of_ble_eq_true rfl), (Nat.le_of_ble_eq_true rfl)⟩) ⟨z_blind, va_recv hK hP (ci := 4) (q0 := 0) rfl rfl, fun U hU hW => ⟨rfl, by rw [hU], hE.call hS hFc hU hW, by rw [hU]; exact hP, va_K.moved hW.alike hK, hD.weaken (fun _ _ _ _ => trivial)⟩⟩ rfl rfl hl.1 rfl (lv_room (Nat.le_of_ble_eq_true rfl)) d_Mo_endless_10 ⟨(Nat.le_of_ble_eq_true rfl), (Nat.le_of_ble_eq_true rfl)⟩) hS (fun q _ h => hFc q h) hFc (fun r u t H1 locs ht hvm hw hB hz1 hk1 hS => ?_)
  obtain ⟨hP1, hK1, hD1⟩ := hB
  rw [ht] at hP1
  exact k_10 r _ _ hw H1 locs ls (lv_sub hl [0, 1] rfl) hP1 (hD1.weaken (fun _ q _ h => hFc _ h)) hS
set_option maxHeartbeats 1000000 in
set_option maxRecDepth 100000 in
theorem k_Mo_endless_13 {C : CT} (X : cM C "QuestionTextModel" b_Mo_endless 5 (some .int)) (Post : Int32 → FT → GT → Prop) (x1 : Int32) (y0 : Int32) (f : FT) (g : GT)
    (k_22 : (¬ y0 = 0) → zn_endless C Post 22 [(0, .ref (ad C.1 0)), (1, .int x1), (2, .int x1), (3, .int 1)] [] f g)
    (q_17 : (y0 = 0) → Post (0) f g) : zn_endless C Post 13 [(0, .ref (ad C.1 0)), (1, .int x1)] [.int y0] f g := by
  obtain ⟨⟨l, dC, dI, k, a⟩, p, e, s, m, args, below, meth, c, A⟩ := C
  obtain ⟨hx, hb, hr, htz, hown, hlocks, hml, hE, hK, hA⟩ := X
  intro H locs ls hl hP hD hS
  have hl : lv_has ls 5 [(0, .ref (a 0)), (1, .int x1)] := hl
  have hP : va_P (dC, dI) classes (mw k a f g) H := hP
  have hD : va_D A (mw k a f g) := hD
  show W p l e (z_rm 2 0 0) s m args below meth c H locs 0 0 _ (F0 m 13 ls [.int y0])
  refine lv_if_ne (tgt := 18) hx hb d_Mo_endless_13 (by decide) (fun c_13 => ?_) (fun c_13 => ?_)
  · refine lv_iload_n hx hb d_Mo_endless_18 rfl (lv_at hl 1 rfl) ?_
    refine lv_istore_n (lv' := [(2, .int x1), (0, .ref (a 0)), (1, .int x1)]) hx hb d_Mo_endless_19 rfl hl (by decide) rfl (fun ls hl => ?_)
    refine lv_iconst (v := 1) hx hb d_Mo_endless_20 (by decide) ?_
    refine lv_istore_n (lv' := [(3, .int 1), (2, .int x1), (0, .ref (a 0)), (1, .int x1)]) hx hb d_Mo_endless_21 rfl hl (by decide) rfl (fun ls hl => ?_)
    exact (k_22 c_13) H locs ls (lv_sub hl [2, 3, 1, 0] rfl) hP hD hS
  · refine lv_iconst (v := 0) hx hb d_Mo_endless_16 (by decide) ?_
    exact W.iret (v := 0) hx hb hr (fun t ht hW => ⟨⟨_, (f, g), rfl, (q_17 c_13), by rw [ht]; exact hP, va_K.moved hW.alike hK, hD⟩, hS.F ht⟩) hS.2.2 d_Mo_endless_17
set_option maxHeartbeats 1000000 in
set_option maxRecDepth 100000 in
theorem k_Mo_endless_22 {C : CT} (X : cM C "QuestionTextModel" b_Mo_endless 5 (some .int)) (Post : Int32 → FT → GT → Prop) {P_47 : Int32 → FT → GT → Prop} (x1 : Int32) (x2 : Int32) (x3 : Int32) (f : FT) (g : GT)
    (q_94 : (10 ≤ x3) → Post (0) f g)
    (h_41 : (¬ 10 ≤ x3) → vp_in (((f 4) * 10) + x3) 100)
    (m_47 : (¬ 10 ≤ x3) → mI C.1 y_Mo_isThere (Cond.code y_Mo_isThere b_Mo_isThere 2 (some .boolean)) 0 [.ref (ad C.1 0), .int (g 9 (((f 4) * 10) + x3 : Int32).toNatClampNeg)] f g P_47)
    (k_47 : (¬ 10 ≤ x3) → ∀ (r : Int32) (f1 : FT) (g1 : GT), P_47 r f1 g1 → zn_endless C Post 50 [(0, .ref (ad C.1 0)), (1, .int x1), (2, .int x2), (3, .int x3), (4, .int (g 9 (((f 4) * 10) + x3 : Int32).toNatClampNeg))] [.int r] f1 g1) : zn_endless C Post 22 [(0, .ref (ad C.1 0)), (1, .int x1), (2, .int x2), (3, .int x3)] [] f g := by
  obtain ⟨⟨l, dC, dI, k, a⟩, p, e, s, m, args, below, meth, c, A⟩ := C
  obtain ⟨hx, hb, hr, htz, hown, hlocks, hml, hE, hK, hA⟩ := X
  intro H locs ls hl hP hD hS
  have hl : lv_has ls 5 [(0, .ref (a 0)), (1, .int x1), (2, .int x2), (3, .int x3)] := hl
  have hP : va_P (dC, dI) classes (mw k a f g) H := hP
  have hD : va_D A (mw k a f g) := hD
  show W p l e (z_rm 2 0 0) s m args below meth c H locs 0 0 _ (F0 m 22 ls [])
  refine lv_iload_n hx hb d_Mo_endless_22 rfl (lv_at hl 3 rfl) ?_
  refine lv_bipush (v := 10) hx hb d_Mo_endless_23 (by decide) ?_
  refine lv_icmp_ge (tgt := 93) hx hb d_Mo_endless_25 (by decide) (fun c_25 => ?_) (fun c_25 => ?_)
  · refine lv_iconst (v := 0) hx hb d_Mo_endless_93 (by decide) ?_
    exact W.iret (v := 0) hx hb hr (fun t ht hW => ⟨⟨_, (f, g), rfl, (q_94 c_25), by rw [ht]; exact hP, va_K.moved hW.alike hK, hD⟩, hS.F ht⟩) hS.2.2 d_Mo_endless_94
  · refine lv_aload_n hx hb d_Mo_endless_28 rfl (lv_at hl 0 rfl) ?_
    refine va_get (D := (dC, dI)) (ci := 4) (v := .ref (a 10)) (C := R_Mo) (T := F_Mo) (N := 31) hx hb htz i_Mo hown hK hP 0 rfl rfl 14 (by decide) (htz _ kf_Mo_42) (fun _ h9 => h9) rfl d_Mo_endless_29 ?_
    refine lv_aload_n hx hb d_Mo_endless_32 rfl (lv_at hl 0 rfl) ?_
    refine va_get (D := (dC, dI)) (ci := 4) (v := .int (f 4)) (C := R_Mo) (T := F_Mo) (N := 31) hx hb htz i_Mo hown hK hP 0 rfl rfl 5 (by decide) (htz _ kf_Mo_126) (fun _ h9 => h9) rfl d_Mo_endless_33 ?_
    refine lv_bipush (v := 10) hx hb d_Mo_endless_36 (by decide) ?_
    refine lv_imul hx hb d_Mo_endless_38 ?_
    refine lv_iload_n hx hb d_Mo_endless_39 rfl (lv_at hl 3 rfl) ?_
    refine lv_iadd hx hb d_Mo_endless_40 ?_
    refine va_iald hx hb hK hP 10 0 rfl rfl (h_41 c_25) d_Mo_endless_41 ?_
    refine lv_istore (lv' := [(4, .int (g 9 (((f 4) * 10) + x3 : Int32).toNatClampNeg)), (0, .ref (a 0)), (1, .int x1), (2, .int x2), (3, .int x3)]) hx hb d_Mo_endless_42 hl (by decide) rfl (fun ls hl => ?_)
    refine lv_aload_n hx hb d_Mo_endless_44 rfl (lv_at hl 1 rfl) ?_
    refine lv_iload hx hb d_Mo_endless_45 (lv_at hl 0 rfl) ?_
    have hFc := va_free (wc := mw k a f g) hD hS hA [0, 1, 2, 3, 4, 5, 6, 7, 8, 9, 10, 11, 12, 13, 14, 15, 16, 17, 18] rfl
    refine va_calli (va_runV (As := [.int (g 9 (((f 4) * 10) + x3 : Int32).toNatClampNeg)]) (rest := []) ⟨hx, hb, hml, hown, htz⟩ ((m_47 c_25) H.size) (cwV 1 htz (z_gV (fun _ h => h) km_Mo_151 in_Mo_isThere se_Mo_isThere ini_Mo m_Mo_isThere) rfl rfl rfl (by decide +kernel) ⟨(Nat.le_of_ble_eq_true rfl), (Nat.le_of_ble_eq_true rfl)⟩) ⟨z_blind, va_recv hK hP (ci := 4) (q0 := 0) rfl rfl, fun U hU hW => ⟨rfl, by rw [hU], hE.call hS hFc hU hW, by rw [hU]; exact hP, va_K.moved hW.alike hK, hD.weaken (fun _ _ _ _ => trivial)⟩⟩ rfl rfl hl.1 rfl (lv_room (Nat.le_of_ble_eq_true rfl)) d_Mo_endless_47 ⟨(Nat.le_of_ble_eq_true rfl), (Nat.le_of_ble_eq_true rfl)⟩) hS (fun q _ h => hFc q h) hFc (fun r u t H1 locs ht hvm hw hB hz1 hk1 hS => ?_)
    obtain ⟨hP1, hK1, hD1⟩ := hB
    rw [ht] at hP1
    exact (k_47 c_25) r _ _ hw H1 locs ls (lv_sub hl [1, 2, 3, 4, 0] rfl) hP1 (hD1.weaken (fun _ q _ h => hFc _ h)) hS
set_option maxHeartbeats 1000000 in
set_option maxRecDepth 100000 in
theorem k_Mo_endless_50 {C : CT} (X : cM C "QuestionTextModel" b_Mo_endless 5 (some .int)) (Post : Int32 → FT → GT → Prop) {P_57 : FT → GT → Prop} (x1 : Int32) (x2 : Int32) (x3 : Int32) (x4 : Int32) (y0 : Int32) (f : FT) (g : GT)
    (m_57 : (¬ y0 = 0) → mV C.1 y_Mo_unmark (Cond.code y_Mo_unmark b_Mo_unmark 2 none) 0 [.ref (ad C.1 0)] f g P_57)
    (k_57 : (¬ y0 = 0) → ∀ (f1 : FT) (g1 : GT), P_57 f1 g1 → zn_endless C Post 60 [(0, .ref (ad C.1 0)), (1, .int x1), (2, .int x2), (3, .int x3), (4, .int x4)] [] f1 g1)
    (k_87 : (y0 = 0) → zn_endless C Post 87 [(0, .ref (ad C.1 0)), (1, .int x1), (2, .int x2), (3, .int x3), (4, .int x4)] [] f g) : zn_endless C Post 50 [(0, .ref (ad C.1 0)), (1, .int x1), (2, .int x2), (3, .int x3), (4, .int x4)] [.int y0] f g := by
  obtain ⟨⟨l, dC, dI, k, a⟩, p, e, s, m, args, below, meth, c, A⟩ := C
  obtain ⟨hx, hb, hr, htz, hown, hlocks, hml, hE, hK, hA⟩ := X
  intro H locs ls hl hP hD hS
  have hl : lv_has ls 5 [(0, .ref (a 0)), (1, .int x1), (2, .int x2), (3, .int x3), (4, .int x4)] := hl
  have hP : va_P (dC, dI) classes (mw k a f g) H := hP
  have hD : va_D A (mw k a f g) := hD
  show W p l e (z_rm 2 0 0) s m args below meth c H locs 0 0 _ (F0 m 50 ls [.int y0])
  refine lv_if_ne (tgt := 56) hx hb d_Mo_endless_50 (by decide) (fun c_50 => ?_) (fun c_50 => ?_)
  · refine lv_aload_n hx hb d_Mo_endless_56 rfl (lv_at hl 0 rfl) ?_
    have hFc := va_free (wc := mw k a f g) hD hS hA [0, 1, 2, 3, 4, 5, 6, 7, 8, 9, 10, 11, 12, 13, 14, 15, 16, 17, 18] rfl
    refine va_callv (va_runV (As := []) (rest := []) ⟨hx, hb, hml, hown, htz⟩ ((m_57 c_50) H.size) (cwV 0 htz (z_gV (fun _ h => h) km_Mo_170 in_Mo_unmark se_Mo_unmark ini_Mo m_Mo_unmark) rfl rfl rfl (by decide +kernel) ⟨(Nat.le_of_ble_eq_true rfl), (Nat.le_of_ble_eq_true rfl)⟩) ⟨z_blind, va_recv hK hP (ci := 4) (q0 := 0) rfl rfl, fun U hU hW => ⟨rfl, by rw [hU], hE.call hS hFc hU hW, by rw [hU]; exact hP, va_K.moved hW.alike hK, hD.weaken (fun _ _ _ _ => trivial)⟩⟩ rfl rfl hl.1 rfl (lv_room (Nat.le_of_ble_eq_true rfl)) d_Mo_endless_57 ⟨(Nat.le_of_ble_eq_true rfl), (Nat.le_of_ble_eq_true rfl)⟩) hS (fun q _ h => hFc q h) hFc (fun u t H1 locs ht hvm hw hB hz1 hk1 hS => ?_)
    obtain ⟨hP1, hK1, hD1⟩ := hB
    rw [ht] at hP1
    exact (k_57 c_50) _ _ hw H1 locs ls (lv_sub hl [0, 1, 2, 3, 4] rfl) hP1 (hD1.weaken (fun _ q _ h => hFc _ h)) hS
  · refine lv_goto (tgt := 87) hx hb d_Mo_endless_53 (by decide) ?_
    exact (k_87 c_50) H locs ls (lv_sub hl [0, 1, 2, 3, 4] rfl) hP hD hS
set_option maxHeartbeats 1000000 in
set_option maxRecDepth 100000 in
theorem k_Mo_endless_60 {C : CT} (X : cM C "QuestionTextModel" b_Mo_endless 5 (some .int)) (Post : Int32 → FT → GT → Prop) {P_69 : Int32 → FT → GT → Prop} (x1 : Int32) (x2 : Int32) (x3 : Int32) (x4 : Int32) (f : FT) (g : GT)
    (h_67 : vp_in (x4) 61)
    (m_69 : mI C.1 y_Mo_spreads (Cond.code y_Mo_spreads b_Mo_spreads 7 (some .boolean)) 1 [.ref (ad C.1 0)] f (va_up g 17 (upd (g 17) (x4 : Int32).toNatClampNeg (vp_nar .boolean 1))) P_69)
    (k_69 : ∀ (r : Int32) (f1 : FT) (g1 : GT), P_69 r f1 g1 → zn_endless C Post 72 [(0, .ref (ad C.1 0)), (1, .int x1), (2, .int x2), (3, .int x3), (4, .int x4)] [.int r] f1 g1) : zn_endless C Post 60 [(0, .ref (ad C.1 0)), (1, .int x1), (2, .int x2), (3, .int x3), (4, .int x4)] [] f g := by
  obtain ⟨⟨l, dC, dI, k, a⟩, p, e, s, m, args, below, meth, c, A⟩ := C
  obtain ⟨hx, hb, hr, htz, hown, hlocks, hml, hE, hK, hA⟩ := X
  intro H locs ls hl hP hD hS
  have hl : lv_has ls 5 [(0, .ref (a 0)), (1, .int x1), (2, .int x2), (3, .int x3), (4, .int x4)] := hl
  have hP : va_P (dC, dI) classes (mw k a f g) H := hP
  have hD : va_D A (mw k a f g) := hD
  show W p l e (z_rm 2 0 0) s m args below meth c H locs 0 0 _ (F0 m 60 ls [])
  refine lv_aload_n hx hb d_Mo_endless_60 rfl (lv_at hl 0 rfl) ?_
  refine va_get (D := (dC, dI)) (ci := 4) (v := .ref (a 18)) (C := R_Mo) (T := F_Mo) (N := 31) hx hb htz i_Mo hown hK hP 0 rfl rfl 30 (by decide) (htz _ kf_Mo_66) (fun _ h9 => h9) rfl d_Mo_endless_61 ?_
  refine lv_iload hx hb d_Mo_endless_64 (lv_at hl 4 rfl) ?_
  refine lv_iconst (v := 1) hx hb d_Mo_endless_66 (by decide) ?_
  refine va_zast hx hb hK hP hD hS 18 2 rfl rfl h_67 d_Mo_endless_67 (fun H locs hP hD hS => ?_)
  replace hP := mg_17 (c := upd (g 17) (x4 : Int32).toNatClampNeg (vp_nar .boolean 1)) hP
  replace hD := mh_17 (c := upd (g 17) (x4 : Int32).toNatClampNeg (vp_nar .boolean 1)) hD
  refine lv_aload_n hx hb d_Mo_endless_68 rfl (lv_at hl 0 rfl) ?_
  have hFc := va_free (wc := mw k a f (va_up g 17 (upd (g 17) (x4 : Int32).toNatClampNeg (vp_nar .boolean 1)))) hD hS hA [0, 1, 2, 3, 4, 5, 6, 7, 8, 9, 10, 11, 12, 13, 14, 15, 16, 17, 18] rfl
  refine va_calli (va_runV (As := []) (rest := []) ⟨hx, hb, hml, hown, htz⟩ (m_69 H.size) (cwV 0 htz (z_gV (fun _ h => h) km_Mo_173 in_Mo_spreads se_Mo_spreads ini_Mo m_Mo_spreads) rfl rfl rfl (by decide +kernel) ⟨(Nat.le_of_ble_eq_true rfl), (Nat.le_of_ble_eq_true rfl)⟩) ⟨z_blind, va_recv hK hP (ci := 4) (q0 := 0) rfl rfl, fun U hU hW => ⟨rfl, by rw [hU], hE.call hS hFc hU hW, by rw [hU]; exact hP, va_K.moved hW.alike hK, hD.weaken (fun _ _ _ _ => trivial)⟩⟩ rfl rfl hl.1 rfl (lv_room (Nat.le_of_ble_eq_true rfl)) d_Mo_endless_69 ⟨(Nat.le_of_ble_eq_true rfl), (Nat.le_of_ble_eq_true rfl)⟩) hS (fun q _ h => hFc q h) hFc (fun r u t H1 locs ht hvm hw hB hz1 hk1 hS => ?_)
  obtain ⟨hP1, hK1, hD1⟩ := hB
  rw [ht] at hP1
  exact k_69 r _ _ hw H1 locs ls (lv_sub hl [0, 1, 2, 3, 4] rfl) hP1 (hD1.weaken (fun _ q _ h => hFc _ h)) hS
set_option maxHeartbeats 1000000 in
set_option maxRecDepth 100000 in
theorem k_Mo_endless_72 {C : CT} (X : cM C "QuestionTextModel" b_Mo_endless 5 (some .int)) (Post : Int32 → FT → GT → Prop) (x1 : Int32) (x2 : Int32) (x3 : Int32) (x4 : Int32) (y0 : Int32) (f : FT) (g : GT)
    (k_87 : (y0 = 0) → (¬ x2 = 0) → zn_endless C Post 87 [(0, .ref (ad C.1 0)), (1, .int x1), (2, .int (x2 + (-1))), (3, .int x3), (4, .int x4)] [] f g)
    (q_83 : (y0 = 0) → (x2 = 0) → Post (x3) f g)
    (k_87_1 : (¬ y0 = 0) → zn_endless C Post 87 [(0, .ref (ad C.1 0)), (1, .int x1), (2, .int x2), (3, .int x3), (4, .int x4)] [] f g) : zn_endless C Post 72 [(0, .ref (ad C.1 0)), (1, .int x1), (2, .int x2), (3, .int x3), (4, .int x4)] [.int y0] f g := by
  obtain ⟨⟨l, dC, dI, k, a⟩, p, e, s, m, args, below, meth, c, A⟩ := C
  obtain ⟨hx, hb, hr, htz, hown, hlocks, hml, hE, hK, hA⟩ := X
  intro H locs ls hl hP hD hS
  have hl : lv_has ls 5 [(0, .ref (a 0)), (1, .int x1), (2, .int x2), (3, .int x3), (4, .int x4)] := hl
  have hP : va_P (dC, dI) classes (mw k a f g) H := hP
  have hD : va_D A (mw k a f g) := hD
  show W p l e (z_rm 2 0 0) s m args below meth c H locs 0 0 _ (F0 m 72 ls [.int y0])
  refine lv_if_eq (tgt := 78) hx hb d_Mo_endless_72 (by decide) (fun c_72 => ?_) (fun c_72 => ?_)
  · refine lv_iload_n hx hb d_Mo_endless_78 rfl (lv_at hl 2 rfl) ?_
    refine lv_if_ne (tgt := 84) hx hb d_Mo_endless_79 (by decide) (fun c_79 => ?_) (fun c_79 => ?_)
    · refine lv_iinc (v := x2 + (-1)) (lv' := [(2, .int (x2 + (-1))), (0, .ref (a 0)), (1, .int x1), (3, .int x3), (4, .int x4)]) hx hb d_Mo_endless_84 hl (k := 2) rfl (rfl) (by decide) rfl (fun ls hl => ?_)
      exact (k_87 c_72 c_79) H locs ls (lv_sub hl [1, 2, 0, 3, 4] rfl) hP hD hS
    · refine lv_iload_n hx hb d_Mo_endless_82 rfl (lv_at hl 3 rfl) ?_
      exact W.iret (v := x3) hx hb hr (fun t ht hW => ⟨⟨_, (f, g), rfl, (q_83 c_72 c_79), by rw [ht]; exact hP, va_K.moved hW.alike hK, hD⟩, hS.F ht⟩) hS.2.2 d_Mo_endless_83
  · refine lv_goto (tgt := 87) hx hb d_Mo_endless_75 (by decide) ?_
    exact (k_87_1 c_72) H locs ls (lv_sub hl [0, 1, 2, 3, 4] rfl) hP hD hS
set_option maxHeartbeats 1000000 in
set_option maxRecDepth 100000 in
theorem k_Mo_endless_87 {C : CT} (X : cM C "QuestionTextModel" b_Mo_endless 5 (some .int)) (Post : Int32 → FT → GT → Prop) (x1 : Int32) (x2 : Int32) (x3 : Int32) (x4 : Int32) (f : FT) (g : GT)
    (k_22 : zn_endless C Post 22 [(0, .ref (ad C.1 0)), (1, .int x1), (2, .int x2), (3, .int (x3 + 1))] [] f g) : zn_endless C Post 87 [(0, .ref (ad C.1 0)), (1, .int x1), (2, .int x2), (3, .int x3), (4, .int x4)] [] f g := by
  obtain ⟨⟨l, dC, dI, k, a⟩, p, e, s, m, args, below, meth, c, A⟩ := C
  obtain ⟨hx, hb, hr, htz, hown, hlocks, hml, hE, hK, hA⟩ := X
  intro H locs ls hl hP hD hS
  have hl : lv_has ls 5 [(0, .ref (a 0)), (1, .int x1), (2, .int x2), (3, .int x3), (4, .int x4)] := hl
  have hP : va_P (dC, dI) classes (mw k a f g) H := hP
  have hD : va_D A (mw k a f g) := hD
  show W p l e (z_rm 2 0 0) s m args below meth c H locs 0 0 _ (F0 m 87 ls [])
  refine lv_iinc (v := x3 + 1) (lv' := [(3, .int (x3 + 1)), (0, .ref (a 0)), (1, .int x1), (2, .int x2), (4, .int x4)]) hx hb d_Mo_endless_87 hl (k := 3) rfl (rfl) (by decide) rfl (fun ls hl => ?_)
  refine lv_goto (tgt := 22) hx hb d_Mo_endless_90 (by decide) ?_
  exact k_22 H locs ls (lv_sub hl [1, 2, 3, 0] rfl) hP hD hS
set_option maxHeartbeats 1000000 in
set_option maxRecDepth 100000 in
theorem e_Mo_endless (T : ST) (Post : Int32 → FT → GT → Prop) (x1 : Int32) (f : FT) (g : GT) (h : ∀ C : CT, C.1 = T → cM C "QuestionTextModel" b_Mo_endless 5 (some .int) → zn_endless C Post 0 [(0, .ref (ad C.1 0)), (1, .int x1)] [] f g) : mI T y_Mo_endless (Cond.code y_Mo_endless b_Mo_endless 5 (some .int)) 2 [.ref (ad T 0), .int x1] f g Post := by
  obtain ⟨l, dC, dI, k, a⟩ := T
  intro sz
  refine Met.ofW (cc := b_Mo_endless) (maxL := 5) (ret := (some .int)) (by decide) rfl ?_
  intro p e s m args below meth c s₁ B hml hv
  obtain ⟨rfl, hsz, hE, hP, hK, hD0⟩ := hv
  have hts := atoms_spec (ws := (Cond.code y_Mo_endless b_Mo_endless 5 (some .int)) :: z_T) B.pre
  have htz : ∀ w ∈ z_T, w.before _ s = true := fun w h => hts w (z_cons w h)
  subst hsz
  have hD := hD0.self (sz := s.heap.size)
  generalize hAe : va_A (mw k a f g) s.heap.size = A at hD hE ⊢
  have hA : ∀ q : Nat, s.heap.size ≤ q → A q := fun q h => by rw [← hAe]; exact Or.inr h
  have hl := lv_entry ([.ref (a 0), .int x1]) (n := 5) (Nat.le_of_ble_eq_true rfl)
  rw [lg_entry_eq]
  generalize (lg_sl ([.ref (a 0), .int x1]) ++ List.replicate (5 - (lg_sl ([.ref (a 0), .int x1])).length) Slot.unset).toArray = ls at hl ⊢
  exact h ((l, dC, dI, k, a), p, e, s, m, ([.ref (a 0), .int x1] : List Value).toArray, below, meth, c, A) rfl ⟨B.exec, B.bytes, B.returns, htz, findClass_of_methodNamed B.named, B.notSynchronized, hml, hE, hK, hA⟩ s.heap [] ls hl hP hD va_S.rf
def zn_word (C : CT) (Post : Int32 → FT → GT → Prop) (pc : Nat) (loc : List (Nat × Value)) (st : List Value) (f : FT) (g : GT) : Prop := zW C (z_rm 1 0 0) 5 (qI C Post) 0 0 pc loc st (mM C.1 f g)
set_option maxHeartbeats 1000000 in
set_option maxRecDepth 100000 in
theorem k_Mo_word_0 {C : CT} (X : cM C "QuestionTextModel" b_Mo_word 5 (some .int)) (Post : Int32 → FT → GT → Prop) {P_5 : Int32 → FT → GT → Prop} (x1 : Int32) (x2 : Int32) (x3 : Int32) (f : FT) (g : GT)
    (m_5 : mI C.1 y_Mo_in (Cond.code y_Mo_in b_Mo_in 3 (some .boolean)) 0 [.int x1, .int 1, .int 60] f g P_5)
    (k_5 : ∀ (r : Int32) (f1 : FT) (g1 : GT), P_5 r f1 g1 → zn_word C Post 8 [(0, .ref (ad C.1 0)), (1, .int x1), (2, .int x2), (3, .int x3)] [.int r, .ref (ad C.1 0)] f1 g1) : zn_word C Post 0 [(0, .ref (ad C.1 0)), (1, .int x1), (2, .int x2), (3, .int x3)] [] f g := by
  obtain ⟨⟨l, dC, dI, k, a⟩, p, e, s, m, args, below, meth, c, A⟩ := C
  obtain ⟨hx, hb, hr, htz, hown, hlocks, hml, hE, hK, hA⟩ := X
  intro H locs ls hl hP hD hS
  have hl : lv_has ls 5 [(0, .ref (a 0)), (1, .int x1), (2, .int x2), (3, .int x3)] := hl
  have hP : va_P (dC, dI) classes (mw k a f g) H := hP
  have hD : va_D A (mw k a f g) := hD
  show W p l e (z_rm 1 0 0) s m args below meth c H locs 0 0 _ (F0 m 0 ls [])
  refine lv_aload_n hx hb d_Mo_word_0 rfl (lv_at hl 0 rfl) ?_
  refine lv_iload_n hx hb d_Mo_word_1 rfl (lv_at hl 1 rfl) ?_
  refine lv_iconst (v := 1) hx hb d_Mo_word_2 (by decide) ?_
  refine lv_bipush (v := 60) hx hb d_Mo_word_3 (by decide) ?_
  have hFc := va_free (wc := mw k a f g) hD hS hA [0, 1, 2, 3, 4, 5, 6, 7, 8, 9, 10, 11, 12, 13, 14, 15, 16, 17, 18] rfl
  refine va_calli (va_runS (As := [.int x1, .int 1, .int 60]) (rest := [.ref (a 0)]) ⟨hx, hb, hml, hown, htz⟩ (m_5 H.size) (va_cwS 3 htz (z_gS (fun _ h => h) km_Mo_72 st_Mo_in ini_Mo m_Mo_in) rfl rfl rfl (by decide +kernel) ⟨(Nat.le_of_ble_eq_true rfl), (Nat.le_of_ble_eq_true rfl)⟩) ⟨z_blind, fun U hU hW => ⟨rfl, by rw [hU], hE.call hS hFc hU hW, by rw [hU]; exact hP, va_K.moved hW.alike hK, hD.weaken (fun _ _ _ _ => trivial)⟩⟩ rfl rfl hl.1 rfl (lv_room (Nat.le_of_ble_eq_true rfl)) d_Mo_word_5 ⟨(Nat.le_of_ble_eq_true rfl), (Nat.le_of_ble_eq_true rfl)⟩) hS (fun q _ h => hFc q h) hFc (fun r u t H1 locs ht hvm hw hB hz1 hk1 hS => ?_)
  obtain ⟨hP1, hK1, hD1⟩ := hB
  rw [ht] at hP1
  exact k_5 r _ _ hw H1 locs ls (lv_sub hl [0, 1, 2, 3] rfl) hP1 (hD1.weaken (fun _ q _ h => hFc _ h)) hS
set_option maxHeartbeats 1000000 in
set_option maxRecDepth 100000 in
theorem k_Mo_word_8 {C : CT} (X : cM C "QuestionTextModel" b_Mo_word 5 (some .int)) (Post : Int32 → FT → GT → Prop) {P_16 : Int32 → FT → GT → Prop} (x1 : Int32) (x2 : Int32) (x3 : Int32) (y0 : Int32) (f : FT) (g : GT)
    (k_50 : (y0 = 0) → zn_word C Post 50 [(0, .ref (ad C.1 0)), (1, .int x1), (2, .int x2), (3, .int x3)] [.ref (ad C.1 0)] f g)
    (m_16 : (¬ y0 = 0) → mI C.1 y_Mo_in (Cond.code y_Mo_in b_Mo_in 3 (some .boolean)) 0 [.int x1, .int 1, .int 60] f g P_16)
    (k_16 : (¬ y0 = 0) → ∀ (r : Int32) (f1 : FT) (g1 : GT), P_16 r f1 g1 → zn_word C Post 19 [(0, .ref (ad C.1 0)), (1, .int x1), (2, .int x2), (3, .int x3)] [.int r, .ref (ad C.1 0), .ref (ad C.1 0)] f1 g1) : zn_word C Post 8 [(0, .ref (ad C.1 0)), (1, .int x1), (2, .int x2), (3, .int x3)] [.int y0, .ref (ad C.1 0)] f g := by
  obtain ⟨⟨l, dC, dI, k, a⟩, p, e, s, m, args, below, meth, c, A⟩ := C
  obtain ⟨hx, hb, hr, htz, hown, hlocks, hml, hE, hK, hA⟩ := X
  intro H locs ls hl hP hD hS
  have hl : lv_has ls 5 [(0, .ref (a 0)), (1, .int x1), (2, .int x2), (3, .int x3)] := hl
  have hP : va_P (dC, dI) classes (mw k a f g) H := hP
  have hD : va_D A (mw k a f g) := hD
  show W p l e (z_rm 1 0 0) s m args below meth c H locs 0 0 _ (F0 m 8 ls [.int y0, .ref (a 0)])
  refine lv_if_eq (tgt := 50) hx hb d_Mo_word_8 (by decide) (fun c_8 => ?_) (fun c_8 => ?_)
  · exact (k_50 c_8) H locs ls (lv_sub hl [0, 1, 2, 3] rfl) hP hD hS
  · refine lv_aload_n hx hb d_Mo_word_11 rfl (lv_at hl 0 rfl) ?_
    refine lv_iload_n hx hb d_Mo_word_12 rfl (lv_at hl 1 rfl) ?_
    refine lv_iconst (v := 1) hx hb d_Mo_word_13 (by decide) ?_
    refine lv_bipush (v := 60) hx hb d_Mo_word_14 (by decide) ?_
    have hFc := va_free (wc := mw k a f g) hD hS hA [0, 1, 2, 3, 4, 5, 6, 7, 8, 9, 10, 11, 12, 13, 14, 15, 16, 17, 18] rfl
    refine va_calli (va_runS (As := [.int x1, .int 1, .int 60]) (rest := [.ref (a 0), .ref (a 0)]) ⟨hx, hb, hml, hown, htz⟩ ((m_16 c_8) H.size) (va_cwS 3 htz (z_gS (fun _ h => h) km_Mo_72 st_Mo_in ini_Mo m_Mo_in) rfl rfl rfl (by decide +kernel) ⟨(Nat.le_of_ble_eq_true rfl), (Nat.le_of_ble_eq_true rfl)⟩) ⟨z_blind, fun U hU hW => ⟨rfl, by rw [hU], hE.call hS hFc hU hW, by rw [hU]; exact hP, va_K.moved hW.alike hK, hD.weaken (fun _ _ _ _ => trivial)⟩⟩ rfl rfl hl.1 rfl (lv_room (Nat.le_of_ble_eq_true rfl)) d_Mo_word_16 ⟨(Nat.le_of_ble_eq_true rfl), (Nat.le_of_ble_eq_true rfl)⟩) hS (fun q _ h => hFc q h) hFc (fun r u t H1 locs ht hvm hw hB hz1 hk1 hS => ?_)
    obtain ⟨hP1, hK1, hD1⟩ := hB
    rw [ht] at hP1
    exact (k_16 c_8) r _ _ hw H1 locs ls (lv_sub hl [0, 1, 2, 3] rfl) hP1 (hD1.weaken (fun _ q _ h => hFc _ h)) hS
set_option maxHeartbeats 1000000 in
set_option maxRecDepth 100000 in
theorem k_Mo_word_19 {C : CT} (X : cM C "QuestionTextModel" b_Mo_word 5 (some .int)) (Post : Int32 → FT → GT → Prop) (x1 : Int32) (x2 : Int32) (x3 : Int32) (y0 : Int32) (f : FT) (g : GT)
    (k_27 : (y0 = 0) → zn_word C Post 27 [(0, .ref (ad C.1 0)), (1, .int x1), (2, .int x2), (3, .int x3)] [.int 0, .ref (ad C.1 0), .ref (ad C.1 0)] f g)
    (k_27_1 : (¬ y0 = 0) → zn_word C Post 27 [(0, .ref (ad C.1 0)), (1, .int x1), (2, .int x2), (3, .int x3)] [.int x1, .ref (ad C.1 0), .ref (ad C.1 0)] f g) : zn_word C Post 19 [(0, .ref (ad C.1 0)), (1, .int x1), (2, .int x2), (3, .int x3)] [.int y0, .ref (ad C.1 0), .ref (ad C.1 0)] f g := by
  obtain ⟨⟨l, dC, dI, k, a⟩, p, e, s, m, args, below, meth, c, A⟩ := C
  obtain ⟨hx, hb, hr, htz, hown, hlocks, hml, hE, hK, hA⟩ := X
  intro H locs ls hl hP hD hS
  have hl : lv_has ls 5 [(0, .ref (a 0)), (1, .int x1), (2, .int x2), (3, .int x3)] := hl
  have hP : va_P (dC, dI) classes (mw k a f g) H := hP
  have hD : va_D A (mw k a f g) := hD
  show W p l e (z_rm 1 0 0) s m args below meth c H locs 0 0 _ (F0 m 19 ls [.int y0, .ref (a 0), .ref (a 0)])
  refine lv_if_eq (tgt := 26) hx hb d_Mo_word_19 (by decide) (fun c_19 => ?_) (fun c_19 => ?_)
  · refine lv_iconst (v := 0) hx hb d_Mo_word_26 (by decide) ?_
    exact (k_27 c_19) H locs ls (lv_sub hl [0, 1, 2, 3] rfl) hP hD hS
  · refine lv_iload_n hx hb d_Mo_word_22 rfl (lv_at hl 1 rfl) ?_
    refine lv_goto (tgt := 27) hx hb d_Mo_word_23 (by decide) ?_
    exact (k_27_1 c_19) H locs ls (lv_sub hl [0, 1, 2, 3] rfl) hP hD hS
set_option maxHeartbeats 1000000 in
set_option maxRecDepth 100000 in
theorem k_Mo_word_27 {C : CT} (X : cM C "QuestionTextModel" b_Mo_word 5 (some .int)) (Post : Int32 → FT → GT → Prop) {P_27 : Int32 → FT → GT → Prop} (x1 : Int32) (x2 : Int32) (x3 : Int32) (y0 : Int32) (f : FT) (g : GT)
    (m_27 : mI C.1 y_Mo_isThere (Cond.code y_Mo_isThere b_Mo_isThere 2 (some .boolean)) 0 [.ref (ad C.1 0), .int y0] f g P_27)
    (k_27 : ∀ (r : Int32) (f1 : FT) (g1 : GT), P_27 r f1 g1 → zn_word C Post 30 [(0, .ref (ad C.1 0)), (1, .int x1), (2, .int x2), (3, .int x3)] [.int r, .ref (ad C.1 0)] f1 g1) : zn_word C Post 27 [(0, .ref (ad C.1 0)), (1, .int x1), (2, .int x2), (3, .int x3)] [.int y0, .ref (ad C.1 0), .ref (ad C.1 0)] f g := by
  obtain ⟨⟨l, dC, dI, k, a⟩, p, e, s, m, args, below, meth, c, A⟩ := C
  obtain ⟨hx, hb, hr, htz, hown, hlocks, hml, hE, hK, hA⟩ := X
  intro H locs ls hl hP hD hS
  have hl : lv_has ls 5 [(0, .ref (a 0)), (1, .int x1), (2, .int x2), (3, .int x3)] := hl
  have hP : va_P (dC, dI) classes (mw k a f g) H := hP
  have hD : va_D A (mw k a f g) := hD
  show W p l e (z_rm 1 0 0) s m args below meth c H locs 0 0 _ (F0 m 27 ls [.int y0, .ref (a 0), .ref (a 0)])
  have hFc := va_free (wc := mw k a f g) hD hS hA [0, 1, 2, 3, 4, 5, 6, 7, 8, 9, 10, 11, 12, 13, 14, 15, 16, 17, 18] rfl
  refine va_calli (va_runV (As := [.int y0]) (rest := [.ref (a 0)]) ⟨hx, hb, hml, hown, htz⟩ (m_27 H.size) (cwV 1 htz (z_gV (fun _ h => h) km_Mo_151 in_Mo_isThere se_Mo_isThere ini_Mo m_Mo_isThere) rfl rfl rfl (by decide +kernel) ⟨(Nat.le_of_ble_eq_true rfl), (Nat.le_of_ble_eq_true rfl)⟩) ⟨z_blind, va_recv hK hP (ci := 4) (q0 := 0) rfl rfl, fun U hU hW => ⟨rfl, by rw [hU], hE.call hS hFc hU hW, by rw [hU]; exact hP, va_K.moved hW.alike hK, hD.weaken (fun _ _ _ _ => trivial)⟩⟩ rfl rfl hl.1 rfl (lv_room (Nat.le_of_ble_eq_true rfl)) d_Mo_word_27 ⟨(Nat.le_of_ble_eq_true rfl), (Nat.le_of_ble_eq_true rfl)⟩) hS (fun q _ h => hFc q h) hFc (fun r u t H1 locs ht hvm hw hB hz1 hk1 hS => ?_)
  obtain ⟨hP1, hK1, hD1⟩ := hB
  rw [ht] at hP1
  exact k_27 r _ _ hw H1 locs ls (lv_sub hl [0, 1, 2, 3] rfl) hP1 (hD1.weaken (fun _ q _ h => hFc _ h)) hS
set_option maxHeartbeats 1000000 in
set_option maxRecDepth 100000 in
theorem k_Mo_word_30 {C : CT} (X : cM C "QuestionTextModel" b_Mo_word 5 (some .int)) (Post : Int32 → FT → GT → Prop) {P_36 : Int32 → FT → GT → Prop} (x1 : Int32) (x2 : Int32) (x3 : Int32) (y0 : Int32) (f : FT) (g : GT)
    (k_50 : (y0 = 0) → zn_word C Post 50 [(0, .ref (ad C.1 0)), (1, .int x1), (2, .int x2), (3, .int x3)] [.ref (ad C.1 0)] f g)
    (m_36 : (¬ y0 = 0) → mI C.1 y_Mo_in (Cond.code y_Mo_in b_Mo_in 3 (some .boolean)) 0 [.int x2, .int 0, .int 1] f g P_36)
    (k_36 : (¬ y0 = 0) → ∀ (r : Int32) (f1 : FT) (g1 : GT), P_36 r f1 g1 → zn_word C Post 39 [(0, .ref (ad C.1 0)), (1, .int x1), (2, .int x2), (3, .int x3)] [.int r, .ref (ad C.1 0)] f1 g1) : zn_word C Post 30 [(0, .ref (ad C.1 0)), (1, .int x1), (2, .int x2), (3, .int x3)] [.int y0, .ref (ad C.1 0)] f g := by
  obtain ⟨⟨l, dC, dI, k, a⟩, p, e, s, m, args, below, meth, c, A⟩ := C
  obtain ⟨hx, hb, hr, htz, hown, hlocks, hml, hE, hK, hA⟩ := X
  intro H locs ls hl hP hD hS
  have hl : lv_has ls 5 [(0, .ref (a 0)), (1, .int x1), (2, .int x2), (3, .int x3)] := hl
  have hP : va_P (dC, dI) classes (mw k a f g) H := hP
  have hD : va_D A (mw k a f g) := hD
  show W p l e (z_rm 1 0 0) s m args below meth c H locs 0 0 _ (F0 m 30 ls [.int y0, .ref (a 0)])
  refine lv_if_eq (tgt := 50) hx hb d_Mo_word_30 (by decide) (fun c_30 => ?_) (fun c_30 => ?_)
  · exact (k_50 c_30) H locs ls (lv_sub hl [0, 1, 2, 3] rfl) hP hD hS
  · refine lv_iload_n hx hb d_Mo_word_33 rfl (lv_at hl 2 rfl) ?_
    refine lv_iconst (v := 0) hx hb d_Mo_word_34 (by decide) ?_
    refine lv_iconst (v := 1) hx hb d_Mo_word_35 (by decide) ?_
    have hFc := va_free (wc := mw k a f g) hD hS hA [0, 1, 2, 3, 4, 5, 6, 7, 8, 9, 10, 11, 12, 13, 14, 15, 16, 17, 18] rfl
    refine va_calli (va_runS (As := [.int x2, .int 0, .int 1]) (rest := [.ref (a 0)]) ⟨hx, hb, hml, hown, htz⟩ ((m_36 c_30) H.size) (va_cwS 3 htz (z_gS (fun _ h => h) km_Mo_72 st_Mo_in ini_Mo m_Mo_in) rfl rfl rfl (by decide +kernel) ⟨(Nat.le_of_ble_eq_true rfl), (Nat.le_of_ble_eq_true rfl)⟩) ⟨z_blind, fun U hU hW => ⟨rfl, by rw [hU], hE.call hS hFc hU hW, by rw [hU]; exact hP, va_K.moved hW.alike hK, hD.weaken (fun _ _ _ _ => trivial)⟩⟩ rfl rfl hl.1 rfl (lv_room (Nat.le_of_ble_eq_true rfl)) d_Mo_word_36 ⟨(Nat.le_of_ble_eq_true rfl), (Nat.le_of_ble_eq_true rfl)⟩) hS (fun q _ h => hFc q h) hFc (fun r u t H1 locs ht hvm hw hB hz1 hk1 hS => ?_)
    obtain ⟨hP1, hK1, hD1⟩ := hB
    rw [ht] at hP1
    exact (k_36 c_30) r _ _ hw H1 locs ls (lv_sub hl [0, 1, 2, 3] rfl) hP1 (hD1.weaken (fun _ q _ h => hFc _ h)) hS
set_option maxHeartbeats 1000000 in
set_option maxRecDepth 100000 in
theorem k_Mo_word_39 {C : CT} (X : cM C "QuestionTextModel" b_Mo_word 5 (some .int)) (Post : Int32 → FT → GT → Prop) (x1 : Int32) (x2 : Int32) (x3 : Int32) (y0 : Int32) (f : FT) (g : GT)
    (k_50 : (y0 = 0) → zn_word C Post 50 [(0, .ref (ad C.1 0)), (1, .int x1), (2, .int x2), (3, .int x3)] [.ref (ad C.1 0)] f g)
    (k_50_1 : (¬ y0 = 0) → (x3 < 0) → zn_word C Post 50 [(0, .ref (ad C.1 0)), (1, .int x1), (2, .int x2), (3, .int x3)] [.ref (ad C.1 0)] f g)
    (k_51 : (¬ y0 = 0) → (¬ x3 < 0) → zn_word C Post 51 [(0, .ref (ad C.1 0)), (1, .int x1), (2, .int x2), (3, .int x3)] [.int 1, .ref (ad C.1 0)] f g) : zn_word C Post 39 [(0, .ref (ad C.1 0)), (1, .int x1), (2, .int x2), (3, .int x3)] [.int y0, .ref (ad C.1 0)] f g := by
  obtain ⟨⟨l, dC, dI, k, a⟩, p, e, s, m, args, below, meth, c, A⟩ := C
  obtain ⟨hx, hb, hr, htz, hown, hlocks, hml, hE, hK, hA⟩ := X
  intro H locs ls hl hP hD hS
  have hl : lv_has ls 5 [(0, .ref (a 0)), (1, .int x1), (2, .int x2), (3, .int x3)] := hl
  have hP : va_P (dC, dI) classes (mw k a f g) H := hP
  have hD : va_D A (mw k a f g) := hD
  show W p l e (z_rm 1 0 0) s m args below meth c H locs 0 0 _ (F0 m 39 ls [.int y0, .ref (a 0)])
  refine lv_if_eq (tgt := 50) hx hb d_Mo_word_39 (by decide) (fun c_39 => ?_) (fun c_39 => ?_)
  · exact (k_50 c_39) H locs ls (lv_sub hl [0, 1, 2, 3] rfl) hP hD hS
  · refine lv_iload_n hx hb d_Mo_word_42 rfl (lv_at hl 3 rfl) ?_
    refine lv_if_lt (tgt := 50) hx hb d_Mo_word_43 (by decide) (fun c_43 => ?_) (fun c_43 => ?_)
    · exact (k_50_1 c_39 c_43) H locs ls (lv_sub hl [0, 1, 2, 3] rfl) hP hD hS
    · refine lv_iconst (v := 1) hx hb d_Mo_word_46 (by decide) ?_
      refine lv_goto (tgt := 51) hx hb d_Mo_word_47 (by decide) ?_
      exact (k_51 c_39 c_43) H locs ls (lv_sub hl [0, 1, 2, 3] rfl) hP hD hS
set_option maxHeartbeats 1000000 in
set_option maxRecDepth 100000 in
theorem k_Mo_word_50 {C : CT} (X : cM C "QuestionTextModel" b_Mo_word 5 (some .int)) (Post : Int32 → FT → GT → Prop) (x1 : Int32) (x2 : Int32) (x3 : Int32) (f : FT) (g : GT)
    (k_51 : zn_word C Post 51 [(0, .ref (ad C.1 0)), (1, .int x1), (2, .int x2), (3, .int x3)] [.int 0, .ref (ad C.1 0)] f g) : zn_word C Post 50 [(0, .ref (ad C.1 0)), (1, .int x1), (2, .int x2), (3, .int x3)] [.ref (ad C.1 0)] f g := by
  obtain ⟨⟨l, dC, dI, k, a⟩, p, e, s, m, args, below, meth, c, A⟩ := C
  obtain ⟨hx, hb, hr, htz, hown, hlocks, hml, hE, hK, hA⟩ := X
  intro H locs ls hl hP hD hS
  have hl : lv_has ls 5 [(0, .ref (a 0)), (1, .int x1), (2, .int x2), (3, .int x3)] := hl
  have hP : va_P (dC, dI) classes (mw k a f g) H := hP
  have hD : va_D A (mw k a f g) := hD
  show W p l e (z_rm 1 0 0) s m args below meth c H locs 0 0 _ (F0 m 50 ls [.ref (a 0)])
  refine lv_iconst (v := 0) hx hb d_Mo_word_50 (by decide) ?_
  exact k_51 H locs ls (lv_sub hl [0, 1, 2, 3] rfl) hP hD hS
set_option maxHeartbeats 1000000 in
set_option maxRecDepth 100000 in
theorem k_Mo_word_51 {C : CT} (X : cM C "QuestionTextModel" b_Mo_word 5 (some .int)) (Post : Int32 → FT → GT → Prop) {P_51 : Int32 → FT → GT → Prop} (x1 : Int32) (x2 : Int32) (x3 : Int32) (y0 : Int32) (f : FT) (g : GT)
    (m_51 : mI C.1 y_Mo_says (Cond.code y_Mo_says b_Mo_says 2 (some .boolean)) 0 [.ref (ad C.1 0), .int y0] f g P_51)
    (k_51 : ∀ (r : Int32) (f1 : FT) (g1 : GT), P_51 r f1 g1 → zn_word C Post 54 [(0, .ref (ad C.1 0)), (1, .int x1), (2, .int x2), (3, .int x3)] [.int r] f1 g1) : zn_word C Post 51 [(0, .ref (ad C.1 0)), (1, .int x1), (2, .int x2), (3, .int x3)] [.int y0, .ref (ad C.1 0)] f g := by
  obtain ⟨⟨l, dC, dI, k, a⟩, p, e, s, m, args, below, meth, c, A⟩ := C
  obtain ⟨hx, hb, hr, htz, hown, hlocks, hml, hE, hK, hA⟩ := X
  intro H locs ls hl hP hD hS
  have hl : lv_has ls 5 [(0, .ref (a 0)), (1, .int x1), (2, .int x2), (3, .int x3)] := hl
  have hP : va_P (dC, dI) classes (mw k a f g) H := hP
  have hD : va_D A (mw k a f g) := hD
  show W p l e (z_rm 1 0 0) s m args below meth c H locs 0 0 _ (F0 m 51 ls [.int y0, .ref (a 0)])
  have hFc := va_free (wc := mw k a f g) hD hS hA [0, 1, 2, 3, 4, 5, 6, 7, 8, 9, 10, 11, 12, 13, 14, 15, 16, 17, 18] rfl
  refine va_calli (va_runV (As := [.int y0]) (rest := []) ⟨hx, hb, hml, hown, htz⟩ (m_51 H.size) (cwV 1 htz (z_gV (fun _ h => h) km_Mo_147 in_Mo_says se_Mo_says ini_Mo m_Mo_says) rfl rfl rfl (by decide +kernel) ⟨(Nat.le_of_ble_eq_true rfl), (Nat.le_of_ble_eq_true rfl)⟩) ⟨z_blind, va_recv hK hP (ci := 4) (q0 := 0) rfl rfl, fun U hU hW => ⟨rfl, by rw [hU], hE.call hS hFc hU hW, by rw [hU]; exact hP, va_K.moved hW.alike hK, hD.weaken (fun _ _ _ _ => trivial)⟩⟩ rfl rfl hl.1 rfl (lv_room (Nat.le_of_ble_eq_true rfl)) d_Mo_word_51 ⟨(Nat.le_of_ble_eq_true rfl), (Nat.le_of_ble_eq_true rfl)⟩) hS (fun q _ h => hFc q h) hFc (fun r u t H1 locs ht hvm hw hB hz1 hk1 hS => ?_)
  obtain ⟨hP1, hK1, hD1⟩ := hB
  rw [ht] at hP1
  exact k_51 r _ _ hw H1 locs ls (lv_sub hl [0, 1, 2, 3] rfl) hP1 (hD1.weaken (fun _ q _ h => hFc _ h)) hS
set_option maxHeartbeats 1000000 in
set_option maxRecDepth 100000 in
theorem k_Mo_word_54 {C : CT} (X : cM C "QuestionTextModel" b_Mo_word 5 (some .int)) (Post : Int32 → FT → GT → Prop) (x1 : Int32) (x2 : Int32) (x3 : Int32) (y0 : Int32) (f : FT) (g : GT)
    (k_92 : (¬ y0 = 0) → (¬ x2 = 1) → zn_word C Post 92 [(0, .ref (ad C.1 0)), (1, .int x1), (2, .int x2), (3, .int x3), (4, .int ((((f 4) * 61) + x1) * 2))] [] f g)
    (h_85 : (¬ y0 = 0) → (x2 = 1) → vp_in (((((f 4) * 61) + x1) * 2) + 1) 1220)
    (k_92_1 : (¬ y0 = 0) → (x2 = 1) → (g 5 (((((f 4) * 61) + x1) * 2) + 1 : Int32).toNatClampNeg ≤ 0) → zn_word C Post 92 [(0, .ref (ad C.1 0)), (1, .int x1), (2, .int x2), (3, .int x3), (4, .int ((((f 4) * 61) + x1) * 2))] [] f g)
    (k_92_2 : (¬ y0 = 0) → (x2 = 1) → (¬ g 5 (((((f 4) * 61) + x1) * 2) + 1 : Int32).toNatClampNeg ≤ 0) → zn_word C Post 92 [(0, .ref (ad C.1 0)), (1, .int x1), (2, .int x2), (3, .int x3), (4, .int (((((f 4) * 61) + x1) * 2) + 1))] [] f g)
    (q_58 : (y0 = 0) → Post (0) f g) : zn_word C Post 54 [(0, .ref (ad C.1 0)), (1, .int x1), (2, .int x2), (3, .int x3)] [.int y0] f g := by
  obtain ⟨⟨l, dC, dI, k, a⟩, p, e, s, m, args, below, meth, c, A⟩ := C
  obtain ⟨hx, hb, hr, htz, hown, hlocks, hml, hE, hK, hA⟩ := X
  intro H locs ls hl hP hD hS
  have hl : lv_has ls 5 [(0, .ref (a 0)), (1, .int x1), (2, .int x2), (3, .int x3)] := hl
  have hP : va_P (dC, dI) classes (mw k a f g) H := hP
  have hD : va_D A (mw k a f g) := hD
  show W p l e (z_rm 1 0 0) s m args below meth c H locs 0 0 _ (F0 m 54 ls [.int y0])
  refine lv_if_ne (tgt := 59) hx hb d_Mo_word_54 (by decide) (fun c_54 => ?_) (fun c_54 => ?_)
  · refine lv_aload_n hx hb d_Mo_word_59 rfl (lv_at hl 0 rfl) ?_
    refine va_get (D := (dC, dI)) (ci := 4) (v := .int (f 4)) (C := R_Mo) (T := F_Mo) (N := 31) hx hb htz i_Mo hown hK hP 0 rfl rfl 5 (by decide) (htz _ kf_Mo_126) (fun _ h9 => h9) rfl d_Mo_word_60 ?_
    refine lv_bipush (v := 61) hx hb d_Mo_word_63 (by decide) ?_
    refine lv_imul hx hb d_Mo_word_65 ?_
    refine lv_iload_n hx hb d_Mo_word_66 rfl (lv_at hl 1 rfl) ?_
    refine lv_iadd hx hb d_Mo_word_67 ?_
    refine lv_iconst (v := 2) hx hb d_Mo_word_68 (by decide) ?_
    refine lv_imul hx hb d_Mo_word_69 ?_
    refine lv_istore (lv' := [(4, .int ((((f 4) * 61) + x1) * 2)), (0, .ref (a 0)), (1, .int x1), (2, .int x2), (3, .int x3)]) hx hb d_Mo_word_70 hl (by decide) rfl (fun ls hl => ?_)
    refine lv_iload_n hx hb d_Mo_word_72 rfl (lv_at hl 3 rfl) ?_
    refine lv_iconst (v := 1) hx hb d_Mo_word_73 (by decide) ?_
    refine lv_icmp_ne (tgt := 92) hx hb d_Mo_word_74 (by decide) (fun c_74 => ?_) (fun c_74 => ?_)
    · exact (k_92 c_54 c_74) H locs ls (lv_sub hl [1, 2, 3, 4, 0] rfl) hP hD hS
    · refine lv_aload_n hx hb d_Mo_word_77 rfl (lv_at hl 1 rfl) ?_
      refine va_get (D := (dC, dI)) (ci := 4) (v := .ref (a 6)) (C := R_Mo) (T := F_Mo) (N := 31) hx hb htz i_Mo hown hK hP 0 rfl rfl 10 (by decide) (htz _ kf_Mo_30) (fun _ h9 => h9) rfl d_Mo_word_78 ?_
      refine lv_iload hx hb d_Mo_word_81 (lv_at hl 0 rfl) ?_
      refine lv_iconst (v := 1) hx hb d_Mo_word_83 (by decide) ?_
      refine lv_iadd hx hb d_Mo_word_84 ?_
      refine va_iald hx hb hK hP 6 0 rfl rfl (h_85 c_54 c_74) d_Mo_word_85 ?_
      refine lv_if_le (tgt := 92) hx hb d_Mo_word_86 (by decide) (fun c_86 => ?_) (fun c_86 => ?_)
      · exact (k_92_1 c_54 c_74 c_86) H locs ls (lv_sub hl [1, 2, 3, 4, 0] rfl) hP hD hS
      · refine lv_iinc (v := ((((f 4) * 61) + x1) * 2) + 1) (lv' := [(4, .int (((((f 4) * 61) + x1) * 2) + 1)), (0, .ref (a 0)), (1, .int x1), (2, .int x2), (3, .int x3)]) hx hb d_Mo_word_89 hl (k := 0) rfl (rfl) (by decide) rfl (fun ls hl => ?_)
        exact (k_92_2 c_54 c_74 c_86) H locs ls (lv_sub hl [1, 2, 3, 4, 0] rfl) hP hD hS
  · refine lv_iconst (v := 0) hx hb d_Mo_word_57 (by decide) ?_
    exact W.iret (v := 0) hx hb hr (fun t ht hW => ⟨⟨_, (f, g), rfl, (q_58 c_54), by rw [ht]; exact hP, va_K.moved hW.alike hK, hD⟩, hS.F ht⟩) hS.2.2 d_Mo_word_58
set_option maxHeartbeats 1000000 in
set_option maxRecDepth 100000 in
theorem k_Mo_word_92 {C : CT} (X : cM C "QuestionTextModel" b_Mo_word 5 (some .int)) (Post : Int32 → FT → GT → Prop) (x1 : Int32) (x2 : Int32) (x3 : Int32) (x4 : Int32) (f : FT) (g : GT)
    (h_99 : vp_in (x4) 1220)
    (k_119 : (g 5 (x4 : Int32).toNatClampNeg ≤ x3) → zn_word C Post 119 [(0, .ref (ad C.1 0)), (1, .int x1), (2, .int x2), (3, .int x3), (4, .int x4)] [.int (-1)] f g)
    (h_114 : (¬ g 5 (x4 : Int32).toNatClampNeg ≤ x3) → vp_in ((x4 * 12) + x3) 14640)
    (k_119_1 : (¬ g 5 (x4 : Int32).toNatClampNeg ≤ x3) → zn_word C Post 119 [(0, .ref (ad C.1 0)), (1, .int x1), (2, .int x2), (3, .int x3), (4, .int x4)] [.int (g 6 ((x4 * 12) + x3 : Int32).toNatClampNeg)] f g) : zn_word C Post 92 [(0, .ref (ad C.1 0)), (1, .int x1), (2, .int x2), (3, .int x3), (4, .int x4)] [] f g := by
  obtain ⟨⟨l, dC, dI, k, a⟩, p, e, s, m, args, below, meth, c, A⟩ := C
  obtain ⟨hx, hb, hr, htz, hown, hlocks, hml, hE, hK, hA⟩ := X
  intro H locs ls hl hP hD hS
  have hl : lv_has ls 5 [(0, .ref (a 0)), (1, .int x1), (2, .int x2), (3, .int x3), (4, .int x4)] := hl
  have hP : va_P (dC, dI) classes (mw k a f g) H := hP
  have hD : va_D A (mw k a f g) := hD
  show W p l e (z_rm 1 0 0) s m args below meth c H locs 0 0 _ (F0 m 92 ls [])
  refine lv_iload_n hx hb d_Mo_word_92 rfl (lv_at hl 3 rfl) ?_
  refine lv_aload_n hx hb d_Mo_word_93 rfl (lv_at hl 0 rfl) ?_
  refine va_get (D := (dC, dI)) (ci := 4) (v := .ref (a 6)) (C := R_Mo) (T := F_Mo) (N := 31) hx hb htz i_Mo hown hK hP 0 rfl rfl 10 (by decide) (htz _ kf_Mo_30) (fun _ h9 => h9) rfl d_Mo_word_94 ?_
  refine lv_iload hx hb d_Mo_word_97 (lv_at hl 4 rfl) ?_
  refine va_iald hx hb hK hP 6 0 rfl rfl h_99 d_Mo_word_99 ?_
  refine lv_icmp_ge (tgt := 118) hx hb d_Mo_word_100 (by decide) (fun c_100 => ?_) (fun c_100 => ?_)
  · refine lv_iconst (v := -1) hx hb d_Mo_word_118 (by decide) ?_
    exact (k_119 c_100) H locs ls (lv_sub hl [0, 1, 2, 3, 4] rfl) hP hD hS
  · refine lv_aload_n hx hb d_Mo_word_103 rfl (lv_at hl 0 rfl) ?_
    refine va_get (D := (dC, dI)) (ci := 4) (v := .ref (a 7)) (C := R_Mo) (T := F_Mo) (N := 31) hx hb htz i_Mo hown hK hP 0 rfl rfl 11 (by decide) (htz _ kf_Mo_33) (fun _ h9 => h9) rfl d_Mo_word_104 ?_
    refine lv_iload hx hb d_Mo_word_107 (lv_at hl 4 rfl) ?_
    refine lv_bipush (v := 12) hx hb d_Mo_word_109 (by decide) ?_
    refine lv_imul hx hb d_Mo_word_111 ?_
    refine lv_iload_n hx hb d_Mo_word_112 rfl (lv_at hl 3 rfl) ?_
    refine lv_iadd hx hb d_Mo_word_113 ?_
    refine va_iald hx hb hK hP 7 0 rfl rfl (h_114 c_100) d_Mo_word_114 ?_
    refine lv_goto (tgt := 119) hx hb d_Mo_word_115 (by decide) ?_
    exact (k_119_1 c_100) H locs ls (lv_sub hl [0, 1, 2, 3, 4] rfl) hP hD hS
set_option maxHeartbeats 1000000 in
set_option maxRecDepth 100000 in
theorem k_Mo_word_119 {C : CT} (X : cM C "QuestionTextModel" b_Mo_word 5 (some .int)) (Post : Int32 → FT → GT → Prop) (x1 : Int32) (x2 : Int32) (x3 : Int32) (x4 : Int32) (y0 : Int32) (f : FT) (g : GT)
    (q_119 : Post (y0) f g) : zn_word C Post 119 [(0, .ref (ad C.1 0)), (1, .int x1), (2, .int x2), (3, .int x3), (4, .int x4)] [.int y0] f g := by
  obtain ⟨⟨l, dC, dI, k, a⟩, p, e, s, m, args, below, meth, c, A⟩ := C
  obtain ⟨hx, hb, hr, htz, hown, hlocks, hml, hE, hK, hA⟩ := X
  intro H locs ls hl hP hD hS
  have hl : lv_has ls 5 [(0, .ref (a 0)), (1, .int x1), (2, .int x2), (3, .int x3), (4, .int x4)] := hl
  have hP : va_P (dC, dI) classes (mw k a f g) H := hP
  have hD : va_D A (mw k a f g) := hD
  show W p l e (z_rm 1 0 0) s m args below meth c H locs 0 0 _ (F0 m 119 ls [.int y0])
  exact W.iret (v := y0) hx hb hr (fun t ht hW => ⟨⟨_, (f, g), rfl, q_119, by rw [ht]; exact hP, va_K.moved hW.alike hK, hD⟩, hS.F ht⟩) hS.2.2 d_Mo_word_119
set_option maxHeartbeats 1000000 in
set_option maxRecDepth 100000 in
theorem e_Mo_word (T : ST) (Post : Int32 → FT → GT → Prop) (x1 : Int32) (x2 : Int32) (x3 : Int32) (f : FT) (g : GT) (h : ∀ C : CT, C.1 = T → cM C "QuestionTextModel" b_Mo_word 5 (some .int) → zn_word C Post 0 [(0, .ref (ad C.1 0)), (1, .int x1), (2, .int x2), (3, .int x3)] [] f g) : mI T y_Mo_word (Cond.code y_Mo_word b_Mo_word 5 (some .int)) 1 [.ref (ad T 0), .int x1, .int x2, .int x3] f g Post := by
  obtain ⟨l, dC, dI, k, a⟩ := T
  intro sz
  refine Met.ofW (cc := b_Mo_word) (maxL := 5) (ret := (some .int)) (by decide) rfl ?_
  intro p e s m args below meth c s₁ B hml hv
  obtain ⟨rfl, hsz, hE, hP, hK, hD0⟩ := hv
  have hts := atoms_spec (ws := (Cond.code y_Mo_word b_Mo_word 5 (some .int)) :: z_T) B.pre
  have htz : ∀ w ∈ z_T, w.before _ s = true := fun w h => hts w (z_cons w h)
  subst hsz
  have hD := hD0.self (sz := s.heap.size)
  generalize hAe : va_A (mw k a f g) s.heap.size = A at hD hE ⊢
  have hA : ∀ q : Nat, s.heap.size ≤ q → A q := fun q h => by rw [← hAe]; exact Or.inr h
  have hl := lv_entry ([.ref (a 0), .int x1, .int x2, .int x3]) (n := 5) (Nat.le_of_ble_eq_true rfl)
  rw [lg_entry_eq]
  generalize (lg_sl ([.ref (a 0), .int x1, .int x2, .int x3]) ++ List.replicate (5 - (lg_sl ([.ref (a 0), .int x1, .int x2, .int x3])).length) Slot.unset).toArray = ls at hl ⊢
  exact h ((l, dC, dI, k, a), p, e, s, m, ([.ref (a 0), .int x1, .int x2, .int x3] : List Value).toArray, below, meth, c, A) rfl ⟨B.exec, B.bytes, B.returns, htz, findClass_of_methodNamed B.named, B.notSynchronized, hml, hE, hK, hA⟩ s.heap [] ls hl hP hD va_S.rf
