-- the reference: sign
theorem z_inn_bad {x : Int32} (h : z_inn x 1 8 = 0) : x < 1 ∨ ¬ x ≤ 8 := by
  unfold z_inn at h
  by_cases h1 : x < 1
  · exact Or.inl h1
  · rw [if_neg h1] at h
    by_cases h2 : (8 : Int32) < x
    · refine Or.inr fun h3 => ?_
      rw [Int32.lt_iff_toInt_lt] at h2
      rw [Int32.le_iff_toInt_le] at h3
      omega
    · rw [if_neg h2] at h
      exact absurd h (by decide)
theorem z_inn_ok {x : Int32} (h : ¬ z_inn x 1 8 = 0) : ∃ j : Nat, 1 ≤ j ∧ j ≤ 8 ∧ x = nI j := by
  unfold z_inn at h
  by_cases h1 : x < 1
  · rw [if_pos h1] at h; exact absurd rfl h
  · rw [if_neg h1] at h
    by_cases h2 : (8 : Int32) < x
    · rw [if_pos h2] at h; exact absurd rfl h
    · refine z_18 h1 ?_
      rw [Int32.lt_iff_toInt_lt] at h2
      rw [Int32.le_iff_toInt_le]
      omega
set_option maxHeartbeats 1000000 in
set_option maxRecDepth 100000 in
theorem c_Mo_sign_0 (l : Launch) (dC : Nat → ClassId) (dI : Nat → Nat → Nat) (k : Nat → ClassId) (sz : Nat) (h0 : Nat) (m1 : Nat) (m2 : Nat) (m3 : Nat) (m4 : Nat) (m5 : Nat) (m6 : Nat) (m7 : Nat) (m8 : Nat) (m9 : Nat) (m10 : Nat) (m11 : Nat) (m12 : Nat) (m13 : Nat) (m14 : Nat) (m15 : Nat) (m16 : Nat) (m17 : Nat) (m18 : Nat) (bs : Int64) (x : Int32) : Met l y_Mo_sign (Cond.code y_Mo_sign b_Mo_sign 5 (some .int) :: z_T) (z_rm 1 0 0) (z_Pc dC dI k sz [.ref h0, .long bs, .int x] [(h0, .inr (4, [.int 0, .int 0, .ref m1, .int (-1), .int 0, .int 0, .ref m2, .ref m3, .ref m4, .ref m5, .ref m6, .ref m7, .ref m8, .ref m9, .ref m10, .ref m11, .ref m12, .ref m13, .int 0, .int 0, .int 0, .int 0, .ref m14, .ref m15, .int 0, .int 0, .int 0, .int 0, .ref m16, .ref m17, .ref m18])), (m1, .inl (k 0, 400, .inl (fun _ => 0)))]) (va_Qi (fun (r : Int32) (u : Int32 × Int32) => (u.1 = 0 ∧ ∃ j9 : Nat, 1 ≤ j9 ∧ j9 ≤ 8 ∧ x = nI j9 ∧ r = nI j9) ∨ (u.1 = 1 ∧ (x < 1 ∨ ¬ x ≤ 8))) (fun (u : Int32 × Int32) t => z_B dC dI k (va_A [(h0, .inr (4, [.int 0, .int 0, .ref m1, .int (-1), .int 0, .int 0, .ref m2, .ref m3, .ref m4, .ref m5, .ref m6, .ref m7, .ref m8, .ref m9, .ref m10, .ref m11, .ref m12, .ref m13, .int 0, .int 0, .int 0, .int 0, .ref m14, .ref m15, .int 0, .int 0, .int 0, .int 0, .ref m16, .ref m17, .ref m18])), (m1, .inl (k 0, 400, .inl (fun _ => 0)))] sz) [(h0, .inr (4, [.int u.1, .int u.2, .ref m1, .int (-1), .int 0, .int 0, .ref m2, .ref m3, .ref m4, .ref m5, .ref m6, .ref m7, .ref m8, .ref m9, .ref m10, .ref m11, .ref m12, .ref m13, .int 0, .int 0, .int 0, .int 0, .ref m14, .ref m15, .int 0, .int 0, .int 0, .int 0, .ref m16, .ref m17, .ref m18]))] t) (va_A [(h0, .inr (4, [.int 0, .int 0, .ref m1, .int (-1), .int 0, .int 0, .ref m2, .ref m3, .ref m4, .ref m5, .ref m6, .ref m7, .ref m8, .ref m9, .ref m10, .ref m11, .ref m12, .ref m13, .int 0, .int 0, .int 0, .int 0, .ref m14, .ref m15, .int 0, .int 0, .int 0, .int 0, .ref m16, .ref m17, .ref m18])), (m1, .inl (k 0, 400, .inl (fun _ => 0)))] sz)) 0 0 (va_A [(h0, .inr (4, [.int 0, .int 0, .ref m1, .int (-1), .int 0, .int 0, .ref m2, .ref m3, .ref m4, .ref m5, .ref m6, .ref m7, .ref m8, .ref m9, .ref m10, .ref m11, .ref m12, .ref m13, .int 0, .int 0, .int 0, .int 0, .ref m14, .ref m15, .int 0, .int 0, .int 0, .int 0, .ref m16, .ref m17, .ref m18])), (m1, .inl (k 0, 400, .inl (fun _ => 0)))] sz) := by
  refine Met.ofW (cc := b_Mo_sign) (maxL := 5) (ret := (some .int)) (by decide) rfl ?_
  intro p e s m args below meth c s₁ B hml hv
  obtain ⟨rfl, hsz, hE, hP, hK, hD0⟩ := hv
  have hx := B.exec
  have hb := B.bytes
  have hr := B.returns
  have hts := atoms_spec (ws := Cond.code y_Mo_sign b_Mo_sign 5 (some .int) :: z_T) B.pre
  have htz : ∀ w ∈ z_T, w.before _ s = true := fun w h => hts w (z_cons w h)
  have hown : s.vm.findClass "QuestionTextModel" = some m.cls := findClass_of_methodNamed B.named
  have hlocks := B.notSynchronized
  subst hsz
  have hD := hD0.self (sz := s.heap.size)
  generalize hAe : va_A [(h0, .inr (4, [.int 0, .int 0, .ref m1, .int (-1), .int 0, .int 0, .ref m2, .ref m3, .ref m4, .ref m5, .ref m6, .ref m7, .ref m8, .ref m9, .ref m10, .ref m11, .ref m12, .ref m13, .int 0, .int 0, .int 0, .int 0, .ref m14, .ref m15, .int 0, .int 0, .int 0, .int 0, .ref m16, .ref m17, .ref m18])), (m1, .inl (k 0, 400, .inl (fun _ => 0)))] s.heap.size = A at hD hE ⊢
  have hA : ∀ q : Nat, s.heap.size ≤ q → A q := fun q h => by rw [← hAe]; exact Or.inr h
  have hS : va_S A s.heap s.heap [] := va_S.rf
  have hP : va_P (dC, dI) classes [(h0, .inr (4, [.int 0, .int 0, .ref m1, .int (-1), .int 0, .int 0, .ref m2, .ref m3, .ref m4, .ref m5, .ref m6, .ref m7, .ref m8, .ref m9, .ref m10, .ref m11, .ref m12, .ref m13, .int 0, .int 0, .int 0, .int 0, .ref m14, .ref m15, .int 0, .int 0, .int 0, .int 0, .ref m16, .ref m17, .ref m18])), (m1, .inl (k 0, 400, .inl (fun _ => 0)))] s.heap := hP
  have hl := lv_entry ([.ref h0, .long bs, .int x]) (n := 5) (Nat.le_of_ble_eq_true rfl)
  rw [lg_entry_eq]
  generalize (lg_sl ([.ref h0, .long bs, .int x]) ++ List.replicate (5 - (lg_sl ([.ref h0, .long bs, .int x])).length) Slot.unset).toArray = ls at hl ⊢
  have hl : lv_has ls 5 [(0, .ref h0), (1, .long bs), (3, .int x)] := hl
  refine lv_aload_n hx hb d_Mo_sign_0 rfl (lv_at hl 0 rfl) ?_
  refine lv_iload_n hx hb d_Mo_sign_1 rfl (lv_at hl 2 rfl) ?_
  refine lv_iconst (v := 1) hx hb d_Mo_sign_2 (by decide) ?_
  refine lv_bipush (v := 8) hx hb d_Mo_sign_3 (by decide) ?_
  have hPc := hP.sub (ws' := []) [] rfl
  have hDc := hD.sub (ws' := []) [] (by decide) rfl
  have hFc := va_free (wc := []) hD hS hA [] rfl
  refine va_calli (va_runS (As := [.int x, .int 1, .int 8]) (rest := [.ref h0]) ⟨hx, hb, hml, hown, htz⟩ (c_Mo_in l dC dI k s.heap.size x 1 8) (va_cwS 3 htz (z_gS (fun _ h => h) km_Mo_72 st_Mo_in ini_Mo m_Mo_in) rfl rfl rfl (by decide +kernel) ⟨(Nat.le_of_ble_eq_true rfl), (Nat.le_of_ble_eq_true rfl)⟩) ⟨z_blind, fun U hU hW => ⟨rfl, by rw [hU], hE.call hS hFc hU hW, by rw [hU]; exact hPc, va_K.moved hW.alike hK, hDc.weaken (fun _ _ _ _ => trivial)⟩⟩ rfl rfl hl.1 rfl (lv_room (Nat.le_of_ble_eq_true rfl)) d_Mo_sign_5 ⟨(Nat.le_of_ble_eq_true rfl), (Nat.le_of_ble_eq_true rfl)⟩) hS (fun q _ h => hFc q h) hFc (fun r1 u t H1 locs ht hvm hw hB hz1 hk1 hS => ?_)
  obtain ⟨hP1, hK1, hD1⟩ := hB
  rw [ht] at hP1
  try dsimp only at hw
  obtain ⟨hP, hD⟩ := va_join (wr := [(h0, .inr (4, [.int 0, .int 0, .ref m1, .int (-1), .int 0, .int 0, .ref m2, .ref m3, .ref m4, .ref m5, .ref m6, .ref m7, .ref m8, .ref m9, .ref m10, .ref m11, .ref m12, .ref m13, .int 0, .int 0, .int 0, .int 0, .ref m14, .ref m15, .int 0, .int 0, .int 0, .int 0, .ref m16, .ref m17, .ref m18])), (m1, .inl (k 0, 400, .inl (fun _ => 0)))]) (w1 := []) hP hD [] [0, 1] rfl rfl (by decide) (by decide) hk1 hFc hP1 hD1
  generalize H1 = H at hP hS ⊢
  have hP : va_P (dC, dI) classes [(h0, .inr (4, [.int 0, .int 0, .ref m1, .int (-1), .int 0, .int 0, .ref m2, .ref m3, .ref m4, .ref m5, .ref m6, .ref m7, .ref m8, .ref m9, .ref m10, .ref m11, .ref m12, .ref m13, .int 0, .int 0, .int 0, .int 0, .ref m14, .ref m15, .int 0, .int 0, .int 0, .int 0, .ref m16, .ref m17, .ref m18])), (m1, .inl (k 0, 400, .inl (fun _ => 0)))] H := hP
  have hD : va_D A [(h0, .inr (4, [.int 0, .int 0, .ref m1, .int (-1), .int 0, .int 0, .ref m2, .ref m3, .ref m4, .ref m5, .ref m6, .ref m7, .ref m8, .ref m9, .ref m10, .ref m11, .ref m12, .ref m13, .int 0, .int 0, .int 0, .int 0, .ref m14, .ref m15, .int 0, .int 0, .int 0, .int 0, .ref m16, .ref m17, .ref m18])), (m1, .inl (k 0, 400, .inl (fun _ => 0)))] := hD
  refine lv_if_ne (tgt := 15) hx hb d_Mo_sign_8 (by decide) (fun c_8 => ?_) (fun c_8 => ?_)
  · obtain ⟨j, hj1, hj8, rfl⟩ := z_inn_ok (by rw [← hw]; exact c_8)
    refine lv_aload_n hx hb d_Mo_sign_15 rfl (lv_at hl 0 rfl) ?_
    refine va_get (D := (dC, dI)) (ci := 4) (v := .int 0) (C := R_Mo) (T := F_Mo) (N := 31) hx hb htz i_Mo hown hK hP 0 rfl rfl 1 (by decide) (htz _ kf_Mo_76) (fun _ h9 => h9) rfl d_Mo_sign_16 ?_
    refine lv_iload_n hx hb d_Mo_sign_19 rfl (lv_at hl 2 rfl) ?_
    refine lv_iadd hx hb d_Mo_sign_20 ?_
    refine lv_topi (fun y9 e9 => ?_)
    have e9 := e9.trans (Int32.zero_add _)
    subst e9
    refine lv_sipush (v := 400) hx hb d_Mo_sign_21 (by decide) ?_
    refine lv_icmp_le (tgt := 31) hx hb d_Mo_sign_24 (by decide) (fun c_24 => ?_) (fun c_24 => ?_)
    · refine lv_iconst (v := 0) hx hb d_Mo_sign_31 (by decide) ?_
      refine va_put (D := (dC, dI)) (ci := 4) (v := .int 0) (ty := .int) (C := R_Mo) (T := F_Mo) (N := 31) hx hb htz i_Mo t_Mo o_Mo n_Mo hown hK hP hD hS 0 rfl rfl 0 (by decide) (htz _ kf_Mo_69) (fun _ h9 => h9) rfl (by decide +kernel) rfl rfl (Nat.le_of_ble_eq_true rfl) d_Mo_sign_32 (fun H locs hP hD hS => ?_)
      have hP : va_P (dC, dI) classes [(h0, .inr (4, [.int 0, .int 0, .ref m1, .int (-1), .int 0, .int 0, .ref m2, .ref m3, .ref m4, .ref m5, .ref m6, .ref m7, .ref m8, .ref m9, .ref m10, .ref m11, .ref m12, .ref m13, .int 0, .int 0, .int 0, .int 0, .ref m14, .ref m15, .int 0, .int 0, .int 0, .int 0, .ref m16, .ref m17, .ref m18])), (m1, .inl (k 0, 400, .inl (fun _ => 0)))] H := hP
      have hD : va_D A [(h0, .inr (4, [.int 0, .int 0, .ref m1, .int (-1), .int 0, .int 0, .ref m2, .ref m3, .ref m4, .ref m5, .ref m6, .ref m7, .ref m8, .ref m9, .ref m10, .ref m11, .ref m12, .ref m13, .int 0, .int 0, .int 0, .int 0, .ref m14, .ref m15, .int 0, .int 0, .int 0, .int 0, .ref m16, .ref m17, .ref m18])), (m1, .inl (k 0, 400, .inl (fun _ => 0)))] := hD
      refine lv_aload_n hx hb d_Mo_sign_35 rfl (lv_at hl 0 rfl) ?_
      refine va_get (D := (dC, dI)) (ci := 4) (v := .int 0) (C := R_Mo) (T := F_Mo) (N := 31) hx hb htz i_Mo hown hK hP 0 rfl rfl 0 (by decide) (htz _ kf_Mo_69) (fun _ h9 => h9) rfl d_Mo_sign_36 ?_
      refine lv_if_le (tgt := 44) hx hb d_Mo_sign_39 (by decide) (fun c_39 => ?_) (fun c_39 => ?_)
      · refine lv_iload_n hx hb d_Mo_sign_44 rfl (lv_at hl 2 rfl) ?_
        refine lv_iconst (v := 1) hx hb d_Mo_sign_45 (by decide) ?_
        refine lv_isub hx hb d_Mo_sign_46 ?_
        refine lv_topi (fun y9 e9 => ?_)
        have e9 := e9.trans (z_lf_1 hj1)
        subst e9
        refine lv_istore (lv' := [(4, .int (z_lf j)), (0, .ref h0), (1, .long bs), (3, .int (nI j))]) hx hb d_Mo_sign_47 hl (by decide) rfl (fun ls hl => ?_)
        have loop : ∀ (d i : Nat) (f9 : Nat → Int32) (H : Heap) (locs : List Loc) (ls : Array Slot), i + d = j → va_P (dC, dI) classes [(h0, .inr (4, [.int 0, .int (nI i), .ref m1, .int (-1), .int 0, .int 0, .ref m2, .ref m3, .ref m4, .ref m5, .ref m6, .ref m7, .ref m8, .ref m9, .ref m10, .ref m11, .ref m12, .ref m13, .int 0, .int 0, .int 0, .int 0, .ref m14, .ref m15, .int 0, .int 0, .int 0, .int 0, .ref m16, .ref m17, .ref m18])), (m1, .inl (k 0, 400, .inl f9))] H → va_D A [(h0, .inr (4, [.int 0, .int (nI i), .ref m1, .int (-1), .int 0, .int 0, .ref m2, .ref m3, .ref m4, .ref m5, .ref m6, .ref m7, .ref m8, .ref m9, .ref m10, .ref m11, .ref m12, .ref m13, .int 0, .int 0, .int 0, .int 0, .ref m14, .ref m15, .int 0, .int 0, .int 0, .int 0, .ref m16, .ref m17, .ref m18])), (m1, .inl (k 0, 400, .inl f9))] → va_S A s.heap H locs → lv_has ls 5 [(0, .ref h0), (1, .long bs), (3, .int (nI j)), (4, .int (z_lf d))] → W p l e (headSpec (Cond.code y_Mo_sign b_Mo_sign 5 (some .int) :: z_T) (z_rm 1 0 0)).room s m ([.ref h0, .long bs, .int (nI j)] : List Value).toArray below meth c H locs 0 0 (MQ below (va_Qi (fun (r : Int32) (u : Int32 × Int32) => (u.1 = 0 ∧ ∃ j9 : Nat, 1 ≤ j9 ∧ j9 ≤ 8 ∧ nI j = nI j9 ∧ r = nI j9) ∨ (u.1 = 1 ∧ (nI j < 1 ∨ ¬ nI j ≤ 8))) (fun (u : Int32 × Int32) t => z_B dC dI k A [(h0, .inr (4, [.int u.1, .int u.2, .ref m1, .int (-1), .int 0, .int 0, .ref m2, .ref m3, .ref m4, .ref m5, .ref m6, .ref m7, .ref m8, .ref m9, .ref m10, .ref m11, .ref m12, .ref m13, .int 0, .int 0, .int 0, .int 0, .ref m14, .ref m15, .int 0, .int 0, .int 0, .int 0, .ref m16, .ref m17, .ref m18]))] t) A) ([.ref h0, .long bs, .int (nI j)] : List Value).toArray s 0 0 A) (F0 m 49 ls []) := by
          intro d
          induction d with
          | zero =>
            intro i f9 H locs ls hi hP hD hS hl
            have hi : i = j := by omega
            subst hi
            refine lv_iload hx hb d_Mo_sign_49 (lv_at hl 3 rfl) ?_
            refine lv_if_lt (tgt := 91) hx hb d_Mo_sign_51 (by decide) (fun c_51 => ?_) (fun c_51 => ?_)
            · refine lv_aload_n hx hb d_Mo_sign_91 rfl (lv_at hl 0 rfl) ?_
              refine va_get (D := (dC, dI)) (ci := 4) (v := .int (nI i)) (C := R_Mo) (T := F_Mo) (N := 31) hx hb htz i_Mo hown hK hP 0 rfl rfl 1 (by decide) (htz _ kf_Mo_76) (fun _ h9 => h9) rfl d_Mo_sign_92 ?_
              have hP9 := hP.sub (ws' := [(h0, .inr (4, [.int 0, .int (nI i), .ref m1, .int (-1), .int 0, .int 0, .ref m2, .ref m3, .ref m4, .ref m5, .ref m6, .ref m7, .ref m8, .ref m9, .ref m10, .ref m11, .ref m12, .ref m13, .int 0, .int 0, .int 0, .int 0, .ref m14, .ref m15, .int 0, .int 0, .int 0, .int 0, .ref m16, .ref m17, .ref m18]))]) [0] rfl
              have hD9 := hD.sub (ws' := [(h0, .inr (4, [.int 0, .int (nI i), .ref m1, .int (-1), .int 0, .int 0, .ref m2, .ref m3, .ref m4, .ref m5, .ref m6, .ref m7, .ref m8, .ref m9, .ref m10, .ref m11, .ref m12, .ref m13, .int 0, .int 0, .int 0, .int 0, .ref m14, .ref m15, .int 0, .int 0, .int 0, .int 0, .ref m16, .ref m17, .ref m18]))]) [0] (by decide) rfl
              exact W.iret (v := nI i) hx hb hr (fun t ht hW => ⟨⟨nI i, (0, nI i), rfl, Or.inl ⟨rfl, i, hj1, hj8, rfl, rfl⟩, by rw [ht]; exact hP9, va_K.moved hW.alike hK, hD9⟩, hS.F ht⟩) hS.2.2 d_Mo_sign_95
            · exact absurd (show (-1 : Int32) < 0 by decide) c_51
          | succ d ih =>
            intro i f9 H locs ls hi hP hD hS hl
            have hl : lv_has ls 5 [(0, .ref h0), (1, .long bs), (3, .int (nI j)), (4, .int (nI d))] := hl
            refine lv_iload hx hb d_Mo_sign_49 (lv_at hl 3 rfl) ?_
            refine lv_if_lt (tgt := 91) hx hb d_Mo_sign_51 (by decide) (fun c_51 => ?_) (fun c_51 => ?_)
            · exact absurd c_51 (nI_pos (by omega))
            · refine lv_aload_n hx hb d_Mo_sign_54 rfl (lv_at hl 0 rfl) ?_
              refine va_get (D := (dC, dI)) (ci := 4) (v := .ref m1) (C := R_Mo) (T := F_Mo) (N := 31) hx hb htz i_Mo hown hK hP 0 rfl rfl 2 (by decide) (htz _ kf_Mo_7) (fun _ h9 => h9) rfl d_Mo_sign_55 ?_
              refine lv_aload_n hx hb d_Mo_sign_58 rfl (lv_at hl 0 rfl) ?_
              refine va_get (D := (dC, dI)) (ci := 4) (v := .int (nI i)) (C := R_Mo) (T := F_Mo) (N := 31) hx hb htz i_Mo hown hK hP 0 rfl rfl 1 (by decide) (htz _ kf_Mo_76) (fun _ h9 => h9) rfl d_Mo_sign_59 ?_
              refine lv_lload_n hx hb d_Mo_sign_62 rfl (lv_at hl 1 rfl) ?_
              refine lv_bipush (v := 8) hx hb d_Mo_sign_63 (by decide) ?_
              refine lv_iload hx hb d_Mo_sign_65 (lv_at hl 3 rfl) ?_
              refine lv_imul hx hb d_Mo_sign_67 ?_
              refine lv_lshr (v := bs >>> ((8 * (nI d)).toInt64 &&& 63)) hx hb d_Mo_sign_68 rfl ?_
              refine lv_l2i (v := (bs >>> ((8 * (nI d)).toInt64 &&& 63)).toInt32) hx hb d_Mo_sign_69 rfl ?_
              refine lv_sipush (v := 255) hx hb d_Mo_sign_70 (by decide) ?_
              refine lv_iand hx hb d_Mo_sign_73 ?_
              refine va_iast hx hb hK hP hD hS 1 0 rfl rfl (vp_in_nI (show i < 400 by omega) (by decide)) d_Mo_sign_74 (fun H locs hP hD hS => ?_)
              have hP : va_P (dC, dI) classes [(h0, .inr (4, [.int 0, .int (nI i), .ref m1, .int (-1), .int 0, .int 0, .ref m2, .ref m3, .ref m4, .ref m5, .ref m6, .ref m7, .ref m8, .ref m9, .ref m10, .ref m11, .ref m12, .ref m13, .int 0, .int 0, .int 0, .int 0, .ref m14, .ref m15, .int 0, .int 0, .int 0, .int 0, .ref m16, .ref m17, .ref m18])), (m1, .inl (k 0, 400, .inl (upd f9 ((nI i : Int32).toNatClampNeg) (((bs >>> ((8 * (nI d)).toInt64 &&& 63)).toInt32) &&& 255))))] H := hP
              have hD : va_D A [(h0, .inr (4, [.int 0, .int (nI i), .ref m1, .int (-1), .int 0, .int 0, .ref m2, .ref m3, .ref m4, .ref m5, .ref m6, .ref m7, .ref m8, .ref m9, .ref m10, .ref m11, .ref m12, .ref m13, .int 0, .int 0, .int 0, .int 0, .ref m14, .ref m15, .int 0, .int 0, .int 0, .int 0, .ref m16, .ref m17, .ref m18])), (m1, .inl (k 0, 400, .inl (upd f9 ((nI i : Int32).toNatClampNeg) (((bs >>> ((8 * (nI d)).toInt64 &&& 63)).toInt32) &&& 255))))] := hD
              generalize upd f9 _ _ = f8 at hP hD
              have hP : va_P (dC, dI) classes [(h0, .inr (4, [.int 0, .int (nI i), .ref m1, .int (-1), .int 0, .int 0, .ref m2, .ref m3, .ref m4, .ref m5, .ref m6, .ref m7, .ref m8, .ref m9, .ref m10, .ref m11, .ref m12, .ref m13, .int 0, .int 0, .int 0, .int 0, .ref m14, .ref m15, .int 0, .int 0, .int 0, .int 0, .ref m16, .ref m17, .ref m18])), (m1, .inl (k 0, 400, .inl f8))] H := hP
              have hD : va_D A [(h0, .inr (4, [.int 0, .int (nI i), .ref m1, .int (-1), .int 0, .int 0, .ref m2, .ref m3, .ref m4, .ref m5, .ref m6, .ref m7, .ref m8, .ref m9, .ref m10, .ref m11, .ref m12, .ref m13, .int 0, .int 0, .int 0, .int 0, .ref m14, .ref m15, .int 0, .int 0, .int 0, .int 0, .ref m16, .ref m17, .ref m18])), (m1, .inl (k 0, 400, .inl f8))] := hD
              refine lv_aload_n hx hb d_Mo_sign_75 rfl (lv_at hl 0 rfl) ?_
              refine lv_dup hx hb d_Mo_sign_76 rfl ?_
              refine va_get (D := (dC, dI)) (ci := 4) (v := .int (nI i)) (C := R_Mo) (T := F_Mo) (N := 31) hx hb htz i_Mo hown hK hP 0 rfl rfl 1 (by decide) (htz _ kf_Mo_76) (fun _ h9 => h9) rfl d_Mo_sign_77 ?_
              refine lv_iconst (v := 1) hx hb d_Mo_sign_80 (by decide) ?_
              refine lv_iadd hx hb d_Mo_sign_81 ?_
              refine lv_topi (fun y9 e9 => ?_)
              have e9 := e9.trans (nI_1 i)
              subst e9
              refine va_put (D := (dC, dI)) (ci := 4) (v := .int (nI (i + 1))) (ty := .int) (C := R_Mo) (T := F_Mo) (N := 31) hx hb htz i_Mo t_Mo o_Mo n_Mo hown hK hP hD hS 0 rfl rfl 1 (by decide) (htz _ kf_Mo_76) (fun _ h9 => h9) rfl (by decide +kernel) rfl rfl (Nat.le_of_ble_eq_true rfl) d_Mo_sign_82 (fun H locs hP hD hS => ?_)
              have hP : va_P (dC, dI) classes [(h0, .inr (4, [.int 0, .int (nI (i + 1)), .ref m1, .int (-1), .int 0, .int 0, .ref m2, .ref m3, .ref m4, .ref m5, .ref m6, .ref m7, .ref m8, .ref m9, .ref m10, .ref m11, .ref m12, .ref m13, .int 0, .int 0, .int 0, .int 0, .ref m14, .ref m15, .int 0, .int 0, .int 0, .int 0, .ref m16, .ref m17, .ref m18])), (m1, .inl (k 0, 400, .inl f8))] H := hP
              have hD : va_D A [(h0, .inr (4, [.int 0, .int (nI (i + 1)), .ref m1, .int (-1), .int 0, .int 0, .ref m2, .ref m3, .ref m4, .ref m5, .ref m6, .ref m7, .ref m8, .ref m9, .ref m10, .ref m11, .ref m12, .ref m13, .int 0, .int 0, .int 0, .int 0, .ref m14, .ref m15, .int 0, .int 0, .int 0, .int 0, .ref m16, .ref m17, .ref m18])), (m1, .inl (k 0, 400, .inl f8))] := hD
              refine lv_iinc (v := z_lf d) (lv' := [(4, .int (z_lf d)), (0, .ref h0), (1, .long bs), (3, .int (nI j))]) hx hb d_Mo_sign_85 hl (k := 3) rfl (z_lf_dec d) (by decide) rfl (fun ls hl => ?_)
              refine lv_goto (tgt := 49) hx hb d_Mo_sign_88 (by decide) ?_
              exact ih (i + 1) f8 H locs ls (by omega) hP hD hS (lv_sub hl [1, 2, 3, 0] rfl)
        exact loop j 0 (fun _ => 0) _ _ ls (by omega) (hP.sub [0, 1] rfl) (hD.sub [0, 1] (by decide) rfl) hS (lv_sub hl [1, 2, 3, 0] rfl)
      · exact absurd (by decide) c_39
    · exact absurd (show nI j ≤ nI 400 from nI_le (by omega) (by decide)) c_24
  · refine lv_iconst (v := 1) hx hb d_Mo_sign_11 (by decide) ?_
    refine lv_goto (tgt := 32) hx hb d_Mo_sign_12 (by decide) ?_
    refine va_put (D := (dC, dI)) (ci := 4) (v := .int 1) (ty := .int) (C := R_Mo) (T := F_Mo) (N := 31) hx hb htz i_Mo t_Mo o_Mo n_Mo hown hK hP hD hS 0 rfl rfl 0 (by decide) (htz _ kf_Mo_69) (fun _ h9 => h9) rfl (by decide +kernel) rfl rfl (Nat.le_of_ble_eq_true rfl) d_Mo_sign_32 (fun H locs hP hD hS => ?_)
    have hP : va_P (dC, dI) classes [(h0, .inr (4, [.int 1, .int 0, .ref m1, .int (-1), .int 0, .int 0, .ref m2, .ref m3, .ref m4, .ref m5, .ref m6, .ref m7, .ref m8, .ref m9, .ref m10, .ref m11, .ref m12, .ref m13, .int 0, .int 0, .int 0, .int 0, .ref m14, .ref m15, .int 0, .int 0, .int 0, .int 0, .ref m16, .ref m17, .ref m18])), (m1, .inl (k 0, 400, .inl (fun _ => 0)))] H := hP
    have hD : va_D A [(h0, .inr (4, [.int 1, .int 0, .ref m1, .int (-1), .int 0, .int 0, .ref m2, .ref m3, .ref m4, .ref m5, .ref m6, .ref m7, .ref m8, .ref m9, .ref m10, .ref m11, .ref m12, .ref m13, .int 0, .int 0, .int 0, .int 0, .ref m14, .ref m15, .int 0, .int 0, .int 0, .int 0, .ref m16, .ref m17, .ref m18])), (m1, .inl (k 0, 400, .inl (fun _ => 0)))] := hD
    refine lv_aload_n hx hb d_Mo_sign_35 rfl (lv_at hl 0 rfl) ?_
    refine va_get (D := (dC, dI)) (ci := 4) (v := .int 1) (C := R_Mo) (T := F_Mo) (N := 31) hx hb htz i_Mo hown hK hP 0 rfl rfl 0 (by decide) (htz _ kf_Mo_69) (fun _ h9 => h9) rfl d_Mo_sign_36 ?_
    refine lv_if_le (tgt := 44) hx hb d_Mo_sign_39 (by decide) (fun c_39 => ?_) (fun c_39 => ?_)
    · exact absurd c_39 (by decide)
    · refine lv_iconst (v := 0) hx hb d_Mo_sign_42 (by decide) ?_
      have hP9 := hP.sub (ws' := [(h0, .inr (4, [.int 1, .int 0, .ref m1, .int (-1), .int 0, .int 0, .ref m2, .ref m3, .ref m4, .ref m5, .ref m6, .ref m7, .ref m8, .ref m9, .ref m10, .ref m11, .ref m12, .ref m13, .int 0, .int 0, .int 0, .int 0, .ref m14, .ref m15, .int 0, .int 0, .int 0, .int 0, .ref m16, .ref m17, .ref m18]))]) [0] rfl
      have hD9 := hD.sub (ws' := [(h0, .inr (4, [.int 1, .int 0, .ref m1, .int (-1), .int 0, .int 0, .ref m2, .ref m3, .ref m4, .ref m5, .ref m6, .ref m7, .ref m8, .ref m9, .ref m10, .ref m11, .ref m12, .ref m13, .int 0, .int 0, .int 0, .int 0, .ref m14, .ref m15, .int 0, .int 0, .int 0, .int 0, .ref m16, .ref m17, .ref m18]))]) [0] (by decide) rfl
      exact W.iret (v := 0) hx hb hr (fun t ht hW => ⟨⟨0, (1, 0), rfl, Or.inr ⟨rfl, z_inn_bad (hw.symm.trans c_8)⟩, by rw [ht]; exact hP9, va_K.moved hW.alike hK, hD9⟩, hS.F ht⟩) hS.2.2 d_Mo_sign_43
