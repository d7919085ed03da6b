-- the law's own methods: a call of the class, its exceptions caught
set_option maxHeartbeats 1000000 in
set_option maxRecDepth 100000 in
theorem c_La_sign (l : Launch) (hlt : l.stackTraces = false) (dC : Nat → ClassId) (dI : Nat → Nat → Nat) (k : Nat → ClassId) (sz : Nat) (h0 : Nat) (tr : Nat) (t1 : Nat) (t2 : Nat) (t3 : Nat) (ea : Nat) (ca : Nat) (c1 : Nat) (c2 : Nat) (ed : Nat) (e1 : Nat) (e2 : Nat) (bs : Int64) (x : Int32) (out : Nat) : Met l y_La_sign (Cond.codeWith y_La_sign b_La_sign 6 (some .int) [((0), (11), (14), (13)), ((0), (11), (18), (15))] :: z_T) (z_rm 4 1 6) (z_Pc dC dI k sz [.ref h0, .long bs, .int x, .ref out] [(h0, .inr (0, [.ref tr, .ref ea, .ref ca, .ref ed, .int 0, .int (-1)])), (tr, .inr (1, [.ref t1, .ref t2, .ref t3, .int (nI 0), .int 0])), (t1, .inl (k 0, 400, .inl (fun _ => 0))), (out, .inl (k 1, 1, .inr (.inl (fun _ => 0))))]) (va_Qi (fun (r : Int32) (u : Int64) => (r = 0 ∧ ∃ j9 : Nat, 1 ≤ j9 ∧ j9 ≤ 8 ∧ x = nI j9 ∧ u = (nI j9).toInt64) ∨ (r = 1 ∧ (x < 1 ∨ ¬ x ≤ 8))) (fun (u : Int64) t => z_B dC dI k (va_A [(h0, .inr (0, [.ref tr, .ref ea, .ref ca, .ref ed, .int 0, .int (-1)])), (tr, .inr (1, [.ref t1, .ref t2, .ref t3, .int (nI 0), .int 0])), (t1, .inl (k 0, 400, .inl (fun _ => 0))), (out, .inl (k 1, 1, .inr (.inl (fun _ => 0))))] sz) [(out, .inl (k 1, 1, .inr (.inl (vp_updL (fun _ => 0) 0 u))))] t) (va_A [(h0, .inr (0, [.ref tr, .ref ea, .ref ca, .ref ed, .int 0, .int (-1)])), (tr, .inr (1, [.ref t1, .ref t2, .ref t3, .int (nI 0), .int 0])), (t1, .inl (k 0, 400, .inl (fun _ => 0))), (out, .inl (k 1, 1, .inr (.inl (fun _ => 0))))] sz)) 1 6 (va_A [(h0, .inr (0, [.ref tr, .ref ea, .ref ca, .ref ed, .int 0, .int (-1)])), (tr, .inr (1, [.ref t1, .ref t2, .ref t3, .int (nI 0), .int 0])), (t1, .inl (k 0, 400, .inl (fun _ => 0))), (out, .inl (k 1, 1, .inr (.inl (fun _ => 0))))] sz) := by
  refine va_MetW (cc := b_La_sign) (maxL := 6) (ret := (some .int)) (by decide) rfl ?_
  intro p e s m args below meth c s₁ B hml hv
  obtain ⟨rfl, hsz, hE, hP, hK, hD0⟩ := hv
  have hx := B.exec
  have hb := B.bytes
  have hr := B.returns
  have hts := atoms_spec (ws := Cond.codeWith y_La_sign b_La_sign 6 (some .int) [((0), (11), (14), (13)), ((0), (11), (18), (15))] :: z_T) B.pre
  have htz : ∀ w ∈ z_T, w.before _ s = true := fun w h => hts w (z_cons w h)
  have hown : s.vm.findClass "QuestionTextLaw" = some m.cls := findClass_of_methodNamed B.named
  have hlocks := B.notSynchronized
  subst hsz
  have hD := hD0.self (sz := s.heap.size)
  generalize hAe : va_A [(h0, .inr (0, [.ref tr, .ref ea, .ref ca, .ref ed, .int 0, .int (-1)])), (tr, .inr (1, [.ref t1, .ref t2, .ref t3, .int (nI 0), .int 0])), (t1, .inl (k 0, 400, .inl (fun _ => 0))), (out, .inl (k 1, 1, .inr (.inl (fun _ => 0))))] s.heap.size = A at hD hE ⊢
  have hA : ∀ q : Nat, s.heap.size ≤ q → A q := fun q h => by rw [← hAe]; exact Or.inr h
  have hS : va_S A s.heap s.heap [] := va_S.rf
  have hP : va_P (dC, dI) classes [(h0, .inr (0, [.ref tr, .ref ea, .ref ca, .ref ed, .int 0, .int (-1)])), (tr, .inr (1, [.ref t1, .ref t2, .ref t3, .int (nI 0), .int 0])), (t1, .inl (k 0, 400, .inl (fun _ => 0))), (out, .inl (k 1, 1, .inr (.inl (fun _ => 0))))] s.heap := hP
  have hl := lv_entry ([.ref h0, .long bs, .int x, .ref out]) (n := 6) (Nat.le_of_ble_eq_true rfl)
  rw [lg_entry_eq]
  generalize (lg_sl ([.ref h0, .long bs, .int x, .ref out]) ++ List.replicate (6 - (lg_sl ([.ref h0, .long bs, .int x, .ref out])).length) Slot.unset).toArray = ls at hl ⊢
  have hl : lv_has ls 6 [(0, .ref h0), (1, .long bs), (3, .int x), (4, .ref out)] := hl
  have hTab := vx_table (x := y_La_sign) B (htz _ m_La_sign)
  refine lv_aload hx hb d_La_sign_0 (lv_at hl 3 rfl) ?_
  refine lv_iconst (v := 0) hx hb d_La_sign_2 (by decide) ?_
  refine lv_aload_n hx hb d_La_sign_3 rfl (lv_at hl 0 rfl) ?_
  refine lv_lload_n hx hb d_La_sign_4 rfl (lv_at hl 1 rfl) ?_
  refine lv_iload_n hx hb d_La_sign_5 rfl (lv_at hl 2 rfl) ?_
  have hPc := hP.sub (ws' := [(h0, .inr (0, [.ref tr, .ref ea, .ref ca, .ref ed, .int 0, .int (-1)])), (tr, .inr (1, [.ref t1, .ref t2, .ref t3, .int (nI 0), .int 0])), (t1, .inl (k 0, 400, .inl (fun _ => 0)))]) [0, 1, 2] rfl
  have hDc := hD.sub (ws' := [(h0, .inr (0, [.ref tr, .ref ea, .ref ca, .ref ed, .int 0, .int (-1)])), (tr, .inr (1, [.ref t1, .ref t2, .ref t3, .int (nI 0), .int 0])), (t1, .inl (k 0, 400, .inl (fun _ => 0)))]) [0, 1, 2] (by decide) rfl
  have hFc := va_free (wc := [(h0, .inr (0, [.ref tr, .ref ea, .ref ca, .ref ed, .int 0, .int (-1)])), (tr, .inr (1, [.ref t1, .ref t2, .ref t3, .int (nI 0), .int 0])), (t1, .inl (k 0, 400, .inl (fun _ => 0)))]) hD hS hA [0, 1, 2] rfl
  refine vx_calli (vx_runV (As := [.long bs, .int x]) (rest := [.int 0, .ref out]) ⟨hx, hb, hml, hown, htz⟩ (c_Q_sign l hlt dC dI k s.heap.size h0 tr ea ca ed 0 (-1) t1 t2 t3 0 (fun _ => 0) 0 bs x (by decide)) (cwV 2 htz (z_gV (fun _ h => h) km_La_7 in_Q_sign se_Q_sign ini_Q m_Q_sign) rfl rfl rfl (by decide +kernel) ⟨(Nat.le_of_ble_eq_true rfl), (Nat.le_of_ble_eq_true rfl)⟩) ⟨z_blind, va_recv hK hPc (ci := 0) (q0 := 0) rfl rfl, fun U hU hW => ⟨rfl, by rw [hU], hE.call hS hFc hU hW, by rw [hU]; exact hPc, va_K.moved hW.alike hK, hDc.weaken (fun _ _ _ _ => trivial)⟩⟩ rfl rfl hl.1 rfl (lv_room (Nat.le_of_ble_eq_true rfl)) d_La_sign_6 ⟨(Nat.le_of_ble_eq_true rfl), (Nat.le_of_ble_eq_true rfl)⟩) hS (fun q _ h => hFc q h) hFc (fun q _ h => hFc q h) (fun E ce q9 u t H1 locs ht hvm hw hB hz1 hk1 hS hce hcv hcl => ?_) (fun r1 u t H1 locs ht hvm hw hB hz1 hk1 hS => ?_)
  · obtain ⟨hxe, hP1, hK1, hD1⟩ := hB
    rw [ht] at hP1
    obtain ⟨hP, hD⟩ := va_join (wr := [(out, .inl (k 1, 1, .inr (.inl (fun _ => 0))))]) (w1 := [(h0, .inr (0, [.ref tr, .ref ea, .ref ca, .ref ed, .int 0, .int (-1)])), (tr, .inr (1, [.ref t1, .ref t2, .ref t3, .int (nI 0), .int 0])), (t1, .inl (k 0, 400, .inl (fun _ => 0)))]) hP hD [0, 1, 2] [3] rfl rfl (by decide) (by decide) hk1 hFc hP1 hD1
    generalize H1 = H at hP hS hce ⊢
    have hP : va_P (dC, dI) classes [(out, .inl (k 1, 1, .inr (.inl (fun _ => 0)))), (h0, .inr (0, [.ref tr, .ref ea, .ref ca, .ref ed, .int 0, .int (-1)])), (tr, .inr (1, [.ref t1, .ref t2, .ref t3, .int (nI 0), .int 0])), (t1, .inl (k 0, 400, .inl (fun _ => 0)))] H := hP
    have hD : va_D A [(out, .inl (k 1, 1, .inr (.inl (fun _ => 0)))), (h0, .inr (0, [.ref tr, .ref ea, .ref ca, .ref ed, .int 0, .int (-1)])), (tr, .inr (1, [.ref t1, .ref t2, .ref t3, .int (nI 0), .int 0])), (t1, .inl (k 0, 400, .inl (fun _ => 0)))] := hD
    rw [← z_upl 0] at hP hD
    have hP : va_P (dC, dI) classes [(out, .inl (k 1, 1, .inr (.inl (vp_updL (fun _ => 0) 0 0)))), (h0, .inr (0, [.ref tr, .ref ea, .ref ca, .ref ed, .int 0, .int (-1)])), (tr, .inr (1, [.ref t1, .ref t2, .ref t3, .int (nI 0), .int 0])), (t1, .inl (k 0, 400, .inl (fun _ => 0)))] H := hP
    have hD : va_D A [(out, .inl (k 1, 1, .inr (.inl (vp_updL (fun _ => 0) 0 0)))), (h0, .inr (0, [.ref tr, .ref ea, .ref ca, .ref ed, .int 0, .int (-1)])), (tr, .inr (1, [.ref t1, .ref t2, .ref t3, .int (nI 0), .int 0])), (t1, .inl (k 0, 400, .inl (fun _ => 0)))] := hD
    rcases hxe with ⟨rfl, hc9⟩ | ⟨rfl, i9, h1, h2, h3, h4⟩
    · refine vx_catch hown [] ⟨0, 11, 14, 13⟩ [⟨0, 11, 18, 15⟩] hTab (fun z hz => nomatch hz) (by decide) (by decide) (htz _ kc_La_13) (va_Nw.use rfl (hE.1 _ ca_IAE)) hce hcv hcl ?_
      refine lv_astore (lv' := [(5, .ref q9), (0, .ref h0), (1, .long bs), (3, .int x), (4, .ref out)]) hx hb d_La_sign_14 hl (by decide) rfl (fun ls hl => ?_)
      refine lv_iconst (v := 1) hx hb d_La_sign_16 (by decide) ?_
      refine W.widen (k := 1) (n := 6) (Nat.le_of_ble_eq_true rfl) (Nat.le_of_ble_eq_true rfl) ?_
      have hP9 := hP.sub (ws' := [(out, .inl (k 1, 1, .inr (.inl (vp_updL (fun _ => 0) 0 0))))]) [0] rfl
      have hD9 := hD.sub (ws' := [(out, .inl (k 1, 1, .inr (.inl (vp_updL (fun _ => 0) 0 0))))]) [0] (by decide) rfl
      exact W.iret (v := 1) hx hb hr (fun t ht hW => ⟨⟨1, 0, rfl, Or.inr ⟨rfl, hc9⟩, by rw [ht]; exact hP9, va_K.moved hW.alike hK, hD9⟩, hS.F ht⟩) hS.2.2 d_La_sign_17
    · exact absurd h4 (by omega)
  · obtain ⟨j, rfl⟩ : ∃ z, z = u := ⟨_, rfl⟩
    obtain ⟨hP1, hK1, hD1⟩ := hB
    rw [ht] at hP1
    try dsimp only at hw
    obtain ⟨hP, hD⟩ := va_join (wr := [(out, .inl (k 1, 1, .inr (.inl (fun _ => 0))))]) (w1 := [(h0, .inr (0, [.ref tr, .ref ea, .ref ca, .ref ed, .int 0, .int (-1)])), (tr, .inr (1, [.ref t1, .ref t2, .ref t3, .int (nI (0 + j)), .int 0])), (t1, .inl (k 0, 400, .inl (z_sg (fun _ => 0) 0 bs j j)))]) hP hD [0, 1, 2] [3] rfl rfl (by decide) (by decide) hk1 hFc hP1 hD1
    generalize H1 = H at hP hS ⊢
    have hP : va_P (dC, dI) classes [(out, .inl (k 1, 1, .inr (.inl (fun _ => 0)))), (h0, .inr (0, [.ref tr, .ref ea, .ref ca, .ref ed, .int 0, .int (-1)])), (tr, .inr (1, [.ref t1, .ref t2, .ref t3, .int (nI (0 + j)), .int 0])), (t1, .inl (k 0, 400, .inl (z_sg (fun _ => 0) 0 bs j j)))] H := hP
    have hD : va_D A [(out, .inl (k 1, 1, .inr (.inl (fun _ => 0)))), (h0, .inr (0, [.ref tr, .ref ea, .ref ca, .ref ed, .int 0, .int (-1)])), (tr, .inr (1, [.ref t1, .ref t2, .ref t3, .int (nI (0 + j)), .int 0])), (t1, .inl (k 0, 400, .inl (z_sg (fun _ => 0) 0 bs j j)))] := hD
    refine lv_i2l (v := r1.toInt64) hx hb d_La_sign_9 rfl ?_
    refine va_last hx hb hK hP hD hS 0 1 rfl rfl (by unfold vp_in; decide) d_La_sign_10 (fun H locs hP hD hS => ?_)
    have hP : va_P (dC, dI) classes [(out, .inl (k 1, 1, .inr (.inl (vp_updL (fun _ => 0) ((0 : Int32).toNatClampNeg) r1.toInt64)))), (h0, .inr (0, [.ref tr, .ref ea, .ref ca, .ref ed, .int 0, .int (-1)])), (tr, .inr (1, [.ref t1, .ref t2, .ref t3, .int (nI (0 + j)), .int 0])), (t1, .inl (k 0, 400, .inl (z_sg (fun _ => 0) 0 bs j j)))] H := hP
    have hD : va_D A [(out, .inl (k 1, 1, .inr (.inl (vp_updL (fun _ => 0) ((0 : Int32).toNatClampNeg) r1.toInt64)))), (h0, .inr (0, [.ref tr, .ref ea, .ref ca, .ref ed, .int 0, .int (-1)])), (tr, .inr (1, [.ref t1, .ref t2, .ref t3, .int (nI (0 + j)), .int 0])), (t1, .inl (k 0, 400, .inl (z_sg (fun _ => 0) 0 bs j j)))] := hD
    have hP : va_P (dC, dI) classes [(out, .inl (k 1, 1, .inr (.inl (vp_updL (fun _ => 0) 0 (r1.toInt64))))), (h0, .inr (0, [.ref tr, .ref ea, .ref ca, .ref ed, .int 0, .int (-1)])), (tr, .inr (1, [.ref t1, .ref t2, .ref t3, .int (nI (0 + j)), .int 0])), (t1, .inl (k 0, 400, .inl (z_sg (fun _ => 0) 0 bs j j)))] H := hP
    have hD : va_D A [(out, .inl (k 1, 1, .inr (.inl (vp_updL (fun _ => 0) 0 (r1.toInt64))))), (h0, .inr (0, [.ref tr, .ref ea, .ref ca, .ref ed, .int 0, .int (-1)])), (tr, .inr (1, [.ref t1, .ref t2, .ref t3, .int (nI (0 + j)), .int 0])), (t1, .inl (k 0, 400, .inl (z_sg (fun _ => 0) 0 bs j j)))] := hD
    refine lv_goto (tgt := 22) hx hb d_La_sign_11 (by decide) ?_
    refine lv_iconst (v := 0) hx hb d_La_sign_22 (by decide) ?_
    refine W.widen (k := 1) (n := 6) (Nat.le_of_ble_eq_true rfl) (Nat.le_of_ble_eq_true rfl) ?_
    have hP9 := hP.sub (ws' := [(out, .inl (k 1, 1, .inr (.inl (vp_updL (fun _ => 0) 0 (r1.toInt64)))))]) [0] rfl
    have hD9 := hD.sub (ws' := [(out, .inl (k 1, 1, .inr (.inl (vp_updL (fun _ => 0) 0 (r1.toInt64)))))]) [0] (by decide) rfl
    exact W.iret (v := 0) hx hb hr (fun t ht hW => ⟨⟨0, (r1.toInt64), rfl, Or.inl ⟨rfl, j, hw.1, hw.2.1, hw.2.2.1, by rw [hw.2.2.2.2, Nat.zero_add]⟩, by rw [ht]; exact hP9, va_K.moved hW.alike hK, hD9⟩, hS.F ht⟩) hS.2.2 d_La_sign_23
set_option maxHeartbeats 1000000 in
set_option maxRecDepth 100000 in
theorem c_La_read (l : Launch) (hlt : l.stackTraces = false) (dC : Nat → ClassId) (dI : Nat → Nat → Nat) (k : Nat → ClassId) (sz : Nat) (h0 : Nat) (tr : Nat) (t1 : Nat) (t2 : Nat) (t3 : Nat) (ea : Nat) (ca : Nat) (c1 : Nat) (c2 : Nat) (ed : Nat) (e1 : Nat) (e2 : Nat) (out : Nat) : Met l y_La_read (Cond.codeWith y_La_read b_La_read 3 (some .int) [((0), (8), (11), (13)), ((0), (8), (14), (15))] :: z_T) (z_rm 5 4 138) (z_Pc dC dI k sz [.ref h0, .ref out] [(h0, .inr (0, [.ref tr, .ref ea, .ref ca, .ref ed, .int 0, .int (-1)])), (tr, .inr (1, [.ref t1, .ref t2, .ref t3, .int 0, .int 0])), (t1, .inl (k 0, 400, .inl (fun _ => 0))), (t2, .inl (k 3, 61, .inr (.inr (.inr (.inr (fun _ => none)))))), (t3, .inl (k 4, 10, .inr (.inr (.inr (.inr (fun _ => none)))))), (ea, .inl (k 5, 9, .inr (.inr (.inr (.inr (va_up (fun _ => none) 0 (some ed))))))), (ca, .inr (2, [.ref c1, .ref c2, .int 0, .int 0, .int 0, .int 0])), (c1, .inl (k 0, 40, .inl (fun _ => 0))), (c2, .inl (k 0, 61, .inl (fun _ => 0))), (ed, .inr (3, [.ref e1, .ref e2, .int 0, .long 0, .long 0, .long 0])), (e1, .inl (k 3, 61, .inr (.inr (.inr (.inr (fun _ => none)))))), (e2, .inl (k 4, 10, .inr (.inr (.inr (.inr (fun _ => none)))))), (out, .inl (k 1, 1, .inr (.inl (fun _ => 0))))]) (va_Qi (fun (r : Int32) (u : Int64) => r = 0 ∧ u = (0 : Int32).toInt64) (fun (u : Int64) t => z_B dC dI k (va_A [(h0, .inr (0, [.ref tr, .ref ea, .ref ca, .ref ed, .int 0, .int (-1)])), (tr, .inr (1, [.ref t1, .ref t2, .ref t3, .int 0, .int 0])), (t1, .inl (k 0, 400, .inl (fun _ => 0))), (t2, .inl (k 3, 61, .inr (.inr (.inr (.inr (fun _ => none)))))), (t3, .inl (k 4, 10, .inr (.inr (.inr (.inr (fun _ => none)))))), (ea, .inl (k 5, 9, .inr (.inr (.inr (.inr (va_up (fun _ => none) 0 (some ed))))))), (ca, .inr (2, [.ref c1, .ref c2, .int 0, .int 0, .int 0, .int 0])), (c1, .inl (k 0, 40, .inl (fun _ => 0))), (c2, .inl (k 0, 61, .inl (fun _ => 0))), (ed, .inr (3, [.ref e1, .ref e2, .int 0, .long 0, .long 0, .long 0])), (e1, .inl (k 3, 61, .inr (.inr (.inr (.inr (fun _ => none)))))), (e2, .inl (k 4, 10, .inr (.inr (.inr (.inr (fun _ => none)))))), (out, .inl (k 1, 1, .inr (.inl (fun _ => 0))))] sz) [(out, .inl (k 1, 1, .inr (.inl (vp_updL (fun _ => 0) 0 u))))] t) (va_A [(h0, .inr (0, [.ref tr, .ref ea, .ref ca, .ref ed, .int 0, .int (-1)])), (tr, .inr (1, [.ref t1, .ref t2, .ref t3, .int 0, .int 0])), (t1, .inl (k 0, 400, .inl (fun _ => 0))), (t2, .inl (k 3, 61, .inr (.inr (.inr (.inr (fun _ => none)))))), (t3, .inl (k 4, 10, .inr (.inr (.inr (.inr (fun _ => none)))))), (ea, .inl (k 5, 9, .inr (.inr (.inr (.inr (va_up (fun _ => none) 0 (some ed))))))), (ca, .inr (2, [.ref c1, .ref c2, .int 0, .int 0, .int 0, .int 0])), (c1, .inl (k 0, 40, .inl (fun _ => 0))), (c2, .inl (k 0, 61, .inl (fun _ => 0))), (ed, .inr (3, [.ref e1, .ref e2, .int 0, .long 0, .long 0, .long 0])), (e1, .inl (k 3, 61, .inr (.inr (.inr (.inr (fun _ => none)))))), (e2, .inl (k 4, 10, .inr (.inr (.inr (.inr (fun _ => none)))))), (out, .inl (k 1, 1, .inr (.inl (fun _ => 0))))] sz)) 4 138 (va_A [(h0, .inr (0, [.ref tr, .ref ea, .ref ca, .ref ed, .int 0, .int (-1)])), (tr, .inr (1, [.ref t1, .ref t2, .ref t3, .int 0, .int 0])), (t1, .inl (k 0, 400, .inl (fun _ => 0))), (t2, .inl (k 3, 61, .inr (.inr (.inr (.inr (fun _ => none)))))), (t3, .inl (k 4, 10, .inr (.inr (.inr (.inr (fun _ => none)))))), (ea, .inl (k 5, 9, .inr (.inr (.inr (.inr (va_up (fun _ => none) 0 (some ed))))))), (ca, .inr (2, [.ref c1, .ref c2, .int 0, .int 0, .int 0, .int 0])), (c1, .inl (k 0, 40, .inl (fun _ => 0))), (c2, .inl (k 0, 61, .inl (fun _ => 0))), (ed, .inr (3, [.ref e1, .ref e2, .int 0, .long 0, .long 0, .long 0])), (e1, .inl (k 3, 61, .inr (.inr (.inr (.inr (fun _ => none)))))), (e2, .inl (k 4, 10, .inr (.inr (.inr (.inr (fun _ => none)))))), (out, .inl (k 1, 1, .inr (.inl (fun _ => 0))))] sz) := by
  refine va_MetW (cc := b_La_read) (maxL := 3) (ret := (some .int)) (by decide) rfl ?_
  intro p e s m args below meth c s₁ B hml hv
  obtain ⟨rfl, hsz, hE, hP, hK, hD0⟩ := hv
  have hx := B.exec
  have hb := B.bytes
  have hr := B.returns
  have hts := atoms_spec (ws := Cond.codeWith y_La_read b_La_read 3 (some .int) [((0), (8), (11), (13)), ((0), (8), (14), (15))] :: z_T) B.pre
  have htz : ∀ w ∈ z_T, w.before _ s = true := fun w h => hts w (z_cons w h)
  have hown : s.vm.findClass "QuestionTextLaw" = some m.cls := findClass_of_methodNamed B.named
  have hlocks := B.notSynchronized
  subst hsz
  have hD := hD0.self (sz := s.heap.size)
  generalize hAe : va_A [(h0, .inr (0, [.ref tr, .ref ea, .ref ca, .ref ed, .int 0, .int (-1)])), (tr, .inr (1, [.ref t1, .ref t2, .ref t3, .int 0, .int 0])), (t1, .inl (k 0, 400, .inl (fun _ => 0))), (t2, .inl (k 3, 61, .inr (.inr (.inr (.inr (fun _ => none)))))), (t3, .inl (k 4, 10, .inr (.inr (.inr (.inr (fun _ => none)))))), (ea, .inl (k 5, 9, .inr (.inr (.inr (.inr (va_up (fun _ => none) 0 (some ed))))))), (ca, .inr (2, [.ref c1, .ref c2, .int 0, .int 0, .int 0, .int 0])), (c1, .inl (k 0, 40, .inl (fun _ => 0))), (c2, .inl (k 0, 61, .inl (fun _ => 0))), (ed, .inr (3, [.ref e1, .ref e2, .int 0, .long 0, .long 0, .long 0])), (e1, .inl (k 3, 61, .inr (.inr (.inr (.inr (fun _ => none)))))), (e2, .inl (k 4, 10, .inr (.inr (.inr (.inr (fun _ => none)))))), (out, .inl (k 1, 1, .inr (.inl (fun _ => 0))))] s.heap.size = A at hD hE ⊢
  have hA : ∀ q : Nat, s.heap.size ≤ q → A q := fun q h => by rw [← hAe]; exact Or.inr h
  have hS : va_S A s.heap s.heap [] := va_S.rf
  have hP : va_P (dC, dI) classes [(h0, .inr (0, [.ref tr, .ref ea, .ref ca, .ref ed, .int 0, .int (-1)])), (tr, .inr (1, [.ref t1, .ref t2, .ref t3, .int 0, .int 0])), (t1, .inl (k 0, 400, .inl (fun _ => 0))), (t2, .inl (k 3, 61, .inr (.inr (.inr (.inr (fun _ => none)))))), (t3, .inl (k 4, 10, .inr (.inr (.inr (.inr (fun _ => none)))))), (ea, .inl (k 5, 9, .inr (.inr (.inr (.inr (va_up (fun _ => none) 0 (some ed))))))), (ca, .inr (2, [.ref c1, .ref c2, .int 0, .int 0, .int 0, .int 0])), (c1, .inl (k 0, 40, .inl (fun _ => 0))), (c2, .inl (k 0, 61, .inl (fun _ => 0))), (ed, .inr (3, [.ref e1, .ref e2, .int 0, .long 0, .long 0, .long 0])), (e1, .inl (k 3, 61, .inr (.inr (.inr (.inr (fun _ => none)))))), (e2, .inl (k 4, 10, .inr (.inr (.inr (.inr (fun _ => none)))))), (out, .inl (k 1, 1, .inr (.inl (fun _ => 0))))] s.heap := hP
  have hl := lv_entry ([.ref h0, .ref out]) (n := 3) (Nat.le_of_ble_eq_true rfl)
  rw [lg_entry_eq]
  generalize (lg_sl ([.ref h0, .ref out]) ++ List.replicate (3 - (lg_sl ([.ref h0, .ref out])).length) Slot.unset).toArray = ls at hl ⊢
  have hl : lv_has ls 3 [(0, .ref h0), (1, .ref out)] := hl
  have hTab := vx_table (x := y_La_read) B (htz _ m_La_read)
  refine lv_aload_n hx hb d_La_read_0 rfl (lv_at hl 1 rfl) ?_
  refine lv_iconst (v := 0) hx hb d_La_read_1 (by decide) ?_
  refine lv_aload_n hx hb d_La_read_2 rfl (lv_at hl 0 rfl) ?_
  have hPc := hP.sub (ws' := [(h0, .inr (0, [.ref tr, .ref ea, .ref ca, .ref ed, .int 0, .int (-1)])), (tr, .inr (1, [.ref t1, .ref t2, .ref t3, .int 0, .int 0])), (t1, .inl (k 0, 400, .inl (fun _ => 0))), (t2, .inl (k 3, 61, .inr (.inr (.inr (.inr (fun _ => none)))))), (t3, .inl (k 4, 10, .inr (.inr (.inr (.inr (fun _ => none)))))), (ea, .inl (k 5, 9, .inr (.inr (.inr (.inr (va_up (fun _ => none) 0 (some ed))))))), (ca, .inr (2, [.ref c1, .ref c2, .int 0, .int 0, .int 0, .int 0])), (c1, .inl (k 0, 40, .inl (fun _ => 0))), (c2, .inl (k 0, 61, .inl (fun _ => 0))), (ed, .inr (3, [.ref e1, .ref e2, .int 0, .long 0, .long 0, .long 0])), (e1, .inl (k 3, 61, .inr (.inr (.inr (.inr (fun _ => none)))))), (e2, .inl (k 4, 10, .inr (.inr (.inr (.inr (fun _ => none))))))]) [0, 1, 2, 3, 4, 5, 6, 7, 8, 9, 10, 11] rfl
  have hDc := hD.sub (ws' := [(h0, .inr (0, [.ref tr, .ref ea, .ref ca, .ref ed, .int 0, .int (-1)])), (tr, .inr (1, [.ref t1, .ref t2, .ref t3, .int 0, .int 0])), (t1, .inl (k 0, 400, .inl (fun _ => 0))), (t2, .inl (k 3, 61, .inr (.inr (.inr (.inr (fun _ => none)))))), (t3, .inl (k 4, 10, .inr (.inr (.inr (.inr (fun _ => none)))))), (ea, .inl (k 5, 9, .inr (.inr (.inr (.inr (va_up (fun _ => none) 0 (some ed))))))), (ca, .inr (2, [.ref c1, .ref c2, .int 0, .int 0, .int 0, .int 0])), (c1, .inl (k 0, 40, .inl (fun _ => 0))), (c2, .inl (k 0, 61, .inl (fun _ => 0))), (ed, .inr (3, [.ref e1, .ref e2, .int 0, .long 0, .long 0, .long 0])), (e1, .inl (k 3, 61, .inr (.inr (.inr (.inr (fun _ => none)))))), (e2, .inl (k 4, 10, .inr (.inr (.inr (.inr (fun _ => none))))))]) [0, 1, 2, 3, 4, 5, 6, 7, 8, 9, 10, 11] (by decide) rfl
  have hFc := va_free (wc := [(h0, .inr (0, [.ref tr, .ref ea, .ref ca, .ref ed, .int 0, .int (-1)])), (tr, .inr (1, [.ref t1, .ref t2, .ref t3, .int 0, .int 0])), (t1, .inl (k 0, 400, .inl (fun _ => 0))), (t2, .inl (k 3, 61, .inr (.inr (.inr (.inr (fun _ => none)))))), (t3, .inl (k 4, 10, .inr (.inr (.inr (.inr (fun _ => none)))))), (ea, .inl (k 5, 9, .inr (.inr (.inr (.inr (va_up (fun _ => none) 0 (some ed))))))), (ca, .inr (2, [.ref c1, .ref c2, .int 0, .int 0, .int 0, .int 0])), (c1, .inl (k 0, 40, .inl (fun _ => 0))), (c2, .inl (k 0, 61, .inl (fun _ => 0))), (ed, .inr (3, [.ref e1, .ref e2, .int 0, .long 0, .long 0, .long 0])), (e1, .inl (k 3, 61, .inr (.inr (.inr (.inr (fun _ => none)))))), (e2, .inl (k 4, 10, .inr (.inr (.inr (.inr (fun _ => none))))))]) hD hS hA [0, 1, 2, 3, 4, 5, 6, 7, 8, 9, 10, 11] rfl
  refine va_calli (va_runV (As := []) (rest := [.int 0, .ref out]) ⟨hx, hb, hml, hown, htz⟩ (c_Q_read_0 l dC dI k s.heap.size h0 tr t1 t2 t3 ea ca c1 c2 ed e1 e2) (cwV 0 htz (z_gV (fun _ h => h) km_La_17 in_Q_read se_Q_read ini_Q m_Q_read) rfl rfl rfl (by decide +kernel) ⟨(Nat.le_of_ble_eq_true rfl), (Nat.le_of_ble_eq_true rfl)⟩) ⟨z_blind, va_recv hK hPc (ci := 0) (q0 := 0) rfl rfl, fun U hU hW => ⟨rfl, by rw [hU], hE.call hS hFc hU hW, by rw [hU]; exact hPc, va_K.moved hW.alike hK, hDc.weaken (fun _ _ _ _ => trivial)⟩⟩ rfl rfl hl.1 rfl (lv_room (Nat.le_of_ble_eq_true rfl)) d_La_read_3 ⟨(Nat.le_of_ble_eq_true rfl), (Nat.le_of_ble_eq_true rfl)⟩) hS (fun q _ h => hFc q h) hFc (fun r1 u t H1 locs ht hvm hw hB hz1 hk1 hS => ?_)
  obtain ⟨hP1, hK1, hD1⟩ := hB
  rw [ht] at hP1
  try dsimp only at hw
  obtain ⟨hP, hD⟩ := va_join (wr := [(out, .inl (k 1, 1, .inr (.inl (fun _ => 0))))]) (w1 := []) hP hD [0, 1, 2, 3, 4, 5, 6, 7, 8, 9, 10, 11] [12] rfl rfl (by decide) (by decide) hk1 hFc hP1 hD1
  generalize H1 = H at hP hS ⊢
  have hP : va_P (dC, dI) classes [(out, .inl (k 1, 1, .inr (.inl (fun _ => 0))))] H := hP
  have hD : va_D A [(out, .inl (k 1, 1, .inr (.inl (fun _ => 0))))] := hD
  refine lv_i2l (v := r1.toInt64) hx hb d_La_read_6 rfl ?_
  refine va_last hx hb hK hP hD hS 0 1 rfl rfl (by unfold vp_in; decide) d_La_read_7 (fun H locs hP hD hS => ?_)
  have hP : va_P (dC, dI) classes [(out, .inl (k 1, 1, .inr (.inl (vp_updL (fun _ => 0) ((0 : Int32).toNatClampNeg) r1.toInt64))))] H := hP
  have hD : va_D A [(out, .inl (k 1, 1, .inr (.inl (vp_updL (fun _ => 0) ((0 : Int32).toNatClampNeg) r1.toInt64))))] := hD
  have hP : va_P (dC, dI) classes [(out, .inl (k 1, 1, .inr (.inl (vp_updL (fun _ => 0) 0 (r1.toInt64)))))] H := hP
  have hD : va_D A [(out, .inl (k 1, 1, .inr (.inl (vp_updL (fun _ => 0) 0 (r1.toInt64)))))] := hD
  refine lv_goto (tgt := 17) hx hb d_La_read_8 (by decide) ?_
  refine lv_iconst (v := 0) hx hb d_La_read_17 (by decide) ?_
  refine W.widen (k := 4) (n := 138) (Nat.le_of_ble_eq_true rfl) (Nat.le_of_ble_eq_true rfl) ?_
  have hP9 := hP.sub (ws' := [(out, .inl (k 1, 1, .inr (.inl (vp_updL (fun _ => 0) 0 (r1.toInt64)))))]) [0] rfl
  have hD9 := hD.sub (ws' := [(out, .inl (k 1, 1, .inr (.inl (vp_updL (fun _ => 0) 0 (r1.toInt64)))))]) [0] (by decide) rfl
  exact W.iret (v := 0) hx hb hr (fun t ht hW => ⟨⟨0, (r1.toInt64), rfl, ⟨rfl, by rw [hw]⟩, by rw [ht]; exact hP9, va_K.moved hW.alike hK, hD9⟩, hS.F ht⟩) hS.2.2 d_La_read_18
set_option maxHeartbeats 1000000 in
set_option maxRecDepth 100000 in
theorem c_La_edition (l : Launch) (hlt : l.stackTraces = false) (dC : Nat → ClassId) (dI : Nat → Nat → Nat) (k : Nat → ClassId) (sz : Nat) (h0 : Nat) (tr : Nat) (t1 : Nat) (t2 : Nat) (t3 : Nat) (ea : Nat) (ca : Nat) (c1 : Nat) (c2 : Nat) (ed : Nat) (e1 : Nat) (e2 : Nat) (x : Int32) (out : Nat) : Met l y_La_edition (Cond.codeWith y_La_edition b_La_edition 4 (some .int) [((0), (9), (12), (13))] :: z_T) (z_rm 4 1 6) (z_Pc dC dI k sz [.ref h0, .int x, .ref out] [(h0, .inr (0, [.ref tr, .ref ea, .ref ca, .ref ed, .int 0, .int (-1)])), (ea, .inl (k 5, 9, .inr (.inr (.inr (.inr (va_up (fun _ => none) 0 (some ed))))))), (ca, .inr (2, [.ref c1, .ref c2, .int 0, .int 0, .int 0, .int 0])), (c2, .inl (k 0, 61, .inl (fun _ => 0))), (ed, .inr (3, [.ref e1, .ref e2, .int 0, .long 0, .long 0, .long 0])), (out, .inl (k 1, 1, .inr (.inl (fun _ => 0))))]) (va_Qi (fun (r : Int32) (u : Int64) => (r = 0 ∧ x = 0 ∧ u = (0 : Int32).toInt64) ∨ (r = 1 ∧ x ≠ 0)) (fun (u : Int64) t => z_B dC dI k (va_A [(h0, .inr (0, [.ref tr, .ref ea, .ref ca, .ref ed, .int 0, .int (-1)])), (ea, .inl (k 5, 9, .inr (.inr (.inr (.inr (va_up (fun _ => none) 0 (some ed))))))), (ca, .inr (2, [.ref c1, .ref c2, .int 0, .int 0, .int 0, .int 0])), (c2, .inl (k 0, 61, .inl (fun _ => 0))), (ed, .inr (3, [.ref e1, .ref e2, .int 0, .long 0, .long 0, .long 0])), (out, .inl (k 1, 1, .inr (.inl (fun _ => 0))))] sz) [(out, .inl (k 1, 1, .inr (.inl (vp_updL (fun _ => 0) 0 u))))] t) (va_A [(h0, .inr (0, [.ref tr, .ref ea, .ref ca, .ref ed, .int 0, .int (-1)])), (ea, .inl (k 5, 9, .inr (.inr (.inr (.inr (va_up (fun _ => none) 0 (some ed))))))), (ca, .inr (2, [.ref c1, .ref c2, .int 0, .int 0, .int 0, .int 0])), (c2, .inl (k 0, 61, .inl (fun _ => 0))), (ed, .inr (3, [.ref e1, .ref e2, .int 0, .long 0, .long 0, .long 0])), (out, .inl (k 1, 1, .inr (.inl (fun _ => 0))))] sz)) 1 6 (va_A [(h0, .inr (0, [.ref tr, .ref ea, .ref ca, .ref ed, .int 0, .int (-1)])), (ea, .inl (k 5, 9, .inr (.inr (.inr (.inr (va_up (fun _ => none) 0 (some ed))))))), (ca, .inr (2, [.ref c1, .ref c2, .int 0, .int 0, .int 0, .int 0])), (c2, .inl (k 0, 61, .inl (fun _ => 0))), (ed, .inr (3, [.ref e1, .ref e2, .int 0, .long 0, .long 0, .long 0])), (out, .inl (k 1, 1, .inr (.inl (fun _ => 0))))] sz) := by
  refine va_MetW (cc := b_La_edition) (maxL := 4) (ret := (some .int)) (by decide) rfl ?_
  intro p e s m args below meth c s₁ B hml hv
  obtain ⟨rfl, hsz, hE, hP, hK, hD0⟩ := hv
  have hx := B.exec
  have hb := B.bytes
  have hr := B.returns
  have hts := atoms_spec (ws := Cond.codeWith y_La_edition b_La_edition 4 (some .int) [((0), (9), (12), (13))] :: z_T) B.pre
  have htz : ∀ w ∈ z_T, w.before _ s = true := fun w h => hts w (z_cons w h)
  have hown : s.vm.findClass "QuestionTextLaw" = some m.cls := findClass_of_methodNamed B.named
  have hlocks := B.notSynchronized
  subst hsz
  have hD := hD0.self (sz := s.heap.size)
  generalize hAe : va_A [(h0, .inr (0, [.ref tr, .ref ea, .ref ca, .ref ed, .int 0, .int (-1)])), (ea, .inl (k 5, 9, .inr (.inr (.inr (.inr (va_up (fun _ => none) 0 (some ed))))))), (ca, .inr (2, [.ref c1, .ref c2, .int 0, .int 0, .int 0, .int 0])), (c2, .inl (k 0, 61, .inl (fun _ => 0))), (ed, .inr (3, [.ref e1, .ref e2, .int 0, .long 0, .long 0, .long 0])), (out, .inl (k 1, 1, .inr (.inl (fun _ => 0))))] s.heap.size = A at hD hE ⊢
  have hA : ∀ q : Nat, s.heap.size ≤ q → A q := fun q h => by rw [← hAe]; exact Or.inr h
  have hS : va_S A s.heap s.heap [] := va_S.rf
  have hP : va_P (dC, dI) classes [(h0, .inr (0, [.ref tr, .ref ea, .ref ca, .ref ed, .int 0, .int (-1)])), (ea, .inl (k 5, 9, .inr (.inr (.inr (.inr (va_up (fun _ => none) 0 (some ed))))))), (ca, .inr (2, [.ref c1, .ref c2, .int 0, .int 0, .int 0, .int 0])), (c2, .inl (k 0, 61, .inl (fun _ => 0))), (ed, .inr (3, [.ref e1, .ref e2, .int 0, .long 0, .long 0, .long 0])), (out, .inl (k 1, 1, .inr (.inl (fun _ => 0))))] s.heap := hP
  have hl := lv_entry ([.ref h0, .int x, .ref out]) (n := 4) (Nat.le_of_ble_eq_true rfl)
  rw [lg_entry_eq]
  generalize (lg_sl ([.ref h0, .int x, .ref out]) ++ List.replicate (4 - (lg_sl ([.ref h0, .int x, .ref out])).length) Slot.unset).toArray = ls at hl ⊢
  have hl : lv_has ls 4 [(0, .ref h0), (1, .int x), (2, .ref out)] := hl
  have hTab := vx_table (x := y_La_edition) B (htz _ m_La_edition)
  refine lv_aload_n hx hb d_La_edition_0 rfl (lv_at hl 2 rfl) ?_
  refine lv_iconst (v := 0) hx hb d_La_edition_1 (by decide) ?_
  refine lv_aload_n hx hb d_La_edition_2 rfl (lv_at hl 0 rfl) ?_
  refine lv_iload_n hx hb d_La_edition_3 rfl (lv_at hl 1 rfl) ?_
  have hPc := hP.sub (ws' := [(h0, .inr (0, [.ref tr, .ref ea, .ref ca, .ref ed, .int 0, .int (-1)])), (ea, .inl (k 5, 9, .inr (.inr (.inr (.inr (va_up (fun _ => none) 0 (some ed))))))), (ca, .inr (2, [.ref c1, .ref c2, .int 0, .int 0, .int 0, .int 0])), (c2, .inl (k 0, 61, .inl (fun _ => 0))), (ed, .inr (3, [.ref e1, .ref e2, .int 0, .long 0, .long 0, .long 0]))]) [0, 1, 2, 3, 4] rfl
  have hDc := hD.sub (ws' := [(h0, .inr (0, [.ref tr, .ref ea, .ref ca, .ref ed, .int 0, .int (-1)])), (ea, .inl (k 5, 9, .inr (.inr (.inr (.inr (va_up (fun _ => none) 0 (some ed))))))), (ca, .inr (2, [.ref c1, .ref c2, .int 0, .int 0, .int 0, .int 0])), (c2, .inl (k 0, 61, .inl (fun _ => 0))), (ed, .inr (3, [.ref e1, .ref e2, .int 0, .long 0, .long 0, .long 0]))]) [0, 1, 2, 3, 4] (by decide) rfl
  have hFc := va_free (wc := [(h0, .inr (0, [.ref tr, .ref ea, .ref ca, .ref ed, .int 0, .int (-1)])), (ea, .inl (k 5, 9, .inr (.inr (.inr (.inr (va_up (fun _ => none) 0 (some ed))))))), (ca, .inr (2, [.ref c1, .ref c2, .int 0, .int 0, .int 0, .int 0])), (c2, .inl (k 0, 61, .inl (fun _ => 0))), (ed, .inr (3, [.ref e1, .ref e2, .int 0, .long 0, .long 0, .long 0]))]) hD hS hA [0, 1, 2, 3, 4] rfl
  refine vx_calli (vx_runV (As := [.int x]) (rest := [.int 0, .ref out]) ⟨hx, hb, hml, hown, htz⟩ (c_Q_edition_0 l hlt dC dI k s.heap.size h0 tr t1 t2 t3 ea ca c1 c2 ed e1 e2 x) (cwV 1 htz (z_gV (fun _ h => h) km_La_21 in_Q_edition se_Q_edition ini_Q m_Q_edition) rfl rfl rfl (by decide +kernel) ⟨(Nat.le_of_ble_eq_true rfl), (Nat.le_of_ble_eq_true rfl)⟩) ⟨z_blind, va_recv hK hPc (ci := 0) (q0 := 0) rfl rfl, fun U hU hW => ⟨rfl, by rw [hU], hE.call hS hFc hU hW, by rw [hU]; exact hPc, va_K.moved hW.alike hK, hDc.weaken (fun _ _ _ _ => trivial)⟩⟩ rfl rfl hl.1 rfl (lv_room (Nat.le_of_ble_eq_true rfl)) d_La_edition_4 ⟨(Nat.le_of_ble_eq_true rfl), (Nat.le_of_ble_eq_true rfl)⟩) hS (fun q _ h => hFc q h) hFc (fun q _ h => hFc q h) (fun E ce q9 u t H1 locs ht hvm hw hB hz1 hk1 hS hce hcv hcl => ?_) (fun r1 u t H1 locs ht hvm hw hB hz1 hk1 hS => ?_)
  · obtain ⟨hxe, hP1, hK1, hD1⟩ := hB
    rw [ht] at hP1
    obtain ⟨hP, hD⟩ := va_join (wr := [(out, .inl (k 1, 1, .inr (.inl (fun _ => 0))))]) (w1 := [(h0, .inr (0, [.ref tr, .ref ea, .ref ca, .ref ed, .int 0, .int (-1)])), (ea, .inl (k 5, 9, .inr (.inr (.inr (.inr (va_up (fun _ => none) 0 (some ed))))))), (ca, .inr (2, [.ref c1, .ref c2, .int 0, .int 0, .int 0, .int 0])), (c2, .inl (k 0, 61, .inl (fun _ => 0))), (ed, .inr (3, [.ref e1, .ref e2, .int 0, .long 0, .long 0, .long 0]))]) hP hD [0, 1, 2, 3, 4] [5] rfl rfl (by decide) (by decide) hk1 hFc hP1 hD1
    generalize H1 = H at hP hS hce ⊢
    have hP : va_P (dC, dI) classes [(out, .inl (k 1, 1, .inr (.inl (fun _ => 0)))), (h0, .inr (0, [.ref tr, .ref ea, .ref ca, .ref ed, .int 0, .int (-1)])), (ea, .inl (k 5, 9, .inr (.inr (.inr (.inr (va_up (fun _ => none) 0 (some ed))))))), (ca, .inr (2, [.ref c1, .ref c2, .int 0, .int 0, .int 0, .int 0])), (c2, .inl (k 0, 61, .inl (fun _ => 0))), (ed, .inr (3, [.ref e1, .ref e2, .int 0, .long 0, .long 0, .long 0]))] H := hP
    have hD : va_D A [(out, .inl (k 1, 1, .inr (.inl (fun _ => 0)))), (h0, .inr (0, [.ref tr, .ref ea, .ref ca, .ref ed, .int 0, .int (-1)])), (ea, .inl (k 5, 9, .inr (.inr (.inr (.inr (va_up (fun _ => none) 0 (some ed))))))), (ca, .inr (2, [.ref c1, .ref c2, .int 0, .int 0, .int 0, .int 0])), (c2, .inl (k 0, 61, .inl (fun _ => 0))), (ed, .inr (3, [.ref e1, .ref e2, .int 0, .long 0, .long 0, .long 0]))] := hD
    rw [← z_upl 0] at hP hD
    have hP : va_P (dC, dI) classes [(out, .inl (k 1, 1, .inr (.inl (vp_updL (fun _ => 0) 0 0)))), (h0, .inr (0, [.ref tr, .ref ea, .ref ca, .ref ed, .int 0, .int (-1)])), (ea, .inl (k 5, 9, .inr (.inr (.inr (.inr (va_up (fun _ => none) 0 (some ed))))))), (ca, .inr (2, [.ref c1, .ref c2, .int 0, .int 0, .int 0, .int 0])), (c2, .inl (k 0, 61, .inl (fun _ => 0))), (ed, .inr (3, [.ref e1, .ref e2, .int 0, .long 0, .long 0, .long 0]))] H := hP
    have hD : va_D A [(out, .inl (k 1, 1, .inr (.inl (vp_updL (fun _ => 0) 0 0)))), (h0, .inr (0, [.ref tr, .ref ea, .ref ca, .ref ed, .int 0, .int (-1)])), (ea, .inl (k 5, 9, .inr (.inr (.inr (.inr (va_up (fun _ => none) 0 (some ed))))))), (ca, .inr (2, [.ref c1, .ref c2, .int 0, .int 0, .int 0, .int 0])), (c2, .inl (k 0, 61, .inl (fun _ => 0))), (ed, .inr (3, [.ref e1, .ref e2, .int 0, .long 0, .long 0, .long 0]))] := hD
    obtain ⟨rfl, hc9⟩ := hxe
    refine vx_catch hown [] ⟨0, 9, 12, 13⟩ [] hTab (fun z hz => nomatch hz) (by decide) (by decide) (htz _ kc_La_13) (va_Nw.use rfl (hE.1 _ ca_IAE)) hce hcv hcl ?_
    refine lv_astore_n (lv' := [(3, .ref q9), (0, .ref h0), (1, .int x), (2, .ref out)]) hx hb d_La_edition_12 rfl hl (by decide) rfl (fun ls hl => ?_)
    refine lv_iconst (v := 1) hx hb d_La_edition_13 (by decide) ?_
    refine W.widen (k := 1) (n := 6) (Nat.le_of_ble_eq_true rfl) (Nat.le_of_ble_eq_true rfl) ?_
    have hP9 := hP.sub (ws' := [(out, .inl (k 1, 1, .inr (.inl (vp_updL (fun _ => 0) 0 0))))]) [0] rfl
    have hD9 := hD.sub (ws' := [(out, .inl (k 1, 1, .inr (.inl (vp_updL (fun _ => 0) 0 0))))]) [0] (by decide) rfl
    exact W.iret (v := 1) hx hb hr (fun t ht hW => ⟨⟨1, 0, rfl, Or.inr ⟨rfl, hc9⟩, by rw [ht]; exact hP9, va_K.moved hW.alike hK, hD9⟩, hS.F ht⟩) hS.2.2 d_La_edition_14
  · obtain ⟨hP1, hK1, hD1⟩ := hB
    rw [ht] at hP1
    try dsimp only at hw
    obtain ⟨hP, hD⟩ := va_join (wr := [(out, .inl (k 1, 1, .inr (.inl (fun _ => 0))))]) (w1 := []) hP hD [0, 1, 2, 3, 4] [5] rfl rfl (by decide) (by decide) hk1 hFc hP1 hD1
    generalize H1 = H at hP hS ⊢
    have hP : va_P (dC, dI) classes [(out, .inl (k 1, 1, .inr (.inl (fun _ => 0))))] H := hP
    have hD : va_D A [(out, .inl (k 1, 1, .inr (.inl (fun _ => 0))))] := hD
    refine lv_i2l (v := r1.toInt64) hx hb d_La_edition_7 rfl ?_
    refine va_last hx hb hK hP hD hS 0 1 rfl rfl (by unfold vp_in; decide) d_La_edition_8 (fun H locs hP hD hS => ?_)
    have hP : va_P (dC, dI) classes [(out, .inl (k 1, 1, .inr (.inl (vp_updL (fun _ => 0) ((0 : Int32).toNatClampNeg) r1.toInt64))))] H := hP
    have hD : va_D A [(out, .inl (k 1, 1, .inr (.inl (vp_updL (fun _ => 0) ((0 : Int32).toNatClampNeg) r1.toInt64))))] := hD
    have hP : va_P (dC, dI) classes [(out, .inl (k 1, 1, .inr (.inl (vp_updL (fun _ => 0) 0 (r1.toInt64)))))] H := hP
    have hD : va_D A [(out, .inl (k 1, 1, .inr (.inl (vp_updL (fun _ => 0) 0 (r1.toInt64)))))] := hD
    refine lv_goto (tgt := 15) hx hb d_La_edition_9 (by decide) ?_
    refine lv_iconst (v := 0) hx hb d_La_edition_15 (by decide) ?_
    refine W.widen (k := 1) (n := 6) (Nat.le_of_ble_eq_true rfl) (Nat.le_of_ble_eq_true rfl) ?_
    have hP9 := hP.sub (ws' := [(out, .inl (k 1, 1, .inr (.inl (vp_updL (fun _ => 0) 0 (r1.toInt64)))))]) [0] rfl
    have hD9 := hD.sub (ws' := [(out, .inl (k 1, 1, .inr (.inl (vp_updL (fun _ => 0) 0 (r1.toInt64)))))]) [0] (by decide) rfl
    exact W.iret (v := 0) hx hb hr (fun t ht hW => ⟨⟨0, (r1.toInt64), rfl, Or.inl ⟨rfl, hw.2, by rw [hw.1]⟩, by rw [ht]; exact hP9, va_K.moved hW.alike hK, hD9⟩, hS.F ht⟩) hS.2.2 d_La_edition_16
theorem z_rd_none (hi x : Int32) : z_rd (fun _ => none) hi x = none := by
  unfold z_rd
  split
  · rfl
  · split
    · rfl
    · rfl
set_option maxHeartbeats 1000000 in
set_option maxRecDepth 100000 in
theorem c_La_first (l : Launch) (hlt : l.stackTraces = false) (dC : Nat → ClassId) (dI : Nat → Nat → Nat) (k : Nat → ClassId) (sz : Nat) (h0 : Nat) (tr : Nat) (t1 : Nat) (t2 : Nat) (t3 : Nat) (ea : Nat) (ca : Nat) (c1 : Nat) (c2 : Nat) (ed : Nat) (e1 : Nat) (e2 : Nat) (x : Int32) (out : Nat) : Met l y_La_first (Cond.codeWith y_La_first b_La_first 4 (some .int) [((0), (9), (12), (13))] :: z_T) (z_rm 4 1 6) (z_Pc dC dI k sz [.ref h0, .int x, .ref out] [(h0, .inr (0, [.ref tr, .ref ea, .ref ca, .ref ed, .int 0, .int (-1)])), (ed, .inr (3, [.ref e1, .ref e2, .int 0, .long 0, .long 0, .long 0])), (e1, .inl (k 3, 61, .inr (.inr (.inr (.inr (fun _ => none)))))), (e2, .inl (k 4, 10, .inr (.inr (.inr (.inr (fun _ => none)))))), (out, .inl (k 1, 1, .inr (.inl (fun _ => 0))))]) (va_Qi (fun (r : Int32) (u : Int64) => r = 1) (fun (u : Int64) t => z_B dC dI k (va_A [(h0, .inr (0, [.ref tr, .ref ea, .ref ca, .ref ed, .int 0, .int (-1)])), (ed, .inr (3, [.ref e1, .ref e2, .int 0, .long 0, .long 0, .long 0])), (e1, .inl (k 3, 61, .inr (.inr (.inr (.inr (fun _ => none)))))), (e2, .inl (k 4, 10, .inr (.inr (.inr (.inr (fun _ => none)))))), (out, .inl (k 1, 1, .inr (.inl (fun _ => 0))))] sz) [(out, .inl (k 1, 1, .inr (.inl (vp_updL (fun _ => 0) 0 u))))] t) (va_A [(h0, .inr (0, [.ref tr, .ref ea, .ref ca, .ref ed, .int 0, .int (-1)])), (ed, .inr (3, [.ref e1, .ref e2, .int 0, .long 0, .long 0, .long 0])), (e1, .inl (k 3, 61, .inr (.inr (.inr (.inr (fun _ => none)))))), (e2, .inl (k 4, 10, .inr (.inr (.inr (.inr (fun _ => none)))))), (out, .inl (k 1, 1, .inr (.inl (fun _ => 0))))] sz)) 1 6 (va_A [(h0, .inr (0, [.ref tr, .ref ea, .ref ca, .ref ed, .int 0, .int (-1)])), (ed, .inr (3, [.ref e1, .ref e2, .int 0, .long 0, .long 0, .long 0])), (e1, .inl (k 3, 61, .inr (.inr (.inr (.inr (fun _ => none)))))), (e2, .inl (k 4, 10, .inr (.inr (.inr (.inr (fun _ => none)))))), (out, .inl (k 1, 1, .inr (.inl (fun _ => 0))))] sz) := by
  refine va_MetW (cc := b_La_first) (maxL := 4) (ret := (some .int)) (by decide) rfl ?_
  intro p e s m args below meth c s₁ B hml hv
  obtain ⟨rfl, hsz, hE, hP, hK, hD0⟩ := hv
  have hx := B.exec
  have hb := B.bytes
  have hr := B.returns
  have hts := atoms_spec (ws := Cond.codeWith y_La_first b_La_first 4 (some .int) [((0), (9), (12), (13))] :: z_T) B.pre
  have htz : ∀ w ∈ z_T, w.before _ s = true := fun w h => hts w (z_cons w h)
  have hown : s.vm.findClass "QuestionTextLaw" = some m.cls := findClass_of_methodNamed B.named
  have hlocks := B.notSynchronized
  subst hsz
  have hD := hD0.self (sz := s.heap.size)
  generalize hAe : va_A [(h0, .inr (0, [.ref tr, .ref ea, .ref ca, .ref ed, .int 0, .int (-1)])), (ed, .inr (3, [.ref e1, .ref e2, .int 0, .long 0, .long 0, .long 0])), (e1, .inl (k 3, 61, .inr (.inr (.inr (.inr (fun _ => none)))))), (e2, .inl (k 4, 10, .inr (.inr (.inr (.inr (fun _ => none)))))), (out, .inl (k 1, 1, .inr (.inl (fun _ => 0))))] s.heap.size = A at hD hE ⊢
  have hA : ∀ q : Nat, s.heap.size ≤ q → A q := fun q h => by rw [← hAe]; exact Or.inr h
  have hS : va_S A s.heap s.heap [] := va_S.rf
  have hP : va_P (dC, dI) classes [(h0, .inr (0, [.ref tr, .ref ea, .ref ca, .ref ed, .int 0, .int (-1)])), (ed, .inr (3, [.ref e1, .ref e2, .int 0, .long 0, .long 0, .long 0])), (e1, .inl (k 3, 61, .inr (.inr (.inr (.inr (fun _ => none)))))), (e2, .inl (k 4, 10, .inr (.inr (.inr (.inr (fun _ => none)))))), (out, .inl (k 1, 1, .inr (.inl (fun _ => 0))))] s.heap := hP
  have hl := lv_entry ([.ref h0, .int x, .ref out]) (n := 4) (Nat.le_of_ble_eq_true rfl)
  rw [lg_entry_eq]
  generalize (lg_sl ([.ref h0, .int x, .ref out]) ++ List.replicate (4 - (lg_sl ([.ref h0, .int x, .ref out])).length) Slot.unset).toArray = ls at hl ⊢
  have hl : lv_has ls 4 [(0, .ref h0), (1, .int x), (2, .ref out)] := hl
  have hTab := vx_table (x := y_La_first) B (htz _ m_La_first)
  refine lv_aload_n hx hb d_La_first_0 rfl (lv_at hl 2 rfl) ?_
  refine lv_iconst (v := 0) hx hb d_La_first_1 (by decide) ?_
  refine lv_aload_n hx hb d_La_first_2 rfl (lv_at hl 0 rfl) ?_
  refine lv_iload_n hx hb d_La_first_3 rfl (lv_at hl 1 rfl) ?_
  have hPc := hP.sub (ws' := [(h0, .inr (0, [.ref tr, .ref ea, .ref ca, .ref ed, .int 0, .int (-1)])), (ed, .inr (3, [.ref e1, .ref e2, .int 0, .long 0, .long 0, .long 0])), (e1, .inl (k 3, 61, .inr (.inr (.inr (.inr (fun _ => none)))))), (e2, .inl (k 4, 10, .inr (.inr (.inr (.inr (fun _ => none))))))]) [0, 1, 2, 3] rfl
  have hDc := hD.sub (ws' := [(h0, .inr (0, [.ref tr, .ref ea, .ref ca, .ref ed, .int 0, .int (-1)])), (ed, .inr (3, [.ref e1, .ref e2, .int 0, .long 0, .long 0, .long 0])), (e1, .inl (k 3, 61, .inr (.inr (.inr (.inr (fun _ => none)))))), (e2, .inl (k 4, 10, .inr (.inr (.inr (.inr (fun _ => none))))))]) [0, 1, 2, 3] (by decide) rfl
  have hFc := va_free (wc := [(h0, .inr (0, [.ref tr, .ref ea, .ref ca, .ref ed, .int 0, .int (-1)])), (ed, .inr (3, [.ref e1, .ref e2, .int 0, .long 0, .long 0, .long 0])), (e1, .inl (k 3, 61, .inr (.inr (.inr (.inr (fun _ => none)))))), (e2, .inl (k 4, 10, .inr (.inr (.inr (.inr (fun _ => none))))))]) hD hS hA [0, 1, 2, 3] rfl
  refine vx_calli (vx_runV (As := [.int x]) (rest := [.int 0, .ref out]) ⟨hx, hb, hml, hown, htz⟩ (c_Q_first_none l hlt dC dI k s.heap.size h0 tr ea ca 0 (-1) ed e1 e2 0 0 0 0 (fun _ => none) (fun _ => none) x (z_rd_none _ _)) (cwV 1 htz (z_gV (fun _ h => h) km_La_25 in_Q_first se_Q_first ini_Q m_Q_first) rfl rfl rfl (by decide +kernel) ⟨(Nat.le_of_ble_eq_true rfl), (Nat.le_of_ble_eq_true rfl)⟩) ⟨z_blind, va_recv hK hPc (ci := 0) (q0 := 0) rfl rfl, fun U hU hW => ⟨rfl, by rw [hU], hE.call hS hFc hU hW, by rw [hU]; exact hPc, va_K.moved hW.alike hK, hDc.weaken (fun _ _ _ _ => trivial)⟩⟩ rfl rfl hl.1 rfl (lv_room (Nat.le_of_ble_eq_true rfl)) d_La_first_4 ⟨(Nat.le_of_ble_eq_true rfl), (Nat.le_of_ble_eq_true rfl)⟩) hS (fun q _ h => hFc q h) hFc (fun q _ h => hFc q h) (fun E ce q9 u t H1 locs ht hvm hw hB hz1 hk1 hS hce hcv hcl => ?_) (fun r1 u t H1 locs ht hvm hw hB hz1 hk1 hS => ?_)
  · obtain ⟨hxe, hP1, hK1, hD1⟩ := hB
    rw [ht] at hP1
    obtain ⟨hP, hD⟩ := va_join (wr := [(out, .inl (k 1, 1, .inr (.inl (fun _ => 0))))]) (w1 := [(h0, .inr (0, [.ref tr, .ref ea, .ref ca, .ref ed, .int 0, .int (-1)])), (ed, .inr (3, [.ref e1, .ref e2, .int 0, .long 0, .long 0, .long 0])), (e1, .inl (k 3, 61, .inr (.inr (.inr (.inr (fun _ => none)))))), (e2, .inl (k 4, 10, .inr (.inr (.inr (.inr (fun _ => none))))))]) hP hD [0, 1, 2, 3] [4] rfl rfl (by decide) (by decide) hk1 hFc hP1 hD1
    generalize H1 = H at hP hS hce ⊢
    have hP : va_P (dC, dI) classes [(out, .inl (k 1, 1, .inr (.inl (fun _ => 0)))), (h0, .inr (0, [.ref tr, .ref ea, .ref ca, .ref ed, .int 0, .int (-1)])), (ed, .inr (3, [.ref e1, .ref e2, .int 0, .long 0, .long 0, .long 0])), (e1, .inl (k 3, 61, .inr (.inr (.inr (.inr (fun _ => none)))))), (e2, .inl (k 4, 10, .inr (.inr (.inr (.inr (fun _ => none))))))] H := hP
    have hD : va_D A [(out, .inl (k 1, 1, .inr (.inl (fun _ => 0)))), (h0, .inr (0, [.ref tr, .ref ea, .ref ca, .ref ed, .int 0, .int (-1)])), (ed, .inr (3, [.ref e1, .ref e2, .int 0, .long 0, .long 0, .long 0])), (e1, .inl (k 3, 61, .inr (.inr (.inr (.inr (fun _ => none)))))), (e2, .inl (k 4, 10, .inr (.inr (.inr (.inr (fun _ => none))))))] := hD
    rw [← z_upl 0] at hP hD
    have hP : va_P (dC, dI) classes [(out, .inl (k 1, 1, .inr (.inl (vp_updL (fun _ => 0) 0 0)))), (h0, .inr (0, [.ref tr, .ref ea, .ref ca, .ref ed, .int 0, .int (-1)])), (ed, .inr (3, [.ref e1, .ref e2, .int 0, .long 0, .long 0, .long 0])), (e1, .inl (k 3, 61, .inr (.inr (.inr (.inr (fun _ => none)))))), (e2, .inl (k 4, 10, .inr (.inr (.inr (.inr (fun _ => none))))))] H := hP
    have hD : va_D A [(out, .inl (k 1, 1, .inr (.inl (vp_updL (fun _ => 0) 0 0)))), (h0, .inr (0, [.ref tr, .ref ea, .ref ca, .ref ed, .int 0, .int (-1)])), (ed, .inr (3, [.ref e1, .ref e2, .int 0, .long 0, .long 0, .long 0])), (e1, .inl (k 3, 61, .inr (.inr (.inr (.inr (fun _ => none)))))), (e2, .inl (k 4, 10, .inr (.inr (.inr (.inr (fun _ => none))))))] := hD
    obtain rfl := hxe
    refine vx_catch hown [] ⟨0, 9, 12, 13⟩ [] hTab (fun z hz => nomatch hz) (by decide) (by decide) (htz _ kc_La_13) (va_Nw.use rfl (hE.1 _ ca_IAE)) hce hcv hcl ?_
    refine lv_astore_n (lv' := [(3, .ref q9), (0, .ref h0), (1, .int x), (2, .ref out)]) hx hb d_La_first_12 rfl hl (by decide) rfl (fun ls hl => ?_)
    refine lv_iconst (v := 1) hx hb d_La_first_13 (by decide) ?_
    refine W.widen (k := 1) (n := 6) (Nat.le_of_ble_eq_true rfl) (Nat.le_of_ble_eq_true rfl) ?_
    have hP9 := hP.sub (ws' := [(out, .inl (k 1, 1, .inr (.inl (vp_updL (fun _ => 0) 0 0))))]) [0] rfl
    have hD9 := hD.sub (ws' := [(out, .inl (k 1, 1, .inr (.inl (vp_updL (fun _ => 0) 0 0))))]) [0] (by decide) rfl
    exact W.iret (v := 1) hx hb hr (fun t ht hW => ⟨⟨1, 0, rfl, rfl, by rw [ht]; exact hP9, va_K.moved hW.alike hK, hD9⟩, hS.F ht⟩) hS.2.2 d_La_first_14
  · exact hw.elim
set_option maxHeartbeats 1000000 in
set_option maxRecDepth 100000 in
theorem c_La_answer (l : Launch) (hlt : l.stackTraces = false) (dC : Nat → ClassId) (dI : Nat → Nat → Nat) (k : Nat → ClassId) (sz : Nat) (h0 : Nat) (tr : Nat) (t1 : Nat) (t2 : Nat) (t3 : Nat) (ea : Nat) (ca : Nat) (c1 : Nat) (c2 : Nat) (ed : Nat) (e1 : Nat) (e2 : Nat) (x : Int32) (out : Nat) : Met l y_La_answer (Cond.codeWith y_La_answer b_La_answer 4 (some .int) [((0), (9), (12), (13)), ((0), (9), (15), (15))] :: z_T) (z_rm 4 1 6) (z_Pc dC dI k sz [.ref h0, .int x, .ref out] [(h0, .inr (0, [.ref tr, .ref ea, .ref ca, .ref ed, .int 0, .int (-1)])), (ca, .inr (2, [.ref c1, .ref c2, .int 0, .int 0, .int 0, .int 0])), (ed, .inr (3, [.ref e1, .ref e2, .int 0, .long 0, .long 0, .long 0])), (e1, .inl (k 3, 61, .inr (.inr (.inr (.inr (fun _ => none)))))), (e2, .inl (k 4, 10, .inr (.inr (.inr (.inr (fun _ => none)))))), (out, .inl (k 1, 1, .inr (.inl (fun _ => 0))))]) (va_Qi (fun (r : Int32) (u : Int64) => r = 2) (fun (u : Int64) t => z_B dC dI k (va_A [(h0, .inr (0, [.ref tr, .ref ea, .ref ca, .ref ed, .int 0, .int (-1)])), (ca, .inr (2, [.ref c1, .ref c2, .int 0, .int 0, .int 0, .int 0])), (ed, .inr (3, [.ref e1, .ref e2, .int 0, .long 0, .long 0, .long 0])), (e1, .inl (k 3, 61, .inr (.inr (.inr (.inr (fun _ => none)))))), (e2, .inl (k 4, 10, .inr (.inr (.inr (.inr (fun _ => none)))))), (out, .inl (k 1, 1, .inr (.inl (fun _ => 0))))] sz) [(out, .inl (k 1, 1, .inr (.inl (vp_updL (fun _ => 0) 0 u))))] t) (va_A [(h0, .inr (0, [.ref tr, .ref ea, .ref ca, .ref ed, .int 0, .int (-1)])), (ca, .inr (2, [.ref c1, .ref c2, .int 0, .int 0, .int 0, .int 0])), (ed, .inr (3, [.ref e1, .ref e2, .int 0, .long 0, .long 0, .long 0])), (e1, .inl (k 3, 61, .inr (.inr (.inr (.inr (fun _ => none)))))), (e2, .inl (k 4, 10, .inr (.inr (.inr (.inr (fun _ => none)))))), (out, .inl (k 1, 1, .inr (.inl (fun _ => 0))))] sz)) 1 6 (va_A [(h0, .inr (0, [.ref tr, .ref ea, .ref ca, .ref ed, .int 0, .int (-1)])), (ca, .inr (2, [.ref c1, .ref c2, .int 0, .int 0, .int 0, .int 0])), (ed, .inr (3, [.ref e1, .ref e2, .int 0, .long 0, .long 0, .long 0])), (e1, .inl (k 3, 61, .inr (.inr (.inr (.inr (fun _ => none)))))), (e2, .inl (k 4, 10, .inr (.inr (.inr (.inr (fun _ => none)))))), (out, .inl (k 1, 1, .inr (.inl (fun _ => 0))))] sz) := by
  refine va_MetW (cc := b_La_answer) (maxL := 4) (ret := (some .int)) (by decide) rfl ?_
  intro p e s m args below meth c s₁ B hml hv
  obtain ⟨rfl, hsz, hE, hP, hK, hD0⟩ := hv
  have hx := B.exec
  have hb := B.bytes
  have hr := B.returns
  have hts := atoms_spec (ws := Cond.codeWith y_La_answer b_La_answer 4 (some .int) [((0), (9), (12), (13)), ((0), (9), (15), (15))] :: z_T) B.pre
  have htz : ∀ w ∈ z_T, w.before _ s = true := fun w h => hts w (z_cons w h)
  have hown : s.vm.findClass "QuestionTextLaw" = some m.cls := findClass_of_methodNamed B.named
  have hlocks := B.notSynchronized
  subst hsz
  have hD := hD0.self (sz := s.heap.size)
  generalize hAe : va_A [(h0, .inr (0, [.ref tr, .ref ea, .ref ca, .ref ed, .int 0, .int (-1)])), (ca, .inr (2, [.ref c1, .ref c2, .int 0, .int 0, .int 0, .int 0])), (ed, .inr (3, [.ref e1, .ref e2, .int 0, .long 0, .long 0, .long 0])), (e1, .inl (k 3, 61, .inr (.inr (.inr (.inr (fun _ => none)))))), (e2, .inl (k 4, 10, .inr (.inr (.inr (.inr (fun _ => none)))))), (out, .inl (k 1, 1, .inr (.inl (fun _ => 0))))] s.heap.size = A at hD hE ⊢
  have hA : ∀ q : Nat, s.heap.size ≤ q → A q := fun q h => by rw [← hAe]; exact Or.inr h
  have hS : va_S A s.heap s.heap [] := va_S.rf
  have hP : va_P (dC, dI) classes [(h0, .inr (0, [.ref tr, .ref ea, .ref ca, .ref ed, .int 0, .int (-1)])), (ca, .inr (2, [.ref c1, .ref c2, .int 0, .int 0, .int 0, .int 0])), (ed, .inr (3, [.ref e1, .ref e2, .int 0, .long 0, .long 0, .long 0])), (e1, .inl (k 3, 61, .inr (.inr (.inr (.inr (fun _ => none)))))), (e2, .inl (k 4, 10, .inr (.inr (.inr (.inr (fun _ => none)))))), (out, .inl (k 1, 1, .inr (.inl (fun _ => 0))))] s.heap := hP
  have hl := lv_entry ([.ref h0, .int x, .ref out]) (n := 4) (Nat.le_of_ble_eq_true rfl)
  rw [lg_entry_eq]
  generalize (lg_sl ([.ref h0, .int x, .ref out]) ++ List.replicate (4 - (lg_sl ([.ref h0, .int x, .ref out])).length) Slot.unset).toArray = ls at hl ⊢
  have hl : lv_has ls 4 [(0, .ref h0), (1, .int x), (2, .ref out)] := hl
  have hTab := vx_table (x := y_La_answer) B (htz _ m_La_answer)
  refine lv_aload_n hx hb d_La_answer_0 rfl (lv_at hl 2 rfl) ?_
  refine lv_iconst (v := 0) hx hb d_La_answer_1 (by decide) ?_
  refine lv_aload_n hx hb d_La_answer_2 rfl (lv_at hl 0 rfl) ?_
  refine lv_iload_n hx hb d_La_answer_3 rfl (lv_at hl 1 rfl) ?_
  have hPc := hP.sub (ws' := [(h0, .inr (0, [.ref tr, .ref ea, .ref ca, .ref ed, .int 0, .int (-1)])), (ed, .inr (3, [.ref e1, .ref e2, .int 0, .long 0, .long 0, .long 0])), (e1, .inl (k 3, 61, .inr (.inr (.inr (.inr (fun _ => none)))))), (e2, .inl (k 4, 10, .inr (.inr (.inr (.inr (fun _ => none)))))), (ca, .inr (2, [.ref c1, .ref c2, .int 0, .int 0, .int 0, .int 0]))]) [0, 2, 3, 4, 1] rfl
  have hDc := hD.sub (ws' := [(h0, .inr (0, [.ref tr, .ref ea, .ref ca, .ref ed, .int 0, .int (-1)])), (ed, .inr (3, [.ref e1, .ref e2, .int 0, .long 0, .long 0, .long 0])), (e1, .inl (k 3, 61, .inr (.inr (.inr (.inr (fun _ => none)))))), (e2, .inl (k 4, 10, .inr (.inr (.inr (.inr (fun _ => none)))))), (ca, .inr (2, [.ref c1, .ref c2, .int 0, .int 0, .int 0, .int 0]))]) [0, 2, 3, 4, 1] (by decide) rfl
  have hFc := va_free (wc := [(h0, .inr (0, [.ref tr, .ref ea, .ref ca, .ref ed, .int 0, .int (-1)])), (ed, .inr (3, [.ref e1, .ref e2, .int 0, .long 0, .long 0, .long 0])), (e1, .inl (k 3, 61, .inr (.inr (.inr (.inr (fun _ => none)))))), (e2, .inl (k 4, 10, .inr (.inr (.inr (.inr (fun _ => none)))))), (ca, .inr (2, [.ref c1, .ref c2, .int 0, .int 0, .int 0, .int 0]))]) hD hS hA [0, 2, 3, 4, 1] rfl
  refine vx_calli (vx_runV (As := [.int x]) (rest := [.int 0, .ref out]) ⟨hx, hb, hml, hown, htz⟩ (c_Q_answer_none l hlt dC dI k s.heap.size h0 tr ea ca 0 (-1) ed e1 e2 0 0 0 0 (fun _ => none) (fun _ => none) c1 c2 0 0 0 0 x (z_rd_none _ _)) (cwV 1 htz (z_gV (fun _ h => h) km_La_28 in_Q_answer se_Q_answer ini_Q m_Q_answer) rfl rfl rfl (by decide +kernel) ⟨(Nat.le_of_ble_eq_true rfl), (Nat.le_of_ble_eq_true rfl)⟩) ⟨z_blind, va_recv hK hPc (ci := 0) (q0 := 0) rfl rfl, fun U hU hW => ⟨rfl, by rw [hU], hE.call hS hFc hU hW, by rw [hU]; exact hPc, va_K.moved hW.alike hK, hDc.weaken (fun _ _ _ _ => trivial)⟩⟩ rfl rfl hl.1 rfl (lv_room (Nat.le_of_ble_eq_true rfl)) d_La_answer_4 ⟨(Nat.le_of_ble_eq_true rfl), (Nat.le_of_ble_eq_true rfl)⟩) hS (fun q _ h => hFc q h) hFc (fun q _ h => hFc q h) (fun E ce q9 u t H1 locs ht hvm hw hB hz1 hk1 hS hce hcv hcl => ?_) (fun r1 u t H1 locs ht hvm hw hB hz1 hk1 hS => ?_)
  · obtain ⟨hxe, hP1, hK1, hD1⟩ := hB
    rw [ht] at hP1
    obtain ⟨hP, hD⟩ := va_join (wr := [(out, .inl (k 1, 1, .inr (.inl (fun _ => 0))))]) (w1 := [(h0, .inr (0, [.ref tr, .ref ea, .ref ca, .ref ed, .int 0, .int (-1)])), (ed, .inr (3, [.ref e1, .ref e2, .int 0, .long 0, .long 0, .long 0])), (e1, .inl (k 3, 61, .inr (.inr (.inr (.inr (fun _ => none)))))), (e2, .inl (k 4, 10, .inr (.inr (.inr (.inr (fun _ => none)))))), (ca, .inr (2, [.ref c1, .ref c2, .int 0, .int 0, .int 0, .int 0]))]) hP hD [0, 2, 3, 4, 1] [5] rfl rfl (by decide) (by decide) hk1 hFc hP1 hD1
    generalize H1 = H at hP hS hce ⊢
    have hP : va_P (dC, dI) classes [(out, .inl (k 1, 1, .inr (.inl (fun _ => 0)))), (h0, .inr (0, [.ref tr, .ref ea, .ref ca, .ref ed, .int 0, .int (-1)])), (ed, .inr (3, [.ref e1, .ref e2, .int 0, .long 0, .long 0, .long 0])), (e1, .inl (k 3, 61, .inr (.inr (.inr (.inr (fun _ => none)))))), (e2, .inl (k 4, 10, .inr (.inr (.inr (.inr (fun _ => none)))))), (ca, .inr (2, [.ref c1, .ref c2, .int 0, .int 0, .int 0, .int 0]))] H := hP
    have hD : va_D A [(out, .inl (k 1, 1, .inr (.inl (fun _ => 0)))), (h0, .inr (0, [.ref tr, .ref ea, .ref ca, .ref ed, .int 0, .int (-1)])), (ed, .inr (3, [.ref e1, .ref e2, .int 0, .long 0, .long 0, .long 0])), (e1, .inl (k 3, 61, .inr (.inr (.inr (.inr (fun _ => none)))))), (e2, .inl (k 4, 10, .inr (.inr (.inr (.inr (fun _ => none)))))), (ca, .inr (2, [.ref c1, .ref c2, .int 0, .int 0, .int 0, .int 0]))] := hD
    rw [← z_upl 0] at hP hD
    have hP : va_P (dC, dI) classes [(out, .inl (k 1, 1, .inr (.inl (vp_updL (fun _ => 0) 0 0)))), (h0, .inr (0, [.ref tr, .ref ea, .ref ca, .ref ed, .int 0, .int (-1)])), (ed, .inr (3, [.ref e1, .ref e2, .int 0, .long 0, .long 0, .long 0])), (e1, .inl (k 3, 61, .inr (.inr (.inr (.inr (fun _ => none)))))), (e2, .inl (k 4, 10, .inr (.inr (.inr (.inr (fun _ => none)))))), (ca, .inr (2, [.ref c1, .ref c2, .int 0, .int 0, .int 0, .int 0]))] H := hP
    have hD : va_D A [(out, .inl (k 1, 1, .inr (.inl (vp_updL (fun _ => 0) 0 0)))), (h0, .inr (0, [.ref tr, .ref ea, .ref ca, .ref ed, .int 0, .int (-1)])), (ed, .inr (3, [.ref e1, .ref e2, .int 0, .long 0, .long 0, .long 0])), (e1, .inl (k 3, 61, .inr (.inr (.inr (.inr (fun _ => none)))))), (e2, .inl (k 4, 10, .inr (.inr (.inr (.inr (fun _ => none)))))), (ca, .inr (2, [.ref c1, .ref c2, .int 0, .int 0, .int 0, .int 0]))] := hD
    obtain rfl := hxe
    refine vx_catch hown [⟨0, 9, 12, 13⟩] ⟨0, 9, 15, 15⟩ [] hTab (fun z hz => by rw [List.mem_singleton.mp hz]; exact Or.inr ⟨by decide, _, htz _ kc_La_13, hE.2.2.2.2.2⟩) (by decide) (by decide) (htz _ kc_La_15) (va_Nw.use rfl (hE.1 _ ca_ISE)) hce hcv hcl ?_
    refine lv_astore_n (lv' := [(3, .ref q9), (0, .ref h0), (1, .int x), (2, .ref out)]) hx hb d_La_answer_15 rfl hl (by decide) rfl (fun ls hl => ?_)
    refine lv_iconst (v := 2) hx hb d_La_answer_16 (by decide) ?_
    refine W.widen (k := 1) (n := 6) (Nat.le_of_ble_eq_true rfl) (Nat.le_of_ble_eq_true rfl) ?_
    have hP9 := hP.sub (ws' := [(out, .inl (k 1, 1, .inr (.inl (vp_updL (fun _ => 0) 0 0))))]) [0] rfl
    have hD9 := hD.sub (ws' := [(out, .inl (k 1, 1, .inr (.inl (vp_updL (fun _ => 0) 0 0))))]) [0] (by decide) rfl
    exact W.iret (v := 2) hx hb hr (fun t ht hW => ⟨⟨2, 0, rfl, rfl, by rw [ht]; exact hP9, va_K.moved hW.alike hK, hD9⟩, hS.F ht⟩) hS.2.2 d_La_answer_17
  · exact hw.elim
set_option maxHeartbeats 1000000 in
set_option maxRecDepth 100000 in
theorem c_La_priority (l : Launch) (hlt : l.stackTraces = false) (dC : Nat → ClassId) (dI : Nat → Nat → Nat) (k : Nat → ClassId) (sz : Nat) (h0 : Nat) (tr : Nat) (t1 : Nat) (t2 : Nat) (t3 : Nat) (ea : Nat) (ca : Nat) (c1 : Nat) (c2 : Nat) (ed : Nat) (e1 : Nat) (e2 : Nat) (out : Nat) : Met l y_La_priority (Cond.codeWith y_La_priority b_La_priority 3 (some .int) [((0), (8), (11), (15))] :: z_T) (z_rm 4 1 6) (z_Pc dC dI k sz [.ref h0, .ref out] [(h0, .inr (0, [.ref tr, .ref ea, .ref ca, .ref ed, .int 0, .int (-1)])), (ca, .inr (2, [.ref c1, .ref c2, .int 0, .int 0, .int 0, .int 0])), (ed, .inr (3, [.ref e1, .ref e2, .int 0, .long 0, .long 0, .long 0])), (e1, .inl (k 3, 61, .inr (.inr (.inr (.inr (fun _ => none)))))), (e2, .inl (k 4, 10, .inr (.inr (.inr (.inr (fun _ => none)))))), (out, .inl (k 1, 1, .inr (.inl (fun _ => 0))))]) (va_Qi (fun (r : Int32) (u : Int64) => r = 1) (fun (u : Int64) t => z_B dC dI k (va_A [(h0, .inr (0, [.ref tr, .ref ea, .ref ca, .ref ed, .int 0, .int (-1)])), (ca, .inr (2, [.ref c1, .ref c2, .int 0, .int 0, .int 0, .int 0])), (ed, .inr (3, [.ref e1, .ref e2, .int 0, .long 0, .long 0, .long 0])), (e1, .inl (k 3, 61, .inr (.inr (.inr (.inr (fun _ => none)))))), (e2, .inl (k 4, 10, .inr (.inr (.inr (.inr (fun _ => none)))))), (out, .inl (k 1, 1, .inr (.inl (fun _ => 0))))] sz) [(out, .inl (k 1, 1, .inr (.inl (vp_updL (fun _ => 0) 0 u))))] t) (va_A [(h0, .inr (0, [.ref tr, .ref ea, .ref ca, .ref ed, .int 0, .int (-1)])), (ca, .inr (2, [.ref c1, .ref c2, .int 0, .int 0, .int 0, .int 0])), (ed, .inr (3, [.ref e1, .ref e2, .int 0, .long 0, .long 0, .long 0])), (e1, .inl (k 3, 61, .inr (.inr (.inr (.inr (fun _ => none)))))), (e2, .inl (k 4, 10, .inr (.inr (.inr (.inr (fun _ => none)))))), (out, .inl (k 1, 1, .inr (.inl (fun _ => 0))))] sz)) 1 6 (va_A [(h0, .inr (0, [.ref tr, .ref ea, .ref ca, .ref ed, .int 0, .int (-1)])), (ca, .inr (2, [.ref c1, .ref c2, .int 0, .int 0, .int 0, .int 0])), (ed, .inr (3, [.ref e1, .ref e2, .int 0, .long 0, .long 0, .long 0])), (e1, .inl (k 3, 61, .inr (.inr (.inr (.inr (fun _ => none)))))), (e2, .inl (k 4, 10, .inr (.inr (.inr (.inr (fun _ => none)))))), (out, .inl (k 1, 1, .inr (.inl (fun _ => 0))))] sz) := by
  refine va_MetW (cc := b_La_priority) (maxL := 3) (ret := (some .int)) (by decide) rfl ?_
  intro p e s m args below meth c s₁ B hml hv
  obtain ⟨rfl, hsz, hE, hP, hK, hD0⟩ := hv
  have hx := B.exec
  have hb := B.bytes
  have hr := B.returns
  have hts := atoms_spec (ws := Cond.codeWith y_La_priority b_La_priority 3 (some .int) [((0), (8), (11), (15))] :: z_T) B.pre
  have htz : ∀ w ∈ z_T, w.before _ s = true := fun w h => hts w (z_cons w h)
  have hown : s.vm.findClass "QuestionTextLaw" = some m.cls := findClass_of_methodNamed B.named
  have hlocks := B.notSynchronized
  subst hsz
  have hD := hD0.self (sz := s.heap.size)
  generalize hAe : va_A [(h0, .inr (0, [.ref tr, .ref ea, .ref ca, .ref ed, .int 0, .int (-1)])), (ca, .inr (2, [.ref c1, .ref c2, .int 0, .int 0, .int 0, .int 0])), (ed, .inr (3, [.ref e1, .ref e2, .int 0, .long 0, .long 0, .long 0])), (e1, .inl (k 3, 61, .inr (.inr (.inr (.inr (fun _ => none)))))), (e2, .inl (k 4, 10, .inr (.inr (.inr (.inr (fun _ => none)))))), (out, .inl (k 1, 1, .inr (.inl (fun _ => 0))))] s.heap.size = A at hD hE ⊢
  have hA : ∀ q : Nat, s.heap.size ≤ q → A q := fun q h => by rw [← hAe]; exact Or.inr h
  have hS : va_S A s.heap s.heap [] := va_S.rf
  have hP : va_P (dC, dI) classes [(h0, .inr (0, [.ref tr, .ref ea, .ref ca, .ref ed, .int 0, .int (-1)])), (ca, .inr (2, [.ref c1, .ref c2, .int 0, .int 0, .int 0, .int 0])), (ed, .inr (3, [.ref e1, .ref e2, .int 0, .long 0, .long 0, .long 0])), (e1, .inl (k 3, 61, .inr (.inr (.inr (.inr (fun _ => none)))))), (e2, .inl (k 4, 10, .inr (.inr (.inr (.inr (fun _ => none)))))), (out, .inl (k 1, 1, .inr (.inl (fun _ => 0))))] s.heap := hP
  have hl := lv_entry ([.ref h0, .ref out]) (n := 3) (Nat.le_of_ble_eq_true rfl)
  rw [lg_entry_eq]
  generalize (lg_sl ([.ref h0, .ref out]) ++ List.replicate (3 - (lg_sl ([.ref h0, .ref out])).length) Slot.unset).toArray = ls at hl ⊢
  have hl : lv_has ls 3 [(0, .ref h0), (1, .ref out)] := hl
  have hTab := vx_table (x := y_La_priority) B (htz _ m_La_priority)
  refine lv_aload_n hx hb d_La_priority_0 rfl (lv_at hl 1 rfl) ?_
  refine lv_iconst (v := 0) hx hb d_La_priority_1 (by decide) ?_
  refine lv_aload_n hx hb d_La_priority_2 rfl (lv_at hl 0 rfl) ?_
  have hPc := hP.sub (ws' := [(h0, .inr (0, [.ref tr, .ref ea, .ref ca, .ref ed, .int 0, .int (-1)])), (ed, .inr (3, [.ref e1, .ref e2, .int 0, .long 0, .long 0, .long 0])), (e1, .inl (k 3, 61, .inr (.inr (.inr (.inr (fun _ => none)))))), (e2, .inl (k 4, 10, .inr (.inr (.inr (.inr (fun _ => none)))))), (ca, .inr (2, [.ref c1, .ref c2, .int 0, .int 0, .int 0, .int 0]))]) [0, 2, 3, 4, 1] rfl
  have hDc := hD.sub (ws' := [(h0, .inr (0, [.ref tr, .ref ea, .ref ca, .ref ed, .int 0, .int (-1)])), (ed, .inr (3, [.ref e1, .ref e2, .int 0, .long 0, .long 0, .long 0])), (e1, .inl (k 3, 61, .inr (.inr (.inr (.inr (fun _ => none)))))), (e2, .inl (k 4, 10, .inr (.inr (.inr (.inr (fun _ => none)))))), (ca, .inr (2, [.ref c1, .ref c2, .int 0, .int 0, .int 0, .int 0]))]) [0, 2, 3, 4, 1] (by decide) rfl
  have hFc := va_free (wc := [(h0, .inr (0, [.ref tr, .ref ea, .ref ca, .ref ed, .int 0, .int (-1)])), (ed, .inr (3, [.ref e1, .ref e2, .int 0, .long 0, .long 0, .long 0])), (e1, .inl (k 3, 61, .inr (.inr (.inr (.inr (fun _ => none)))))), (e2, .inl (k 4, 10, .inr (.inr (.inr (.inr (fun _ => none)))))), (ca, .inr (2, [.ref c1, .ref c2, .int 0, .int 0, .int 0, .int 0]))]) hD hS hA [0, 2, 3, 4, 1] rfl
  refine vx_calli (vx_runV (As := []) (rest := [.int 0, .ref out]) ⟨hx, hb, hml, hown, htz⟩ (c_Q_priority_none l hlt dC dI k s.heap.size h0 tr ea ca 0 (-1) ed e1 e2 0 0 0 0 (fun _ => none) (fun _ => none) c1 c2 0 0 0 0 (z_rd_none _ _)) (cwV 0 htz (z_gV (fun _ h => h) km_La_31 in_Q_priority se_Q_priority ini_Q m_Q_priority) rfl rfl rfl (by decide +kernel) ⟨(Nat.le_of_ble_eq_true rfl), (Nat.le_of_ble_eq_true rfl)⟩) ⟨z_blind, va_recv hK hPc (ci := 0) (q0 := 0) rfl rfl, fun U hU hW => ⟨rfl, by rw [hU], hE.call hS hFc hU hW, by rw [hU]; exact hPc, va_K.moved hW.alike hK, hDc.weaken (fun _ _ _ _ => trivial)⟩⟩ rfl rfl hl.1 rfl (lv_room (Nat.le_of_ble_eq_true rfl)) d_La_priority_3 ⟨(Nat.le_of_ble_eq_true rfl), (Nat.le_of_ble_eq_true rfl)⟩) hS (fun q _ h => hFc q h) hFc (fun q _ h => hFc q h) (fun E ce q9 u t H1 locs ht hvm hw hB hz1 hk1 hS hce hcv hcl => ?_) (fun r1 u t H1 locs ht hvm hw hB hz1 hk1 hS => ?_)
  · obtain ⟨hxe, hP1, hK1, hD1⟩ := hB
    rw [ht] at hP1
    obtain ⟨hP, hD⟩ := va_join (wr := [(out, .inl (k 1, 1, .inr (.inl (fun _ => 0))))]) (w1 := [(h0, .inr (0, [.ref tr, .ref ea, .ref ca, .ref ed, .int 0, .int (-1)])), (ed, .inr (3, [.ref e1, .ref e2, .int 0, .long 0, .long 0, .long 0])), (e1, .inl (k 3, 61, .inr (.inr (.inr (.inr (fun _ => none)))))), (e2, .inl (k 4, 10, .inr (.inr (.inr (.inr (fun _ => none)))))), (ca, .inr (2, [.ref c1, .ref c2, .int 0, .int 0, .int 0, .int 0]))]) hP hD [0, 2, 3, 4, 1] [5] rfl rfl (by decide) (by decide) hk1 hFc hP1 hD1
    generalize H1 = H at hP hS hce ⊢
    have hP : va_P (dC, dI) classes [(out, .inl (k 1, 1, .inr (.inl (fun _ => 0)))), (h0, .inr (0, [.ref tr, .ref ea, .ref ca, .ref ed, .int 0, .int (-1)])), (ed, .inr (3, [.ref e1, .ref e2, .int 0, .long 0, .long 0, .long 0])), (e1, .inl (k 3, 61, .inr (.inr (.inr (.inr (fun _ => none)))))), (e2, .inl (k 4, 10, .inr (.inr (.inr (.inr (fun _ => none)))))), (ca, .inr (2, [.ref c1, .ref c2, .int 0, .int 0, .int 0, .int 0]))] H := hP
    have hD : va_D A [(out, .inl (k 1, 1, .inr (.inl (fun _ => 0)))), (h0, .inr (0, [.ref tr, .ref ea, .ref ca, .ref ed, .int 0, .int (-1)])), (ed, .inr (3, [.ref e1, .ref e2, .int 0, .long 0, .long 0, .long 0])), (e1, .inl (k 3, 61, .inr (.inr (.inr (.inr (fun _ => none)))))), (e2, .inl (k 4, 10, .inr (.inr (.inr (.inr (fun _ => none)))))), (ca, .inr (2, [.ref c1, .ref c2, .int 0, .int 0, .int 0, .int 0]))] := hD
    rw [← z_upl 0] at hP hD
    have hP : va_P (dC, dI) classes [(out, .inl (k 1, 1, .inr (.inl (vp_updL (fun _ => 0) 0 0)))), (h0, .inr (0, [.ref tr, .ref ea, .ref ca, .ref ed, .int 0, .int (-1)])), (ed, .inr (3, [.ref e1, .ref e2, .int 0, .long 0, .long 0, .long 0])), (e1, .inl (k 3, 61, .inr (.inr (.inr (.inr (fun _ => none)))))), (e2, .inl (k 4, 10, .inr (.inr (.inr (.inr (fun _ => none)))))), (ca, .inr (2, [.ref c1, .ref c2, .int 0, .int 0, .int 0, .int 0]))] H := hP
    have hD : va_D A [(out, .inl (k 1, 1, .inr (.inl (vp_updL (fun _ => 0) 0 0)))), (h0, .inr (0, [.ref tr, .ref ea, .ref ca, .ref ed, .int 0, .int (-1)])), (ed, .inr (3, [.ref e1, .ref e2, .int 0, .long 0, .long 0, .long 0])), (e1, .inl (k 3, 61, .inr (.inr (.inr (.inr (fun _ => none)))))), (e2, .inl (k 4, 10, .inr (.inr (.inr (.inr (fun _ => none)))))), (ca, .inr (2, [.ref c1, .ref c2, .int 0, .int 0, .int 0, .int 0]))] := hD
    obtain rfl := hxe
    refine vx_catch hown [] ⟨0, 8, 11, 15⟩ [] hTab (fun z hz => nomatch hz) (by decide) (by decide) (htz _ kc_La_15) (va_Nw.use rfl (hE.1 _ ca_ISE)) hce hcv hcl ?_
    refine lv_astore_n (lv' := [(2, .ref q9), (0, .ref h0), (1, .ref out)]) hx hb d_La_priority_11 rfl hl (by decide) rfl (fun ls hl => ?_)
    refine lv_iconst (v := 1) hx hb d_La_priority_12 (by decide) ?_
    refine W.widen (k := 1) (n := 6) (Nat.le_of_ble_eq_true rfl) (Nat.le_of_ble_eq_true rfl) ?_
    have hP9 := hP.sub (ws' := [(out, .inl (k 1, 1, .inr (.inl (vp_updL (fun _ => 0) 0 0))))]) [0] rfl
    have hD9 := hD.sub (ws' := [(out, .inl (k 1, 1, .inr (.inl (vp_updL (fun _ => 0) 0 0))))]) [0] (by decide) rfl
    exact W.iret (v := 1) hx hb hr (fun t ht hW => ⟨⟨1, 0, rfl, rfl, by rw [ht]; exact hP9, va_K.moved hW.alike hK, hD9⟩, hS.F ht⟩) hS.2.2 d_La_priority_13
  · exact hw.elim
set_option maxHeartbeats 1000000 in
set_option maxRecDepth 100000 in
theorem c_La_points (l : Launch) (hlt : l.stackTraces = false) (dC : Nat → ClassId) (dI : Nat → Nat → Nat) (k : Nat → ClassId) (sz : Nat) (h0 : Nat) (tr : Nat) (t1 : Nat) (t2 : Nat) (t3 : Nat) (ea : Nat) (ca : Nat) (c1 : Nat) (c2 : Nat) (ed : Nat) (e1 : Nat) (e2 : Nat) (out : Nat) : Met l y_La_points (Cond.codeWith y_La_points b_La_points 3 (some .int) [((0), (8), (11), (15))] :: z_T) (z_rm 4 1 6) (z_Pc dC dI k sz [.ref h0, .ref out] [(h0, .inr (0, [.ref tr, .ref ea, .ref ca, .ref ed, .int 0, .int (-1)])), (ca, .inr (2, [.ref c1, .ref c2, .int 0, .int 0, .int 0, .int 0])), (out, .inl (k 1, 1, .inr (.inl (fun _ => 0))))]) (va_Qi (fun (r : Int32) (u : Int64) => r = 1) (fun (u : Int64) t => z_B dC dI k (va_A [(h0, .inr (0, [.ref tr, .ref ea, .ref ca, .ref ed, .int 0, .int (-1)])), (ca, .inr (2, [.ref c1, .ref c2, .int 0, .int 0, .int 0, .int 0])), (out, .inl (k 1, 1, .inr (.inl (fun _ => 0))))] sz) [(out, .inl (k 1, 1, .inr (.inl (vp_updL (fun _ => 0) 0 u))))] t) (va_A [(h0, .inr (0, [.ref tr, .ref ea, .ref ca, .ref ed, .int 0, .int (-1)])), (ca, .inr (2, [.ref c1, .ref c2, .int 0, .int 0, .int 0, .int 0])), (out, .inl (k 1, 1, .inr (.inl (fun _ => 0))))] sz)) 1 6 (va_A [(h0, .inr (0, [.ref tr, .ref ea, .ref ca, .ref ed, .int 0, .int (-1)])), (ca, .inr (2, [.ref c1, .ref c2, .int 0, .int 0, .int 0, .int 0])), (out, .inl (k 1, 1, .inr (.inl (fun _ => 0))))] sz) := by
  refine va_MetW (cc := b_La_points) (maxL := 3) (ret := (some .int)) (by decide) rfl ?_
  intro p e s m args below meth c s₁ B hml hv
  obtain ⟨rfl, hsz, hE, hP, hK, hD0⟩ := hv
  have hx := B.exec
  have hb := B.bytes
  have hr := B.returns
  have hts := atoms_spec (ws := Cond.codeWith y_La_points b_La_points 3 (some .int) [((0), (8), (11), (15))] :: z_T) B.pre
  have htz : ∀ w ∈ z_T, w.before _ s = true := fun w h => hts w (z_cons w h)
  have hown : s.vm.findClass "QuestionTextLaw" = some m.cls := findClass_of_methodNamed B.named
  have hlocks := B.notSynchronized
  subst hsz
  have hD := hD0.self (sz := s.heap.size)
  generalize hAe : va_A [(h0, .inr (0, [.ref tr, .ref ea, .ref ca, .ref ed, .int 0, .int (-1)])), (ca, .inr (2, [.ref c1, .ref c2, .int 0, .int 0, .int 0, .int 0])), (out, .inl (k 1, 1, .inr (.inl (fun _ => 0))))] s.heap.size = A at hD hE ⊢
  have hA : ∀ q : Nat, s.heap.size ≤ q → A q := fun q h => by rw [← hAe]; exact Or.inr h
  have hS : va_S A s.heap s.heap [] := va_S.rf
  have hP : va_P (dC, dI) classes [(h0, .inr (0, [.ref tr, .ref ea, .ref ca, .ref ed, .int 0, .int (-1)])), (ca, .inr (2, [.ref c1, .ref c2, .int 0, .int 0, .int 0, .int 0])), (out, .inl (k 1, 1, .inr (.inl (fun _ => 0))))] s.heap := hP
  have hl := lv_entry ([.ref h0, .ref out]) (n := 3) (Nat.le_of_ble_eq_true rfl)
  rw [lg_entry_eq]
  generalize (lg_sl ([.ref h0, .ref out]) ++ List.replicate (3 - (lg_sl ([.ref h0, .ref out])).length) Slot.unset).toArray = ls at hl ⊢
  have hl : lv_has ls 3 [(0, .ref h0), (1, .ref out)] := hl
  have hTab := vx_table (x := y_La_points) B (htz _ m_La_points)
  refine lv_aload_n hx hb d_La_points_0 rfl (lv_at hl 1 rfl) ?_
  refine lv_iconst (v := 0) hx hb d_La_points_1 (by decide) ?_
  refine lv_aload_n hx hb d_La_points_2 rfl (lv_at hl 0 rfl) ?_
  have hPc := hP.sub (ws' := [(h0, .inr (0, [.ref tr, .ref ea, .ref ca, .ref ed, .int 0, .int (-1)])), (ca, .inr (2, [.ref c1, .ref c2, .int 0, .int 0, .int 0, .int 0]))]) [0, 1] rfl
  have hDc := hD.sub (ws' := [(h0, .inr (0, [.ref tr, .ref ea, .ref ca, .ref ed, .int 0, .int (-1)])), (ca, .inr (2, [.ref c1, .ref c2, .int 0, .int 0, .int 0, .int 0]))]) [0, 1] (by decide) rfl
  have hFc := va_free (wc := [(h0, .inr (0, [.ref tr, .ref ea, .ref ca, .ref ed, .int 0, .int (-1)])), (ca, .inr (2, [.ref c1, .ref c2, .int 0, .int 0, .int 0, .int 0]))]) hD hS hA [0, 1] rfl
  refine vx_calli (vx_runV (As := []) (rest := [.int 0, .ref out]) ⟨hx, hb, hml, hown, htz⟩ (c_Q_points l hlt dC dI k s.heap.size h0 tr ea ca ed 0 (-1) c1 c2 0 0 0 0) (cwV 0 htz (z_gV (fun _ h => h) km_La_34 in_Q_points se_Q_points ini_Q m_Q_points) rfl rfl rfl (by decide +kernel) ⟨(Nat.le_of_ble_eq_true rfl), (Nat.le_of_ble_eq_true rfl)⟩) ⟨z_blind, va_recv hK hPc (ci := 0) (q0 := 0) rfl rfl, fun U hU hW => ⟨rfl, by rw [hU], hE.call hS hFc hU hW, by rw [hU]; exact hPc, va_K.moved hW.alike hK, hDc.weaken (fun _ _ _ _ => trivial)⟩⟩ rfl rfl hl.1 rfl (lv_room (Nat.le_of_ble_eq_true rfl)) d_La_points_3 ⟨(Nat.le_of_ble_eq_true rfl), (Nat.le_of_ble_eq_true rfl)⟩) hS (fun q _ h => hFc q h) hFc (fun q _ h => hFc q h) (fun E ce q9 u t H1 locs ht hvm hw hB hz1 hk1 hS hce hcv hcl => ?_) (fun r1 u t H1 locs ht hvm hw hB hz1 hk1 hS => ?_)
  · obtain ⟨hxe, hP1, hK1, hD1⟩ := hB
    rw [ht] at hP1
    obtain ⟨hP, hD⟩ := va_join (wr := [(out, .inl (k 1, 1, .inr (.inl (fun _ => 0))))]) (w1 := [(h0, .inr (0, [.ref tr, .ref ea, .ref ca, .ref ed, .int 0, .int (-1)])), (ca, .inr (2, [.ref c1, .ref c2, .int 0, .int 0, .int 0, .int 0]))]) hP hD [0, 1] [2] rfl rfl (by decide) (by decide) hk1 hFc hP1 hD1
    generalize H1 = H at hP hS hce ⊢
    have hP : va_P (dC, dI) classes [(out, .inl (k 1, 1, .inr (.inl (fun _ => 0)))), (h0, .inr (0, [.ref tr, .ref ea, .ref ca, .ref ed, .int 0, .int (-1)])), (ca, .inr (2, [.ref c1, .ref c2, .int 0, .int 0, .int 0, .int 0]))] H := hP
    have hD : va_D A [(out, .inl (k 1, 1, .inr (.inl (fun _ => 0)))), (h0, .inr (0, [.ref tr, .ref ea, .ref ca, .ref ed, .int 0, .int (-1)])), (ca, .inr (2, [.ref c1, .ref c2, .int 0, .int 0, .int 0, .int 0]))] := hD
    rw [← z_upl 0] at hP hD
    have hP : va_P (dC, dI) classes [(out, .inl (k 1, 1, .inr (.inl (vp_updL (fun _ => 0) 0 0)))), (h0, .inr (0, [.ref tr, .ref ea, .ref ca, .ref ed, .int 0, .int (-1)])), (ca, .inr (2, [.ref c1, .ref c2, .int 0, .int 0, .int 0, .int 0]))] H := hP
    have hD : va_D A [(out, .inl (k 1, 1, .inr (.inl (vp_updL (fun _ => 0) 0 0)))), (h0, .inr (0, [.ref tr, .ref ea, .ref ca, .ref ed, .int 0, .int (-1)])), (ca, .inr (2, [.ref c1, .ref c2, .int 0, .int 0, .int 0, .int 0]))] := hD
    obtain ⟨rfl, hc9⟩ := hxe
    refine vx_catch hown [] ⟨0, 8, 11, 15⟩ [] hTab (fun z hz => nomatch hz) (by decide) (by decide) (htz _ kc_La_15) (va_Nw.use rfl (hE.1 _ ca_ISE)) hce hcv hcl ?_
    refine lv_astore_n (lv' := [(2, .ref q9), (0, .ref h0), (1, .ref out)]) hx hb d_La_points_11 rfl hl (by decide) rfl (fun ls hl => ?_)
    refine lv_iconst (v := 1) hx hb d_La_points_12 (by decide) ?_
    refine W.widen (k := 1) (n := 6) (Nat.le_of_ble_eq_true rfl) (Nat.le_of_ble_eq_true rfl) ?_
    have hP9 := hP.sub (ws' := [(out, .inl (k 1, 1, .inr (.inl (vp_updL (fun _ => 0) 0 0))))]) [0] rfl
    have hD9 := hD.sub (ws' := [(out, .inl (k 1, 1, .inr (.inl (vp_updL (fun _ => 0) 0 0))))]) [0] (by decide) rfl
    exact W.iret (v := 1) hx hb hr (fun t ht hW => ⟨⟨1, 0, rfl, rfl, by rw [ht]; exact hP9, va_K.moved hW.alike hK, hD9⟩, hS.F ht⟩) hS.2.2 d_La_points_13
  · obtain ⟨hP1, hK1, hD1⟩ := hB
    rw [ht] at hP1
    try dsimp only at hw
    obtain ⟨hP, hD⟩ := va_join (wr := [(out, .inl (k 1, 1, .inr (.inl (fun _ => 0))))]) (w1 := [(h0, .inr (0, [.ref tr, .ref ea, .ref ca, .ref ed, .int 0, .int (-1)])), (ca, .inr (2, [.ref c1, .ref c2, .int 0, .int 0, .int 0, .int 0]))]) hP hD [0, 1] [2] rfl rfl (by decide) (by decide) hk1 hFc hP1 hD1
    generalize H1 = H at hP hS ⊢
    have hP : va_P (dC, dI) classes [(out, .inl (k 1, 1, .inr (.inl (fun _ => 0)))), (h0, .inr (0, [.ref tr, .ref ea, .ref ca, .ref ed, .int 0, .int (-1)])), (ca, .inr (2, [.ref c1, .ref c2, .int 0, .int 0, .int 0, .int 0]))] H := hP
    have hD : va_D A [(out, .inl (k 1, 1, .inr (.inl (fun _ => 0)))), (h0, .inr (0, [.ref tr, .ref ea, .ref ca, .ref ed, .int 0, .int (-1)])), (ca, .inr (2, [.ref c1, .ref c2, .int 0, .int 0, .int 0, .int 0]))] := hD
    refine lv_i2l (v := r1.toInt64) hx hb d_La_points_6 rfl ?_
    refine va_last hx hb hK hP hD hS 0 1 rfl rfl (by unfold vp_in; decide) d_La_points_7 (fun H locs hP hD hS => ?_)
    have hP : va_P (dC, dI) classes [(out, .inl (k 1, 1, .inr (.inl (vp_updL (fun _ => 0) ((0 : Int32).toNatClampNeg) r1.toInt64)))), (h0, .inr (0, [.ref tr, .ref ea, .ref ca, .ref ed, .int 0, .int (-1)])), (ca, .inr (2, [.ref c1, .ref c2, .int 0, .int 0, .int 0, .int 0]))] H := hP
    have hD : va_D A [(out, .inl (k 1, 1, .inr (.inl (vp_updL (fun _ => 0) ((0 : Int32).toNatClampNeg) r1.toInt64)))), (h0, .inr (0, [.ref tr, .ref ea, .ref ca, .ref ed, .int 0, .int (-1)])), (ca, .inr (2, [.ref c1, .ref c2, .int 0, .int 0, .int 0, .int 0]))] := hD
    have hP : va_P (dC, dI) classes [(out, .inl (k 1, 1, .inr (.inl (vp_updL (fun _ => 0) 0 (r1.toInt64))))), (h0, .inr (0, [.ref tr, .ref ea, .ref ca, .ref ed, .int 0, .int (-1)])), (ca, .inr (2, [.ref c1, .ref c2, .int 0, .int 0, .int 0, .int 0]))] H := hP
    have hD : va_D A [(out, .inl (k 1, 1, .inr (.inl (vp_updL (fun _ => 0) 0 (r1.toInt64))))), (h0, .inr (0, [.ref tr, .ref ea, .ref ca, .ref ed, .int 0, .int (-1)])), (ca, .inr (2, [.ref c1, .ref c2, .int 0, .int 0, .int 0, .int 0]))] := hD
    refine lv_goto (tgt := 14) hx hb d_La_points_8 (by decide) ?_
    refine lv_iconst (v := 0) hx hb d_La_points_14 (by decide) ?_
    refine W.widen (k := 1) (n := 6) (Nat.le_of_ble_eq_true rfl) (Nat.le_of_ble_eq_true rfl) ?_
    have hP9 := hP.sub (ws' := [(out, .inl (k 1, 1, .inr (.inl (vp_updL (fun _ => 0) 0 (r1.toInt64)))))]) [0] rfl
    have hD9 := hD.sub (ws' := [(out, .inl (k 1, 1, .inr (.inl (vp_updL (fun _ => 0) 0 (r1.toInt64)))))]) [0] (by decide) rfl
    exact W.iret (v := 0) hx hb hr (fun t ht hW => ⟨⟨0, (r1.toInt64), rfl, absurd rfl hw.2, by rw [ht]; exact hP9, va_K.moved hW.alike hK, hD9⟩, hS.F ht⟩) hS.2.2 d_La_points_15
set_option maxHeartbeats 1000000 in
set_option maxRecDepth 100000 in
theorem c_La_asked (l : Launch) (hlt : l.stackTraces = false) (dC : Nat → ClassId) (dI : Nat → Nat → Nat) (k : Nat → ClassId) (sz : Nat) (h0 : Nat) (tr : Nat) (t1 : Nat) (t2 : Nat) (t3 : Nat) (ea : Nat) (ca : Nat) (c1 : Nat) (c2 : Nat) (ed : Nat) (e1 : Nat) (e2 : Nat) (x : Int32) (out : Nat) : Met l y_La_asked (Cond.codeWith y_La_asked b_La_asked 4 (some .int) [((0), (9), (12), (13))] :: z_T) (z_rm 4 1 6) (z_Pc dC dI k sz [.ref h0, .int x, .ref out] [(h0, .inr (0, [.ref tr, .ref ea, .ref ca, .ref ed, .int 0, .int (-1)])), (ca, .inr (2, [.ref c1, .ref c2, .int (nI 0), .int 0, .int 0, .int 0])), (c1, .inl (k 0, 40, .inl (fun _ => 0))), (out, .inl (k 1, 1, .inr (.inl (fun _ => 0))))]) (va_Qi (fun (r : Int32) (u : Int64) => (r = 0 ∧ 0 ≤ x ∧ u = (0 : Int32).toInt64) ∨ (r = 1 ∧ ¬ 0 ≤ x)) (fun (u : Int64) t => z_B dC dI k (va_A [(h0, .inr (0, [.ref tr, .ref ea, .ref ca, .ref ed, .int 0, .int (-1)])), (ca, .inr (2, [.ref c1, .ref c2, .int (nI 0), .int 0, .int 0, .int 0])), (c1, .inl (k 0, 40, .inl (fun _ => 0))), (out, .inl (k 1, 1, .inr (.inl (fun _ => 0))))] sz) [(out, .inl (k 1, 1, .inr (.inl (vp_updL (fun _ => 0) 0 u))))] t) (va_A [(h0, .inr (0, [.ref tr, .ref ea, .ref ca, .ref ed, .int 0, .int (-1)])), (ca, .inr (2, [.ref c1, .ref c2, .int (nI 0), .int 0, .int 0, .int 0])), (c1, .inl (k 0, 40, .inl (fun _ => 0))), (out, .inl (k 1, 1, .inr (.inl (fun _ => 0))))] sz)) 1 6 (va_A [(h0, .inr (0, [.ref tr, .ref ea, .ref ca, .ref ed, .int 0, .int (-1)])), (ca, .inr (2, [.ref c1, .ref c2, .int (nI 0), .int 0, .int 0, .int 0])), (c1, .inl (k 0, 40, .inl (fun _ => 0))), (out, .inl (k 1, 1, .inr (.inl (fun _ => 0))))] sz) := by
  refine va_MetW (cc := b_La_asked) (maxL := 4) (ret := (some .int)) (by decide) rfl ?_
  intro p e s m args below meth c s₁ B hml hv
  obtain ⟨rfl, hsz, hE, hP, hK, hD0⟩ := hv
  have hx := B.exec
  have hb := B.bytes
  have hr := B.returns
  have hts := atoms_spec (ws := Cond.codeWith y_La_asked b_La_asked 4 (some .int) [((0), (9), (12), (13))] :: z_T) B.pre
  have htz : ∀ w ∈ z_T, w.before _ s = true := fun w h => hts w (z_cons w h)
  have hown : s.vm.findClass "QuestionTextLaw" = some m.cls := findClass_of_methodNamed B.named
  have hlocks := B.notSynchronized
  subst hsz
  have hD := hD0.self (sz := s.heap.size)
  generalize hAe : va_A [(h0, .inr (0, [.ref tr, .ref ea, .ref ca, .ref ed, .int 0, .int (-1)])), (ca, .inr (2, [.ref c1, .ref c2, .int (nI 0), .int 0, .int 0, .int 0])), (c1, .inl (k 0, 40, .inl (fun _ => 0))), (out, .inl (k 1, 1, .inr (.inl (fun _ => 0))))] s.heap.size = A at hD hE ⊢
  have hA : ∀ q : Nat, s.heap.size ≤ q → A q := fun q h => by rw [← hAe]; exact Or.inr h
  have hS : va_S A s.heap s.heap [] := va_S.rf
  have hP : va_P (dC, dI) classes [(h0, .inr (0, [.ref tr, .ref ea, .ref ca, .ref ed, .int 0, .int (-1)])), (ca, .inr (2, [.ref c1, .ref c2, .int (nI 0), .int 0, .int 0, .int 0])), (c1, .inl (k 0, 40, .inl (fun _ => 0))), (out, .inl (k 1, 1, .inr (.inl (fun _ => 0))))] s.heap := hP
  have hl := lv_entry ([.ref h0, .int x, .ref out]) (n := 4) (Nat.le_of_ble_eq_true rfl)
  rw [lg_entry_eq]
  generalize (lg_sl ([.ref h0, .int x, .ref out]) ++ List.replicate (4 - (lg_sl ([.ref h0, .int x, .ref out])).length) Slot.unset).toArray = ls at hl ⊢
  have hl : lv_has ls 4 [(0, .ref h0), (1, .int x), (2, .ref out)] := hl
  have hTab := vx_table (x := y_La_asked) B (htz _ m_La_asked)
  refine lv_aload_n hx hb d_La_asked_0 rfl (lv_at hl 2 rfl) ?_
  refine lv_iconst (v := 0) hx hb d_La_asked_1 (by decide) ?_
  refine lv_aload_n hx hb d_La_asked_2 rfl (lv_at hl 0 rfl) ?_
  refine lv_iload_n hx hb d_La_asked_3 rfl (lv_at hl 1 rfl) ?_
  have hPc := hP.sub (ws' := [(h0, .inr (0, [.ref tr, .ref ea, .ref ca, .ref ed, .int 0, .int (-1)])), (ca, .inr (2, [.ref c1, .ref c2, .int (nI 0), .int 0, .int 0, .int 0])), (c1, .inl (k 0, 40, .inl (fun _ => 0)))]) [0, 1, 2] rfl
  have hDc := hD.sub (ws' := [(h0, .inr (0, [.ref tr, .ref ea, .ref ca, .ref ed, .int 0, .int (-1)])), (ca, .inr (2, [.ref c1, .ref c2, .int (nI 0), .int 0, .int 0, .int 0])), (c1, .inl (k 0, 40, .inl (fun _ => 0)))]) [0, 1, 2] (by decide) rfl
  have hFc := va_free (wc := [(h0, .inr (0, [.ref tr, .ref ea, .ref ca, .ref ed, .int 0, .int (-1)])), (ca, .inr (2, [.ref c1, .ref c2, .int (nI 0), .int 0, .int 0, .int 0])), (c1, .inl (k 0, 40, .inl (fun _ => 0)))]) hD hS hA [0, 1, 2] rfl
  refine vx_calli (vx_runV (As := [.int x]) (rest := [.int 0, .ref out]) ⟨hx, hb, hml, hown, htz⟩ (c_Q_asked l hlt dC dI k s.heap.size h0 tr ea ca ed 0 (-1) c1 c2 0 0 0 0 (fun _ => 0) x (by decide)) (cwV 1 htz (z_gV (fun _ h => h) km_La_37 in_Q_asked se_Q_asked ini_Q m_Q_asked) rfl rfl rfl (by decide +kernel) ⟨(Nat.le_of_ble_eq_true rfl), (Nat.le_of_ble_eq_true rfl)⟩) ⟨z_blind, va_recv hK hPc (ci := 0) (q0 := 0) rfl rfl, fun U hU hW => ⟨rfl, by rw [hU], hE.call hS hFc hU hW, by rw [hU]; exact hPc, va_K.moved hW.alike hK, hDc.weaken (fun _ _ _ _ => trivial)⟩⟩ rfl rfl hl.1 rfl (lv_room (Nat.le_of_ble_eq_true rfl)) d_La_asked_4 ⟨(Nat.le_of_ble_eq_true rfl), (Nat.le_of_ble_eq_true rfl)⟩) hS (fun q _ h => hFc q h) hFc (fun q _ h => hFc q h) (fun E ce q9 u t H1 locs ht hvm hw hB hz1 hk1 hS hce hcv hcl => ?_) (fun r1 u t H1 locs ht hvm hw hB hz1 hk1 hS => ?_)
  · obtain ⟨hxe, hP1, hK1, hD1⟩ := hB
    rw [ht] at hP1
    obtain ⟨hP, hD⟩ := va_join (wr := [(out, .inl (k 1, 1, .inr (.inl (fun _ => 0))))]) (w1 := [(h0, .inr (0, [.ref tr, .ref ea, .ref ca, .ref ed, .int 0, .int (-1)])), (ca, .inr (2, [.ref c1, .ref c2, .int (nI 0), .int 0, .int 0, .int 0])), (c1, .inl (k 0, 40, .inl (fun _ => 0)))]) hP hD [0, 1, 2] [3] rfl rfl (by decide) (by decide) hk1 hFc hP1 hD1
    generalize H1 = H at hP hS hce ⊢
    have hP : va_P (dC, dI) classes [(out, .inl (k 1, 1, .inr (.inl (fun _ => 0)))), (h0, .inr (0, [.ref tr, .ref ea, .ref ca, .ref ed, .int 0, .int (-1)])), (ca, .inr (2, [.ref c1, .ref c2, .int (nI 0), .int 0, .int 0, .int 0])), (c1, .inl (k 0, 40, .inl (fun _ => 0)))] H := hP
    have hD : va_D A [(out, .inl (k 1, 1, .inr (.inl (fun _ => 0)))), (h0, .inr (0, [.ref tr, .ref ea, .ref ca, .ref ed, .int 0, .int (-1)])), (ca, .inr (2, [.ref c1, .ref c2, .int (nI 0), .int 0, .int 0, .int 0])), (c1, .inl (k 0, 40, .inl (fun _ => 0)))] := hD
    rw [← z_upl 0] at hP hD
    have hP : va_P (dC, dI) classes [(out, .inl (k 1, 1, .inr (.inl (vp_updL (fun _ => 0) 0 0)))), (h0, .inr (0, [.ref tr, .ref ea, .ref ca, .ref ed, .int 0, .int (-1)])), (ca, .inr (2, [.ref c1, .ref c2, .int (nI 0), .int 0, .int 0, .int 0])), (c1, .inl (k 0, 40, .inl (fun _ => 0)))] H := hP
    have hD : va_D A [(out, .inl (k 1, 1, .inr (.inl (vp_updL (fun _ => 0) 0 0)))), (h0, .inr (0, [.ref tr, .ref ea, .ref ca, .ref ed, .int 0, .int (-1)])), (ca, .inr (2, [.ref c1, .ref c2, .int (nI 0), .int 0, .int 0, .int 0])), (c1, .inl (k 0, 40, .inl (fun _ => 0)))] := hD
    obtain ⟨rfl, hc9⟩ := hxe
    refine vx_catch hown [] ⟨0, 9, 12, 13⟩ [] hTab (fun z hz => nomatch hz) (by decide) (by decide) (htz _ kc_La_13) (va_Nw.use rfl (hE.1 _ ca_IAE)) hce hcv hcl ?_
    refine lv_astore_n (lv' := [(3, .ref q9), (0, .ref h0), (1, .int x), (2, .ref out)]) hx hb d_La_asked_12 rfl hl (by decide) rfl (fun ls hl => ?_)
    refine lv_iconst (v := 1) hx hb d_La_asked_13 (by decide) ?_
    refine W.widen (k := 1) (n := 6) (Nat.le_of_ble_eq_true rfl) (Nat.le_of_ble_eq_true rfl) ?_
    have hP9 := hP.sub (ws' := [(out, .inl (k 1, 1, .inr (.inl (vp_updL (fun _ => 0) 0 0))))]) [0] rfl
    have hD9 := hD.sub (ws' := [(out, .inl (k 1, 1, .inr (.inl (vp_updL (fun _ => 0) 0 0))))]) [0] (by decide) rfl
    exact W.iret (v := 1) hx hb hr (fun t ht hW => ⟨⟨1, 0, rfl, Or.inr ⟨rfl, hc9⟩, by rw [ht]; exact hP9, va_K.moved hW.alike hK, hD9⟩, hS.F ht⟩) hS.2.2 d_La_asked_14
  · obtain ⟨hP1, hK1, hD1⟩ := hB
    rw [ht] at hP1
    try dsimp only at hw
    obtain ⟨hP, hD⟩ := va_join (wr := [(out, .inl (k 1, 1, .inr (.inl (fun _ => 0))))]) (w1 := [(h0, .inr (0, [.ref tr, .ref ea, .ref ca, .ref ed, .int 0, .int (-1)])), (ca, .inr (2, [.ref c1, .ref c2, .int (nI 0), .int 0, .int 0, .int 0])), (c1, .inl (k 0, 40, .inl (fun _ => 0)))]) hP hD [0, 1, 2] [3] rfl rfl (by decide) (by decide) hk1 hFc hP1 hD1
    generalize H1 = H at hP hS ⊢
    have hP : va_P (dC, dI) classes [(out, .inl (k 1, 1, .inr (.inl (fun _ => 0)))), (h0, .inr (0, [.ref tr, .ref ea, .ref ca, .ref ed, .int 0, .int (-1)])), (ca, .inr (2, [.ref c1, .ref c2, .int (nI 0), .int 0, .int 0, .int 0])), (c1, .inl (k 0, 40, .inl (fun _ => 0)))] H := hP
    have hD : va_D A [(out, .inl (k 1, 1, .inr (.inl (fun _ => 0)))), (h0, .inr (0, [.ref tr, .ref ea, .ref ca, .ref ed, .int 0, .int (-1)])), (ca, .inr (2, [.ref c1, .ref c2, .int (nI 0), .int 0, .int 0, .int 0])), (c1, .inl (k 0, 40, .inl (fun _ => 0)))] := hD
    refine lv_i2l (v := r1.toInt64) hx hb d_La_asked_7 rfl ?_
    refine va_last hx hb hK hP hD hS 0 1 rfl rfl (by unfold vp_in; decide) d_La_asked_8 (fun H locs hP hD hS => ?_)
    have hP : va_P (dC, dI) classes [(out, .inl (k 1, 1, .inr (.inl (vp_updL (fun _ => 0) ((0 : Int32).toNatClampNeg) r1.toInt64)))), (h0, .inr (0, [.ref tr, .ref ea, .ref ca, .ref ed, .int 0, .int (-1)])), (ca, .inr (2, [.ref c1, .ref c2, .int (nI 0), .int 0, .int 0, .int 0])), (c1, .inl (k 0, 40, .inl (fun _ => 0)))] H := hP
    have hD : va_D A [(out, .inl (k 1, 1, .inr (.inl (vp_updL (fun _ => 0) ((0 : Int32).toNatClampNeg) r1.toInt64)))), (h0, .inr (0, [.ref tr, .ref ea, .ref ca, .ref ed, .int 0, .int (-1)])), (ca, .inr (2, [.ref c1, .ref c2, .int (nI 0), .int 0, .int 0, .int 0])), (c1, .inl (k 0, 40, .inl (fun _ => 0)))] := hD
    have hP : va_P (dC, dI) classes [(out, .inl (k 1, 1, .inr (.inl (vp_updL (fun _ => 0) 0 (r1.toInt64))))), (h0, .inr (0, [.ref tr, .ref ea, .ref ca, .ref ed, .int 0, .int (-1)])), (ca, .inr (2, [.ref c1, .ref c2, .int (nI 0), .int 0, .int 0, .int 0])), (c1, .inl (k 0, 40, .inl (fun _ => 0)))] H := hP
    have hD : va_D A [(out, .inl (k 1, 1, .inr (.inl (vp_updL (fun _ => 0) 0 (r1.toInt64))))), (h0, .inr (0, [.ref tr, .ref ea, .ref ca, .ref ed, .int 0, .int (-1)])), (ca, .inr (2, [.ref c1, .ref c2, .int (nI 0), .int 0, .int 0, .int 0])), (c1, .inl (k 0, 40, .inl (fun _ => 0)))] := hD
    refine lv_goto (tgt := 15) hx hb d_La_asked_9 (by decide) ?_
    refine lv_iconst (v := 0) hx hb d_La_asked_15 (by decide) ?_
    refine W.widen (k := 1) (n := 6) (Nat.le_of_ble_eq_true rfl) (Nat.le_of_ble_eq_true rfl) ?_
    have hP9 := hP.sub (ws' := [(out, .inl (k 1, 1, .inr (.inl (vp_updL (fun _ => 0) 0 (r1.toInt64)))))]) [0] rfl
    have hD9 := hD.sub (ws' := [(out, .inl (k 1, 1, .inr (.inl (vp_updL (fun _ => 0) 0 (r1.toInt64)))))]) [0] (by decide) rfl
    exact W.iret (v := 0) hx hb hr (fun t ht hW => ⟨⟨0, (r1.toInt64), rfl, Or.inl ⟨rfl, hw.1, by rw [hw.2]; split <;> rfl⟩, by rw [ht]; exact hP9, va_K.moved hW.alike hK, hD9⟩, hS.F ht⟩) hS.2.2 d_La_asked_16
set_option maxHeartbeats 1000000 in
set_option maxRecDepth 100000 in
theorem c_La_loop (l : Launch) (hlt : l.stackTraces = false) (dC : Nat → ClassId) (dI : Nat → Nat → Nat) (k : Nat → ClassId) (sz : Nat) (h0 : Nat) (tr : Nat) (t1 : Nat) (t2 : Nat) (t3 : Nat) (ea : Nat) (ca : Nat) (c1 : Nat) (c2 : Nat) (ed : Nat) (e1 : Nat) (e2 : Nat) (x : Int32) (out : Nat) : Met l y_La_loop (Cond.codeWith y_La_loop b_La_loop 4 (some .int) [((0), (9), (12), (13))] :: z_T) (z_rm 4 1 6) (z_Pc dC dI k sz [.ref h0, .int x, .ref out] [(h0, .inr (0, [.ref tr, .ref ea, .ref ca, .ref ed, .int 0, .int (-1)])), (ed, .inr (3, [.ref e1, .ref e2, .int 0, .long 0, .long 0, .long 0])), (out, .inl (k 1, 1, .inr (.inl (fun _ => 0))))]) (va_Qi (fun (r : Int32) (u : Int64) => (r = 0 ∧ 0 ≤ x ∧ u = (0 : Int32).toInt64) ∨ (r = 1 ∧ ¬ 0 ≤ x)) (fun (u : Int64) t => z_B dC dI k (va_A [(h0, .inr (0, [.ref tr, .ref ea, .ref ca, .ref ed, .int 0, .int (-1)])), (ed, .inr (3, [.ref e1, .ref e2, .int 0, .long 0, .long 0, .long 0])), (out, .inl (k 1, 1, .inr (.inl (fun _ => 0))))] sz) [(out, .inl (k 1, 1, .inr (.inl (vp_updL (fun _ => 0) 0 u))))] t) (va_A [(h0, .inr (0, [.ref tr, .ref ea, .ref ca, .ref ed, .int 0, .int (-1)])), (ed, .inr (3, [.ref e1, .ref e2, .int 0, .long 0, .long 0, .long 0])), (out, .inl (k 1, 1, .inr (.inl (fun _ => 0))))] sz)) 1 6 (va_A [(h0, .inr (0, [.ref tr, .ref ea, .ref ca, .ref ed, .int 0, .int (-1)])), (ed, .inr (3, [.ref e1, .ref e2, .int 0, .long 0, .long 0, .long 0])), (out, .inl (k 1, 1, .inr (.inl (fun _ => 0))))] sz) := by
  refine va_MetW (cc := b_La_loop) (maxL := 4) (ret := (some .int)) (by decide) rfl ?_
  intro p e s m args below meth c s₁ B hml hv
  obtain ⟨rfl, hsz, hE, hP, hK, hD0⟩ := hv
  have hx := B.exec
  have hb := B.bytes
  have hr := B.returns
  have hts := atoms_spec (ws := Cond.codeWith y_La_loop b_La_loop 4 (some .int) [((0), (9), (12), (13))] :: z_T) B.pre
  have htz : ∀ w ∈ z_T, w.before _ s = true := fun w h => hts w (z_cons w h)
  have hown : s.vm.findClass "QuestionTextLaw" = some m.cls := findClass_of_methodNamed B.named
  have hlocks := B.notSynchronized
  subst hsz
  have hD := hD0.self (sz := s.heap.size)
  generalize hAe : va_A [(h0, .inr (0, [.ref tr, .ref ea, .ref ca, .ref ed, .int 0, .int (-1)])), (ed, .inr (3, [.ref e1, .ref e2, .int 0, .long 0, .long 0, .long 0])), (out, .inl (k 1, 1, .inr (.inl (fun _ => 0))))] s.heap.size = A at hD hE ⊢
  have hA : ∀ q : Nat, s.heap.size ≤ q → A q := fun q h => by rw [← hAe]; exact Or.inr h
  have hS : va_S A s.heap s.heap [] := va_S.rf
  have hP : va_P (dC, dI) classes [(h0, .inr (0, [.ref tr, .ref ea, .ref ca, .ref ed, .int 0, .int (-1)])), (ed, .inr (3, [.ref e1, .ref e2, .int 0, .long 0, .long 0, .long 0])), (out, .inl (k 1, 1, .inr (.inl (fun _ => 0))))] s.heap := hP
  have hl := lv_entry ([.ref h0, .int x, .ref out]) (n := 4) (Nat.le_of_ble_eq_true rfl)
  rw [lg_entry_eq]
  generalize (lg_sl ([.ref h0, .int x, .ref out]) ++ List.replicate (4 - (lg_sl ([.ref h0, .int x, .ref out])).length) Slot.unset).toArray = ls at hl ⊢
  have hl : lv_has ls 4 [(0, .ref h0), (1, .int x), (2, .ref out)] := hl
  have hTab := vx_table (x := y_La_loop) B (htz _ m_La_loop)
  refine lv_aload_n hx hb d_La_loop_0 rfl (lv_at hl 2 rfl) ?_
  refine lv_iconst (v := 0) hx hb d_La_loop_1 (by decide) ?_
  refine lv_aload_n hx hb d_La_loop_2 rfl (lv_at hl 0 rfl) ?_
  refine lv_iload_n hx hb d_La_loop_3 rfl (lv_at hl 1 rfl) ?_
  have hPc := hP.sub (ws' := [(h0, .inr (0, [.ref tr, .ref ea, .ref ca, .ref ed, .int 0, .int (-1)])), (ed, .inr (3, [.ref e1, .ref e2, .int 0, .long 0, .long 0, .long 0]))]) [0, 1] rfl
  have hDc := hD.sub (ws' := [(h0, .inr (0, [.ref tr, .ref ea, .ref ca, .ref ed, .int 0, .int (-1)])), (ed, .inr (3, [.ref e1, .ref e2, .int 0, .long 0, .long 0, .long 0]))]) [0, 1] (by decide) rfl
  have hFc := va_free (wc := [(h0, .inr (0, [.ref tr, .ref ea, .ref ca, .ref ed, .int 0, .int (-1)])), (ed, .inr (3, [.ref e1, .ref e2, .int 0, .long 0, .long 0, .long 0]))]) hD hS hA [0, 1] rfl
  refine vx_calli (vx_runV (As := [.int x]) (rest := [.int 0, .ref out]) ⟨hx, hb, hml, hown, htz⟩ (c_Q_loop l hlt dC dI k s.heap.size h0 tr ea ca 0 (-1) ed e1 e2 0 0 0 0 x) (cwV 1 htz (z_gV (fun _ h => h) km_La_40 in_Q_loop se_Q_loop ini_Q m_Q_loop) rfl rfl rfl (by decide +kernel) ⟨(Nat.le_of_ble_eq_true rfl), (Nat.le_of_ble_eq_true rfl)⟩) ⟨z_blind, va_recv hK hPc (ci := 0) (q0 := 0) rfl rfl, fun U hU hW => ⟨rfl, by rw [hU], hE.call hS hFc hU hW, by rw [hU]; exact hPc, va_K.moved hW.alike hK, hDc.weaken (fun _ _ _ _ => trivial)⟩⟩ rfl rfl hl.1 rfl (lv_room (Nat.le_of_ble_eq_true rfl)) d_La_loop_4 ⟨(Nat.le_of_ble_eq_true rfl), (Nat.le_of_ble_eq_true rfl)⟩) hS (fun q _ h => hFc q h) hFc (fun q _ h => hFc q h) (fun E ce q9 u t H1 locs ht hvm hw hB hz1 hk1 hS hce hcv hcl => ?_) (fun r1 u t H1 locs ht hvm hw hB hz1 hk1 hS => ?_)
  · obtain ⟨hxe, hP1, hK1, hD1⟩ := hB
    rw [ht] at hP1
    obtain ⟨hP, hD⟩ := va_join (wr := [(out, .inl (k 1, 1, .inr (.inl (fun _ => 0))))]) (w1 := [(h0, .inr (0, [.ref tr, .ref ea, .ref ca, .ref ed, .int 0, .int (-1)])), (ed, .inr (3, [.ref e1, .ref e2, .int 0, .long 0, .long 0, .long 0]))]) hP hD [0, 1] [2] rfl rfl (by decide) (by decide) hk1 hFc hP1 hD1
    generalize H1 = H at hP hS hce ⊢
    have hP : va_P (dC, dI) classes [(out, .inl (k 1, 1, .inr (.inl (fun _ => 0)))), (h0, .inr (0, [.ref tr, .ref ea, .ref ca, .ref ed, .int 0, .int (-1)])), (ed, .inr (3, [.ref e1, .ref e2, .int 0, .long 0, .long 0, .long 0]))] H := hP
    have hD : va_D A [(out, .inl (k 1, 1, .inr (.inl (fun _ => 0)))), (h0, .inr (0, [.ref tr, .ref ea, .ref ca, .ref ed, .int 0, .int (-1)])), (ed, .inr (3, [.ref e1, .ref e2, .int 0, .long 0, .long 0, .long 0]))] := hD
    rw [← z_upl 0] at hP hD
    have hP : va_P (dC, dI) classes [(out, .inl (k 1, 1, .inr (.inl (vp_updL (fun _ => 0) 0 0)))), (h0, .inr (0, [.ref tr, .ref ea, .ref ca, .ref ed, .int 0, .int (-1)])), (ed, .inr (3, [.ref e1, .ref e2, .int 0, .long 0, .long 0, .long 0]))] H := hP
    have hD : va_D A [(out, .inl (k 1, 1, .inr (.inl (vp_updL (fun _ => 0) 0 0)))), (h0, .inr (0, [.ref tr, .ref ea, .ref ca, .ref ed, .int 0, .int (-1)])), (ed, .inr (3, [.ref e1, .ref e2, .int 0, .long 0, .long 0, .long 0]))] := hD
    obtain ⟨rfl, hc9⟩ := hxe
    refine vx_catch hown [] ⟨0, 9, 12, 13⟩ [] hTab (fun z hz => nomatch hz) (by decide) (by decide) (htz _ kc_La_13) (va_Nw.use rfl (hE.1 _ ca_IAE)) hce hcv hcl ?_
    refine lv_astore_n (lv' := [(3, .ref q9), (0, .ref h0), (1, .int x), (2, .ref out)]) hx hb d_La_loop_12 rfl hl (by decide) rfl (fun ls hl => ?_)
    refine lv_iconst (v := 1) hx hb d_La_loop_13 (by decide) ?_
    refine W.widen (k := 1) (n := 6) (Nat.le_of_ble_eq_true rfl) (Nat.le_of_ble_eq_true rfl) ?_
    have hP9 := hP.sub (ws' := [(out, .inl (k 1, 1, .inr (.inl (vp_updL (fun _ => 0) 0 0))))]) [0] rfl
    have hD9 := hD.sub (ws' := [(out, .inl (k 1, 1, .inr (.inl (vp_updL (fun _ => 0) 0 0))))]) [0] (by decide) rfl
    exact W.iret (v := 1) hx hb hr (fun t ht hW => ⟨⟨1, 0, rfl, Or.inr ⟨rfl, hc9⟩, by rw [ht]; exact hP9, va_K.moved hW.alike hK, hD9⟩, hS.F ht⟩) hS.2.2 d_La_loop_14
  · obtain ⟨hP1, hK1, hD1⟩ := hB
    rw [ht] at hP1
    try dsimp only at hw
    obtain ⟨hP, hD⟩ := va_join (wr := [(out, .inl (k 1, 1, .inr (.inl (fun _ => 0))))]) (w1 := [(h0, .inr (0, [.ref tr, .ref ea, .ref ca, .ref ed, .int 0, .int (-1)])), (ed, .inr (3, [.ref e1, .ref e2, .int 0, .long 0, .long 0, .long 0]))]) hP hD [0, 1] [2] rfl rfl (by decide) (by decide) hk1 hFc hP1 hD1
    generalize H1 = H at hP hS ⊢
    have hP : va_P (dC, dI) classes [(out, .inl (k 1, 1, .inr (.inl (fun _ => 0)))), (h0, .inr (0, [.ref tr, .ref ea, .ref ca, .ref ed, .int 0, .int (-1)])), (ed, .inr (3, [.ref e1, .ref e2, .int 0, .long 0, .long 0, .long 0]))] H := hP
    have hD : va_D A [(out, .inl (k 1, 1, .inr (.inl (fun _ => 0)))), (h0, .inr (0, [.ref tr, .ref ea, .ref ca, .ref ed, .int 0, .int (-1)])), (ed, .inr (3, [.ref e1, .ref e2, .int 0, .long 0, .long 0, .long 0]))] := hD
    refine lv_i2l (v := r1.toInt64) hx hb d_La_loop_7 rfl ?_
    refine va_last hx hb hK hP hD hS 0 1 rfl rfl (by unfold vp_in; decide) d_La_loop_8 (fun H locs hP hD hS => ?_)
    have hP : va_P (dC, dI) classes [(out, .inl (k 1, 1, .inr (.inl (vp_updL (fun _ => 0) ((0 : Int32).toNatClampNeg) r1.toInt64)))), (h0, .inr (0, [.ref tr, .ref ea, .ref ca, .ref ed, .int 0, .int (-1)])), (ed, .inr (3, [.ref e1, .ref e2, .int 0, .long 0, .long 0, .long 0]))] H := hP
    have hD : va_D A [(out, .inl (k 1, 1, .inr (.inl (vp_updL (fun _ => 0) ((0 : Int32).toNatClampNeg) r1.toInt64)))), (h0, .inr (0, [.ref tr, .ref ea, .ref ca, .ref ed, .int 0, .int (-1)])), (ed, .inr (3, [.ref e1, .ref e2, .int 0, .long 0, .long 0, .long 0]))] := hD
    have hP : va_P (dC, dI) classes [(out, .inl (k 1, 1, .inr (.inl (vp_updL (fun _ => 0) 0 (r1.toInt64))))), (h0, .inr (0, [.ref tr, .ref ea, .ref ca, .ref ed, .int 0, .int (-1)])), (ed, .inr (3, [.ref e1, .ref e2, .int 0, .long 0, .long 0, .long 0]))] H := hP
    have hD : va_D A [(out, .inl (k 1, 1, .inr (.inl (vp_updL (fun _ => 0) 0 (r1.toInt64))))), (h0, .inr (0, [.ref tr, .ref ea, .ref ca, .ref ed, .int 0, .int (-1)])), (ed, .inr (3, [.ref e1, .ref e2, .int 0, .long 0, .long 0, .long 0]))] := hD
    refine lv_goto (tgt := 15) hx hb d_La_loop_9 (by decide) ?_
    refine lv_iconst (v := 0) hx hb d_La_loop_15 (by decide) ?_
    refine W.widen (k := 1) (n := 6) (Nat.le_of_ble_eq_true rfl) (Nat.le_of_ble_eq_true rfl) ?_
    have hP9 := hP.sub (ws' := [(out, .inl (k 1, 1, .inr (.inl (vp_updL (fun _ => 0) 0 (r1.toInt64)))))]) [0] rfl
    have hD9 := hD.sub (ws' := [(out, .inl (k 1, 1, .inr (.inl (vp_updL (fun _ => 0) 0 (r1.toInt64)))))]) [0] (by decide) rfl
    exact W.iret (v := 0) hx hb hr (fun t ht hW => ⟨⟨0, (r1.toInt64), rfl, Or.inl ⟨rfl, hw.1, by rw [hw.2, z_mof_0]⟩, by rw [ht]; exact hP9, va_K.moved hW.alike hK, hD9⟩, hS.F ht⟩) hS.2.2 d_La_loop_16
set_option maxHeartbeats 1000000 in
set_option maxRecDepth 100000 in
theorem c_La_never (l : Launch) (hlt : l.stackTraces = false) (dC : Nat → ClassId) (dI : Nat → Nat → Nat) (k : Nat → ClassId) (sz : Nat) (h0 : Nat) (tr : Nat) (t1 : Nat) (t2 : Nat) (t3 : Nat) (ea : Nat) (ca : Nat) (c1 : Nat) (c2 : Nat) (ed : Nat) (e1 : Nat) (e2 : Nat) (x : Int32) (out : Nat) : Met l y_La_never (Cond.codeWith y_La_never b_La_never 4 (some .int) [((0), (9), (12), (13))] :: z_T) (z_rm 4 1 6) (z_Pc dC dI k sz [.ref h0, .int x, .ref out] [(h0, .inr (0, [.ref tr, .ref ea, .ref ca, .ref ed, .int 0, .int (-1)])), (ed, .inr (3, [.ref e1, .ref e2, .int 0, .long 0, .long 0, .long 0])), (out, .inl (k 1, 1, .inr (.inl (fun _ => 0))))]) (va_Qi (fun (r : Int32) (u : Int64) => (r = 0 ∧ 0 ≤ x ∧ u = (0 : Int32).toInt64) ∨ (r = 1 ∧ ¬ 0 ≤ x)) (fun (u : Int64) t => z_B dC dI k (va_A [(h0, .inr (0, [.ref tr, .ref ea, .ref ca, .ref ed, .int 0, .int (-1)])), (ed, .inr (3, [.ref e1, .ref e2, .int 0, .long 0, .long 0, .long 0])), (out, .inl (k 1, 1, .inr (.inl (fun _ => 0))))] sz) [(out, .inl (k 1, 1, .inr (.inl (vp_updL (fun _ => 0) 0 u))))] t) (va_A [(h0, .inr (0, [.ref tr, .ref ea, .ref ca, .ref ed, .int 0, .int (-1)])), (ed, .inr (3, [.ref e1, .ref e2, .int 0, .long 0, .long 0, .long 0])), (out, .inl (k 1, 1, .inr (.inl (fun _ => 0))))] sz)) 1 6 (va_A [(h0, .inr (0, [.ref tr, .ref ea, .ref ca, .ref ed, .int 0, .int (-1)])), (ed, .inr (3, [.ref e1, .ref e2, .int 0, .long 0, .long 0, .long 0])), (out, .inl (k 1, 1, .inr (.inl (fun _ => 0))))] sz) := by
  refine va_MetW (cc := b_La_never) (maxL := 4) (ret := (some .int)) (by decide) rfl ?_
  intro p e s m args below meth c s₁ B hml hv
  obtain ⟨rfl, hsz, hE, hP, hK, hD0⟩ := hv
  have hx := B.exec
  have hb := B.bytes
  have hr := B.returns
  have hts := atoms_spec (ws := Cond.codeWith y_La_never b_La_never 4 (some .int) [((0), (9), (12), (13))] :: z_T) B.pre
  have htz : ∀ w ∈ z_T, w.before _ s = true := fun w h => hts w (z_cons w h)
  have hown : s.vm.findClass "QuestionTextLaw" = some m.cls := findClass_of_methodNamed B.named
  have hlocks := B.notSynchronized
  subst hsz
  have hD := hD0.self (sz := s.heap.size)
  generalize hAe : va_A [(h0, .inr (0, [.ref tr, .ref ea, .ref ca, .ref ed, .int 0, .int (-1)])), (ed, .inr (3, [.ref e1, .ref e2, .int 0, .long 0, .long 0, .long 0])), (out, .inl (k 1, 1, .inr (.inl (fun _ => 0))))] s.heap.size = A at hD hE ⊢
  have hA : ∀ q : Nat, s.heap.size ≤ q → A q := fun q h => by rw [← hAe]; exact Or.inr h
  have hS : va_S A s.heap s.heap [] := va_S.rf
  have hP : va_P (dC, dI) classes [(h0, .inr (0, [.ref tr, .ref ea, .ref ca, .ref ed, .int 0, .int (-1)])), (ed, .inr (3, [.ref e1, .ref e2, .int 0, .long 0, .long 0, .long 0])), (out, .inl (k 1, 1, .inr (.inl (fun _ => 0))))] s.heap := hP
  have hl := lv_entry ([.ref h0, .int x, .ref out]) (n := 4) (Nat.le_of_ble_eq_true rfl)
  rw [lg_entry_eq]
  generalize (lg_sl ([.ref h0, .int x, .ref out]) ++ List.replicate (4 - (lg_sl ([.ref h0, .int x, .ref out])).length) Slot.unset).toArray = ls at hl ⊢
  have hl : lv_has ls 4 [(0, .ref h0), (1, .int x), (2, .ref out)] := hl
  have hTab := vx_table (x := y_La_never) B (htz _ m_La_never)
  refine lv_aload_n hx hb d_La_never_0 rfl (lv_at hl 2 rfl) ?_
  refine lv_iconst (v := 0) hx hb d_La_never_1 (by decide) ?_
  refine lv_aload_n hx hb d_La_never_2 rfl (lv_at hl 0 rfl) ?_
  refine lv_iload_n hx hb d_La_never_3 rfl (lv_at hl 1 rfl) ?_
  have hPc := hP.sub (ws' := [(h0, .inr (0, [.ref tr, .ref ea, .ref ca, .ref ed, .int 0, .int (-1)])), (ed, .inr (3, [.ref e1, .ref e2, .int 0, .long 0, .long 0, .long 0]))]) [0, 1] rfl
  have hDc := hD.sub (ws' := [(h0, .inr (0, [.ref tr, .ref ea, .ref ca, .ref ed, .int 0, .int (-1)])), (ed, .inr (3, [.ref e1, .ref e2, .int 0, .long 0, .long 0, .long 0]))]) [0, 1] (by decide) rfl
  have hFc := va_free (wc := [(h0, .inr (0, [.ref tr, .ref ea, .ref ca, .ref ed, .int 0, .int (-1)])), (ed, .inr (3, [.ref e1, .ref e2, .int 0, .long 0, .long 0, .long 0]))]) hD hS hA [0, 1] rfl
  refine vx_calli (vx_runV (As := [.int x]) (rest := [.int 0, .ref out]) ⟨hx, hb, hml, hown, htz⟩ (c_Q_never l hlt dC dI k s.heap.size h0 tr ea ca 0 (-1) ed e1 e2 0 0 0 0 x) (cwV 1 htz (z_gV (fun _ h => h) km_La_43 in_Q_never se_Q_never ini_Q m_Q_never) rfl rfl rfl (by decide +kernel) ⟨(Nat.le_of_ble_eq_true rfl), (Nat.le_of_ble_eq_true rfl)⟩) ⟨z_blind, va_recv hK hPc (ci := 0) (q0 := 0) rfl rfl, fun U hU hW => ⟨rfl, by rw [hU], hE.call hS hFc hU hW, by rw [hU]; exact hPc, va_K.moved hW.alike hK, hDc.weaken (fun _ _ _ _ => trivial)⟩⟩ rfl rfl hl.1 rfl (lv_room (Nat.le_of_ble_eq_true rfl)) d_La_never_4 ⟨(Nat.le_of_ble_eq_true rfl), (Nat.le_of_ble_eq_true rfl)⟩) hS (fun q _ h => hFc q h) hFc (fun q _ h => hFc q h) (fun E ce q9 u t H1 locs ht hvm hw hB hz1 hk1 hS hce hcv hcl => ?_) (fun r1 u t H1 locs ht hvm hw hB hz1 hk1 hS => ?_)
  · obtain ⟨hxe, hP1, hK1, hD1⟩ := hB
    rw [ht] at hP1
    obtain ⟨hP, hD⟩ := va_join (wr := [(out, .inl (k 1, 1, .inr (.inl (fun _ => 0))))]) (w1 := [(h0, .inr (0, [.ref tr, .ref ea, .ref ca, .ref ed, .int 0, .int (-1)])), (ed, .inr (3, [.ref e1, .ref e2, .int 0, .long 0, .long 0, .long 0]))]) hP hD [0, 1] [2] rfl rfl (by decide) (by decide) hk1 hFc hP1 hD1
    generalize H1 = H at hP hS hce ⊢
    have hP : va_P (dC, dI) classes [(out, .inl (k 1, 1, .inr (.inl (fun _ => 0)))), (h0, .inr (0, [.ref tr, .ref ea, .ref ca, .ref ed, .int 0, .int (-1)])), (ed, .inr (3, [.ref e1, .ref e2, .int 0, .long 0, .long 0, .long 0]))] H := hP
    have hD : va_D A [(out, .inl (k 1, 1, .inr (.inl (fun _ => 0)))), (h0, .inr (0, [.ref tr, .ref ea, .ref ca, .ref ed, .int 0, .int (-1)])), (ed, .inr (3, [.ref e1, .ref e2, .int 0, .long 0, .long 0, .long 0]))] := hD
    rw [← z_upl 0] at hP hD
    have hP : va_P (dC, dI) classes [(out, .inl (k 1, 1, .inr (.inl (vp_updL (fun _ => 0) 0 0)))), (h0, .inr (0, [.ref tr, .ref ea, .ref ca, .ref ed, .int 0, .int (-1)])), (ed, .inr (3, [.ref e1, .ref e2, .int 0, .long 0, .long 0, .long 0]))] H := hP
    have hD : va_D A [(out, .inl (k 1, 1, .inr (.inl (vp_updL (fun _ => 0) 0 0)))), (h0, .inr (0, [.ref tr, .ref ea, .ref ca, .ref ed, .int 0, .int (-1)])), (ed, .inr (3, [.ref e1, .ref e2, .int 0, .long 0, .long 0, .long 0]))] := hD
    obtain ⟨rfl, hc9⟩ := hxe
    refine vx_catch hown [] ⟨0, 9, 12, 13⟩ [] hTab (fun z hz => nomatch hz) (by decide) (by decide) (htz _ kc_La_13) (va_Nw.use rfl (hE.1 _ ca_IAE)) hce hcv hcl ?_
    refine lv_astore_n (lv' := [(3, .ref q9), (0, .ref h0), (1, .int x), (2, .ref out)]) hx hb d_La_never_12 rfl hl (by decide) rfl (fun ls hl => ?_)
    refine lv_iconst (v := 1) hx hb d_La_never_13 (by decide) ?_
    refine W.widen (k := 1) (n := 6) (Nat.le_of_ble_eq_true rfl) (Nat.le_of_ble_eq_true rfl) ?_
    have hP9 := hP.sub (ws' := [(out, .inl (k 1, 1, .inr (.inl (vp_updL (fun _ => 0) 0 0))))]) [0] rfl
    have hD9 := hD.sub (ws' := [(out, .inl (k 1, 1, .inr (.inl (vp_updL (fun _ => 0) 0 0))))]) [0] (by decide) rfl
    exact W.iret (v := 1) hx hb hr (fun t ht hW => ⟨⟨1, 0, rfl, Or.inr ⟨rfl, hc9⟩, by rw [ht]; exact hP9, va_K.moved hW.alike hK, hD9⟩, hS.F ht⟩) hS.2.2 d_La_never_14
  · obtain ⟨hP1, hK1, hD1⟩ := hB
    rw [ht] at hP1
    try dsimp only at hw
    obtain ⟨hP, hD⟩ := va_join (wr := [(out, .inl (k 1, 1, .inr (.inl (fun _ => 0))))]) (w1 := [(h0, .inr (0, [.ref tr, .ref ea, .ref ca, .ref ed, .int 0, .int (-1)])), (ed, .inr (3, [.ref e1, .ref e2, .int 0, .long 0, .long 0, .long 0]))]) hP hD [0, 1] [2] rfl rfl (by decide) (by decide) hk1 hFc hP1 hD1
    generalize H1 = H at hP hS ⊢
    have hP : va_P (dC, dI) classes [(out, .inl (k 1, 1, .inr (.inl (fun _ => 0)))), (h0, .inr (0, [.ref tr, .ref ea, .ref ca, .ref ed, .int 0, .int (-1)])), (ed, .inr (3, [.ref e1, .ref e2, .int 0, .long 0, .long 0, .long 0]))] H := hP
    have hD : va_D A [(out, .inl (k 1, 1, .inr (.inl (fun _ => 0)))), (h0, .inr (0, [.ref tr, .ref ea, .ref ca, .ref ed, .int 0, .int (-1)])), (ed, .inr (3, [.ref e1, .ref e2, .int 0, .long 0, .long 0, .long 0]))] := hD
    refine lv_i2l (v := r1.toInt64) hx hb d_La_never_7 rfl ?_
    refine va_last hx hb hK hP hD hS 0 1 rfl rfl (by unfold vp_in; decide) d_La_never_8 (fun H locs hP hD hS => ?_)
    have hP : va_P (dC, dI) classes [(out, .inl (k 1, 1, .inr (.inl (vp_updL (fun _ => 0) ((0 : Int32).toNatClampNeg) r1.toInt64)))), (h0, .inr (0, [.ref tr, .ref ea, .ref ca, .ref ed, .int 0, .int (-1)])), (ed, .inr (3, [.ref e1, .ref e2, .int 0, .long 0, .long 0, .long 0]))] H := hP
    have hD : va_D A [(out, .inl (k 1, 1, .inr (.inl (vp_updL (fun _ => 0) ((0 : Int32).toNatClampNeg) r1.toInt64)))), (h0, .inr (0, [.ref tr, .ref ea, .ref ca, .ref ed, .int 0, .int (-1)])), (ed, .inr (3, [.ref e1, .ref e2, .int 0, .long 0, .long 0, .long 0]))] := hD
    have hP : va_P (dC, dI) classes [(out, .inl (k 1, 1, .inr (.inl (vp_updL (fun _ => 0) 0 (r1.toInt64))))), (h0, .inr (0, [.ref tr, .ref ea, .ref ca, .ref ed, .int 0, .int (-1)])), (ed, .inr (3, [.ref e1, .ref e2, .int 0, .long 0, .long 0, .long 0]))] H := hP
    have hD : va_D A [(out, .inl (k 1, 1, .inr (.inl (vp_updL (fun _ => 0) 0 (r1.toInt64))))), (h0, .inr (0, [.ref tr, .ref ea, .ref ca, .ref ed, .int 0, .int (-1)])), (ed, .inr (3, [.ref e1, .ref e2, .int 0, .long 0, .long 0, .long 0]))] := hD
    refine lv_goto (tgt := 15) hx hb d_La_never_9 (by decide) ?_
    refine lv_iconst (v := 0) hx hb d_La_never_15 (by decide) ?_
    refine W.widen (k := 1) (n := 6) (Nat.le_of_ble_eq_true rfl) (Nat.le_of_ble_eq_true rfl) ?_
    have hP9 := hP.sub (ws' := [(out, .inl (k 1, 1, .inr (.inl (vp_updL (fun _ => 0) 0 (r1.toInt64)))))]) [0] rfl
    have hD9 := hD.sub (ws' := [(out, .inl (k 1, 1, .inr (.inl (vp_updL (fun _ => 0) 0 (r1.toInt64)))))]) [0] (by decide) rfl
    exact W.iret (v := 0) hx hb hr (fun t ht hW => ⟨⟨0, (r1.toInt64), rfl, Or.inl ⟨rfl, hw.1, by rw [hw.2, z_mof_0]⟩, by rw [ht]; exact hP9, va_K.moved hW.alike hK, hD9⟩, hS.F ht⟩) hS.2.2 d_La_never_16
set_option maxHeartbeats 1000000 in
set_option maxRecDepth 100000 in
theorem c_La_endless (l : Launch) (hlt : l.stackTraces = false) (dC : Nat → ClassId) (dI : Nat → Nat → Nat) (k : Nat → ClassId) (sz : Nat) (h0 : Nat) (tr : Nat) (t1 : Nat) (t2 : Nat) (t3 : Nat) (ea : Nat) (ca : Nat) (c1 : Nat) (c2 : Nat) (ed : Nat) (e1 : Nat) (e2 : Nat) (x : Int32) (out : Nat) : Met l y_La_endless (Cond.codeWith y_La_endless b_La_endless 4 (some .int) [((0), (9), (12), (13))] :: z_T) (z_rm 4 1 6) (z_Pc dC dI k sz [.ref h0, .int x, .ref out] [(h0, .inr (0, [.ref tr, .ref ea, .ref ca, .ref ed, .int 0, .int (-1)])), (ed, .inr (3, [.ref e1, .ref e2, .int 0, .long 0, .long 0, .long 0])), (out, .inl (k 1, 1, .inr (.inl (fun _ => 0))))]) (va_Qi (fun (r : Int32) (u : Int64) => (r = 0 ∧ 0 ≤ x ∧ u = (0 : Int32).toInt64) ∨ (r = 1 ∧ ¬ 0 ≤ x)) (fun (u : Int64) t => z_B dC dI k (va_A [(h0, .inr (0, [.ref tr, .ref ea, .ref ca, .ref ed, .int 0, .int (-1)])), (ed, .inr (3, [.ref e1, .ref e2, .int 0, .long 0, .long 0, .long 0])), (out, .inl (k 1, 1, .inr (.inl (fun _ => 0))))] sz) [(out, .inl (k 1, 1, .inr (.inl (vp_updL (fun _ => 0) 0 u))))] t) (va_A [(h0, .inr (0, [.ref tr, .ref ea, .ref ca, .ref ed, .int 0, .int (-1)])), (ed, .inr (3, [.ref e1, .ref e2, .int 0, .long 0, .long 0, .long 0])), (out, .inl (k 1, 1, .inr (.inl (fun _ => 0))))] sz)) 1 6 (va_A [(h0, .inr (0, [.ref tr, .ref ea, .ref ca, .ref ed, .int 0, .int (-1)])), (ed, .inr (3, [.ref e1, .ref e2, .int 0, .long 0, .long 0, .long 0])), (out, .inl (k 1, 1, .inr (.inl (fun _ => 0))))] sz) := by
  refine va_MetW (cc := b_La_endless) (maxL := 4) (ret := (some .int)) (by decide) rfl ?_
  intro p e s m args below meth c s₁ B hml hv
  obtain ⟨rfl, hsz, hE, hP, hK, hD0⟩ := hv
  have hx := B.exec
  have hb := B.bytes
  have hr := B.returns
  have hts := atoms_spec (ws := Cond.codeWith y_La_endless b_La_endless 4 (some .int) [((0), (9), (12), (13))] :: z_T) B.pre
  have htz : ∀ w ∈ z_T, w.before _ s = true := fun w h => hts w (z_cons w h)
  have hown : s.vm.findClass "QuestionTextLaw" = some m.cls := findClass_of_methodNamed B.named
  have hlocks := B.notSynchronized
  subst hsz
  have hD := hD0.self (sz := s.heap.size)
  generalize hAe : va_A [(h0, .inr (0, [.ref tr, .ref ea, .ref ca, .ref ed, .int 0, .int (-1)])), (ed, .inr (3, [.ref e1, .ref e2, .int 0, .long 0, .long 0, .long 0])), (out, .inl (k 1, 1, .inr (.inl (fun _ => 0))))] s.heap.size = A at hD hE ⊢
  have hA : ∀ q : Nat, s.heap.size ≤ q → A q := fun q h => by rw [← hAe]; exact Or.inr h
  have hS : va_S A s.heap s.heap [] := va_S.rf
  have hP : va_P (dC, dI) classes [(h0, .inr (0, [.ref tr, .ref ea, .ref ca, .ref ed, .int 0, .int (-1)])), (ed, .inr (3, [.ref e1, .ref e2, .int 0, .long 0, .long 0, .long 0])), (out, .inl (k 1, 1, .inr (.inl (fun _ => 0))))] s.heap := hP
  have hl := lv_entry ([.ref h0, .int x, .ref out]) (n := 4) (Nat.le_of_ble_eq_true rfl)
  rw [lg_entry_eq]
  generalize (lg_sl ([.ref h0, .int x, .ref out]) ++ List.replicate (4 - (lg_sl ([.ref h0, .int x, .ref out])).length) Slot.unset).toArray = ls at hl ⊢
  have hl : lv_has ls 4 [(0, .ref h0), (1, .int x), (2, .ref out)] := hl
  have hTab := vx_table (x := y_La_endless) B (htz _ m_La_endless)
  refine lv_aload_n hx hb d_La_endless_0 rfl (lv_at hl 2 rfl) ?_
  refine lv_iconst (v := 0) hx hb d_La_endless_1 (by decide) ?_
  refine lv_aload_n hx hb d_La_endless_2 rfl (lv_at hl 0 rfl) ?_
  refine lv_iload_n hx hb d_La_endless_3 rfl (lv_at hl 1 rfl) ?_
  have hPc := hP.sub (ws' := [(h0, .inr (0, [.ref tr, .ref ea, .ref ca, .ref ed, .int 0, .int (-1)])), (ed, .inr (3, [.ref e1, .ref e2, .int 0, .long 0, .long 0, .long 0]))]) [0, 1] rfl
  have hDc := hD.sub (ws' := [(h0, .inr (0, [.ref tr, .ref ea, .ref ca, .ref ed, .int 0, .int (-1)])), (ed, .inr (3, [.ref e1, .ref e2, .int 0, .long 0, .long 0, .long 0]))]) [0, 1] (by decide) rfl
  have hFc := va_free (wc := [(h0, .inr (0, [.ref tr, .ref ea, .ref ca, .ref ed, .int 0, .int (-1)])), (ed, .inr (3, [.ref e1, .ref e2, .int 0, .long 0, .long 0, .long 0]))]) hD hS hA [0, 1] rfl
  refine vx_calli (vx_runV (As := [.int x]) (rest := [.int 0, .ref out]) ⟨hx, hb, hml, hown, htz⟩ (c_Q_endless l hlt dC dI k s.heap.size h0 tr ea ca 0 (-1) ed e1 e2 0 0 0 0 x) (cwV 1 htz (z_gV (fun _ h => h) km_La_46 in_Q_endless se_Q_endless ini_Q m_Q_endless) rfl rfl rfl (by decide +kernel) ⟨(Nat.le_of_ble_eq_true rfl), (Nat.le_of_ble_eq_true rfl)⟩) ⟨z_blind, va_recv hK hPc (ci := 0) (q0 := 0) rfl rfl, fun U hU hW => ⟨rfl, by rw [hU], hE.call hS hFc hU hW, by rw [hU]; exact hPc, va_K.moved hW.alike hK, hDc.weaken (fun _ _ _ _ => trivial)⟩⟩ rfl rfl hl.1 rfl (lv_room (Nat.le_of_ble_eq_true rfl)) d_La_endless_4 ⟨(Nat.le_of_ble_eq_true rfl), (Nat.le_of_ble_eq_true rfl)⟩) hS (fun q _ h => hFc q h) hFc (fun q _ h => hFc q h) (fun E ce q9 u t H1 locs ht hvm hw hB hz1 hk1 hS hce hcv hcl => ?_) (fun r1 u t H1 locs ht hvm hw hB hz1 hk1 hS => ?_)
  · obtain ⟨hxe, hP1, hK1, hD1⟩ := hB
    rw [ht] at hP1
    obtain ⟨hP, hD⟩ := va_join (wr := [(out, .inl (k 1, 1, .inr (.inl (fun _ => 0))))]) (w1 := [(h0, .inr (0, [.ref tr, .ref ea, .ref ca, .ref ed, .int 0, .int (-1)])), (ed, .inr (3, [.ref e1, .ref e2, .int 0, .long 0, .long 0, .long 0]))]) hP hD [0, 1] [2] rfl rfl (by decide) (by decide) hk1 hFc hP1 hD1
    generalize H1 = H at hP hS hce ⊢
    have hP : va_P (dC, dI) classes [(out, .inl (k 1, 1, .inr (.inl (fun _ => 0)))), (h0, .inr (0, [.ref tr, .ref ea, .ref ca, .ref ed, .int 0, .int (-1)])), (ed, .inr (3, [.ref e1, .ref e2, .int 0, .long 0, .long 0, .long 0]))] H := hP
    have hD : va_D A [(out, .inl (k 1, 1, .inr (.inl (fun _ => 0)))), (h0, .inr (0, [.ref tr, .ref ea, .ref ca, .ref ed, .int 0, .int (-1)])), (ed, .inr (3, [.ref e1, .ref e2, .int 0, .long 0, .long 0, .long 0]))] := hD
    rw [← z_upl 0] at hP hD
    have hP : va_P (dC, dI) classes [(out, .inl (k 1, 1, .inr (.inl (vp_updL (fun _ => 0) 0 0)))), (h0, .inr (0, [.ref tr, .ref ea, .ref ca, .ref ed, .int 0, .int (-1)])), (ed, .inr (3, [.ref e1, .ref e2, .int 0, .long 0, .long 0, .long 0]))] H := hP
    have hD : va_D A [(out, .inl (k 1, 1, .inr (.inl (vp_updL (fun _ => 0) 0 0)))), (h0, .inr (0, [.ref tr, .ref ea, .ref ca, .ref ed, .int 0, .int (-1)])), (ed, .inr (3, [.ref e1, .ref e2, .int 0, .long 0, .long 0, .long 0]))] := hD
    obtain ⟨rfl, hc9⟩ := hxe
    refine vx_catch hown [] ⟨0, 9, 12, 13⟩ [] hTab (fun z hz => nomatch hz) (by decide) (by decide) (htz _ kc_La_13) (va_Nw.use rfl (hE.1 _ ca_IAE)) hce hcv hcl ?_
    refine lv_astore_n (lv' := [(3, .ref q9), (0, .ref h0), (1, .int x), (2, .ref out)]) hx hb d_La_endless_12 rfl hl (by decide) rfl (fun ls hl => ?_)
    refine lv_iconst (v := 1) hx hb d_La_endless_13 (by decide) ?_
    refine W.widen (k := 1) (n := 6) (Nat.le_of_ble_eq_true rfl) (Nat.le_of_ble_eq_true rfl) ?_
    have hP9 := hP.sub (ws' := [(out, .inl (k 1, 1, .inr (.inl (vp_updL (fun _ => 0) 0 0))))]) [0] rfl
    have hD9 := hD.sub (ws' := [(out, .inl (k 1, 1, .inr (.inl (vp_updL (fun _ => 0) 0 0))))]) [0] (by decide) rfl
    exact W.iret (v := 1) hx hb hr (fun t ht hW => ⟨⟨1, 0, rfl, Or.inr ⟨rfl, hc9⟩, by rw [ht]; exact hP9, va_K.moved hW.alike hK, hD9⟩, hS.F ht⟩) hS.2.2 d_La_endless_14
  · obtain ⟨hP1, hK1, hD1⟩ := hB
    rw [ht] at hP1
    try dsimp only at hw
    obtain ⟨hP, hD⟩ := va_join (wr := [(out, .inl (k 1, 1, .inr (.inl (fun _ => 0))))]) (w1 := [(h0, .inr (0, [.ref tr, .ref ea, .ref ca, .ref ed, .int 0, .int (-1)])), (ed, .inr (3, [.ref e1, .ref e2, .int 0, .long 0, .long 0, .long 0]))]) hP hD [0, 1] [2] rfl rfl (by decide) (by decide) hk1 hFc hP1 hD1
    generalize H1 = H at hP hS ⊢
    have hP : va_P (dC, dI) classes [(out, .inl (k 1, 1, .inr (.inl (fun _ => 0)))), (h0, .inr (0, [.ref tr, .ref ea, .ref ca, .ref ed, .int 0, .int (-1)])), (ed, .inr (3, [.ref e1, .ref e2, .int 0, .long 0, .long 0, .long 0]))] H := hP
    have hD : va_D A [(out, .inl (k 1, 1, .inr (.inl (fun _ => 0)))), (h0, .inr (0, [.ref tr, .ref ea, .ref ca, .ref ed, .int 0, .int (-1)])), (ed, .inr (3, [.ref e1, .ref e2, .int 0, .long 0, .long 0, .long 0]))] := hD
    refine lv_i2l (v := r1.toInt64) hx hb d_La_endless_7 rfl ?_
    refine va_last hx hb hK hP hD hS 0 1 rfl rfl (by unfold vp_in; decide) d_La_endless_8 (fun H locs hP hD hS => ?_)
    have hP : va_P (dC, dI) classes [(out, .inl (k 1, 1, .inr (.inl (vp_updL (fun _ => 0) ((0 : Int32).toNatClampNeg) r1.toInt64)))), (h0, .inr (0, [.ref tr, .ref ea, .ref ca, .ref ed, .int 0, .int (-1)])), (ed, .inr (3, [.ref e1, .ref e2, .int 0, .long 0, .long 0, .long 0]))] H := hP
    have hD : va_D A [(out, .inl (k 1, 1, .inr (.inl (vp_updL (fun _ => 0) ((0 : Int32).toNatClampNeg) r1.toInt64)))), (h0, .inr (0, [.ref tr, .ref ea, .ref ca, .ref ed, .int 0, .int (-1)])), (ed, .inr (3, [.ref e1, .ref e2, .int 0, .long 0, .long 0, .long 0]))] := hD
    have hP : va_P (dC, dI) classes [(out, .inl (k 1, 1, .inr (.inl (vp_updL (fun _ => 0) 0 (r1.toInt64))))), (h0, .inr (0, [.ref tr, .ref ea, .ref ca, .ref ed, .int 0, .int (-1)])), (ed, .inr (3, [.ref e1, .ref e2, .int 0, .long 0, .long 0, .long 0]))] H := hP
    have hD : va_D A [(out, .inl (k 1, 1, .inr (.inl (vp_updL (fun _ => 0) 0 (r1.toInt64))))), (h0, .inr (0, [.ref tr, .ref ea, .ref ca, .ref ed, .int 0, .int (-1)])), (ed, .inr (3, [.ref e1, .ref e2, .int 0, .long 0, .long 0, .long 0]))] := hD
    refine lv_goto (tgt := 15) hx hb d_La_endless_9 (by decide) ?_
    refine lv_iconst (v := 0) hx hb d_La_endless_15 (by decide) ?_
    refine W.widen (k := 1) (n := 6) (Nat.le_of_ble_eq_true rfl) (Nat.le_of_ble_eq_true rfl) ?_
    have hP9 := hP.sub (ws' := [(out, .inl (k 1, 1, .inr (.inl (vp_updL (fun _ => 0) 0 (r1.toInt64)))))]) [0] rfl
    have hD9 := hD.sub (ws' := [(out, .inl (k 1, 1, .inr (.inl (vp_updL (fun _ => 0) 0 (r1.toInt64)))))]) [0] (by decide) rfl
    exact W.iret (v := 0) hx hb hr (fun t ht hW => ⟨⟨0, (r1.toInt64), rfl, Or.inl ⟨rfl, hw.1, by rw [hw.2, z_mof_0]⟩, by rw [ht]; exact hP9, va_K.moved hW.alike hK, hD9⟩, hS.F ht⟩) hS.2.2 d_La_endless_16
set_option maxHeartbeats 1000000 in
set_option maxRecDepth 100000 in
theorem c_La_word (l : Launch) (hlt : l.stackTraces = false) (dC : Nat → ClassId) (dI : Nat → Nat → Nat) (k : Nat → ClassId) (sz : Nat) (h0 : Nat) (tr : Nat) (t1 : Nat) (t2 : Nat) (t3 : Nat) (ea : Nat) (ca : Nat) (c1 : Nat) (c2 : Nat) (ed : Nat) (e1 : Nat) (e2 : Nat) (x : Int32) (la : Int32) (ix : Int32) (out : Nat) : Met l y_La_word (Cond.codeWith y_La_word b_La_word 6 (some .int) [((0), (12), (15), (13))] :: z_T) (z_rm 4 1 6) (z_Pc dC dI k sz [.ref h0, .int x, .int la, .int ix, .ref out] [(h0, .inr (0, [.ref tr, .ref ea, .ref ca, .ref ed, .int 0, .int (-1)])), (ed, .inr (3, [.ref e1, .ref e2, .int 0, .long 0, .long 0, .long 0])), (e1, .inl (k 3, 61, .inr (.inr (.inr (.inr (fun _ => none)))))), (e2, .inl (k 4, 10, .inr (.inr (.inr (.inr (fun _ => none)))))), (out, .inl (k 1, 1, .inr (.inl (fun _ => 0))))]) (va_Qi (fun (r : Int32) (u : Int64) => r = 1) (fun (u : Int64) t => z_B dC dI k (va_A [(h0, .inr (0, [.ref tr, .ref ea, .ref ca, .ref ed, .int 0, .int (-1)])), (ed, .inr (3, [.ref e1, .ref e2, .int 0, .long 0, .long 0, .long 0])), (e1, .inl (k 3, 61, .inr (.inr (.inr (.inr (fun _ => none)))))), (e2, .inl (k 4, 10, .inr (.inr (.inr (.inr (fun _ => none)))))), (out, .inl (k 1, 1, .inr (.inl (fun _ => 0))))] sz) [(out, .inl (k 1, 1, .inr (.inl (vp_updL (fun _ => 0) 0 u))))] t) (va_A [(h0, .inr (0, [.ref tr, .ref ea, .ref ca, .ref ed, .int 0, .int (-1)])), (ed, .inr (3, [.ref e1, .ref e2, .int 0, .long 0, .long 0, .long 0])), (e1, .inl (k 3, 61, .inr (.inr (.inr (.inr (fun _ => none)))))), (e2, .inl (k 4, 10, .inr (.inr (.inr (.inr (fun _ => none)))))), (out, .inl (k 1, 1, .inr (.inl (fun _ => 0))))] sz)) 1 6 (va_A [(h0, .inr (0, [.ref tr, .ref ea, .ref ca, .ref ed, .int 0, .int (-1)])), (ed, .inr (3, [.ref e1, .ref e2, .int 0, .long 0, .long 0, .long 0])), (e1, .inl (k 3, 61, .inr (.inr (.inr (.inr (fun _ => none)))))), (e2, .inl (k 4, 10, .inr (.inr (.inr (.inr (fun _ => none)))))), (out, .inl (k 1, 1, .inr (.inl (fun _ => 0))))] sz) := by
  refine va_MetW (cc := b_La_word) (maxL := 6) (ret := (some .int)) (by decide) rfl ?_
  intro p e s m args below meth c s₁ B hml hv
  obtain ⟨rfl, hsz, hE, hP, hK, hD0⟩ := hv
  have hx := B.exec
  have hb := B.bytes
  have hr := B.returns
  have hts := atoms_spec (ws := Cond.codeWith y_La_word b_La_word 6 (some .int) [((0), (12), (15), (13))] :: z_T) B.pre
  have htz : ∀ w ∈ z_T, w.before _ s = true := fun w h => hts w (z_cons w h)
  have hown : s.vm.findClass "QuestionTextLaw" = some m.cls := findClass_of_methodNamed B.named
  have hlocks := B.notSynchronized
  subst hsz
  have hD := hD0.self (sz := s.heap.size)
  generalize hAe : va_A [(h0, .inr (0, [.ref tr, .ref ea, .ref ca, .ref ed, .int 0, .int (-1)])), (ed, .inr (3, [.ref e1, .ref e2, .int 0, .long 0, .long 0, .long 0])), (e1, .inl (k 3, 61, .inr (.inr (.inr (.inr (fun _ => none)))))), (e2, .inl (k 4, 10, .inr (.inr (.inr (.inr (fun _ => none)))))), (out, .inl (k 1, 1, .inr (.inl (fun _ => 0))))] s.heap.size = A at hD hE ⊢
  have hA : ∀ q : Nat, s.heap.size ≤ q → A q := fun q h => by rw [← hAe]; exact Or.inr h
  have hS : va_S A s.heap s.heap [] := va_S.rf
  have hP : va_P (dC, dI) classes [(h0, .inr (0, [.ref tr, .ref ea, .ref ca, .ref ed, .int 0, .int (-1)])), (ed, .inr (3, [.ref e1, .ref e2, .int 0, .long 0, .long 0, .long 0])), (e1, .inl (k 3, 61, .inr (.inr (.inr (.inr (fun _ => none)))))), (e2, .inl (k 4, 10, .inr (.inr (.inr (.inr (fun _ => none)))))), (out, .inl (k 1, 1, .inr (.inl (fun _ => 0))))] s.heap := hP
  have hl := lv_entry ([.ref h0, .int x, .int la, .int ix, .ref out]) (n := 6) (Nat.le_of_ble_eq_true rfl)
  rw [lg_entry_eq]
  generalize (lg_sl ([.ref h0, .int x, .int la, .int ix, .ref out]) ++ List.replicate (6 - (lg_sl ([.ref h0, .int x, .int la, .int ix, .ref out])).length) Slot.unset).toArray = ls at hl ⊢
  have hl : lv_has ls 6 [(0, .ref h0), (1, .int x), (2, .int la), (3, .int ix), (4, .ref out)] := hl
  have hTab := vx_table (x := y_La_word) B (htz _ m_La_word)
  refine lv_aload hx hb d_La_word_0 (lv_at hl 4 rfl) ?_
  refine lv_iconst (v := 0) hx hb d_La_word_2 (by decide) ?_
  refine lv_aload_n hx hb d_La_word_3 rfl (lv_at hl 0 rfl) ?_
  refine lv_iload_n hx hb d_La_word_4 rfl (lv_at hl 1 rfl) ?_
  refine lv_iload_n hx hb d_La_word_5 rfl (lv_at hl 2 rfl) ?_
  refine lv_iload_n hx hb d_La_word_6 rfl (lv_at hl 3 rfl) ?_
  have hPc := hP.sub (ws' := [(h0, .inr (0, [.ref tr, .ref ea, .ref ca, .ref ed, .int 0, .int (-1)])), (ed, .inr (3, [.ref e1, .ref e2, .int 0, .long 0, .long 0, .long 0])), (e1, .inl (k 3, 61, .inr (.inr (.inr (.inr (fun _ => none)))))), (e2, .inl (k 4, 10, .inr (.inr (.inr (.inr (fun _ => none))))))]) [0, 1, 2, 3] rfl
  have hDc := hD.sub (ws' := [(h0, .inr (0, [.ref tr, .ref ea, .ref ca, .ref ed, .int 0, .int (-1)])), (ed, .inr (3, [.ref e1, .ref e2, .int 0, .long 0, .long 0, .long 0])), (e1, .inl (k 3, 61, .inr (.inr (.inr (.inr (fun _ => none)))))), (e2, .inl (k 4, 10, .inr (.inr (.inr (.inr (fun _ => none))))))]) [0, 1, 2, 3] (by decide) rfl
  have hFc := va_free (wc := [(h0, .inr (0, [.ref tr, .ref ea, .ref ca, .ref ed, .int 0, .int (-1)])), (ed, .inr (3, [.ref e1, .ref e2, .int 0, .long 0, .long 0, .long 0])), (e1, .inl (k 3, 61, .inr (.inr (.inr (.inr (fun _ => none)))))), (e2, .inl (k 4, 10, .inr (.inr (.inr (.inr (fun _ => none))))))]) hD hS hA [0, 1, 2, 3] rfl
  refine vx_calli (vx_runV (As := [.int x, .int la, .int ix]) (rest := [.int 0, .ref out]) ⟨hx, hb, hml, hown, htz⟩ (c_Q_word_none l hlt dC dI k s.heap.size h0 tr ea ca 0 (-1) ed e1 e2 0 0 0 0 (fun _ => none) (fun _ => none) x la ix (z_rd_none _ _)) (cwV 3 htz (z_gV (fun _ h => h) km_La_49 in_Q_word se_Q_word ini_Q m_Q_word) rfl rfl rfl (by decide +kernel) ⟨(Nat.le_of_ble_eq_true rfl), (Nat.le_of_ble_eq_true rfl)⟩) ⟨z_blind, va_recv hK hPc (ci := 0) (q0 := 0) rfl rfl, fun U hU hW => ⟨rfl, by rw [hU], hE.call hS hFc hU hW, by rw [hU]; exact hPc, va_K.moved hW.alike hK, hDc.weaken (fun _ _ _ _ => trivial)⟩⟩ rfl rfl hl.1 rfl (lv_room (Nat.le_of_ble_eq_true rfl)) d_La_word_7 ⟨(Nat.le_of_ble_eq_true rfl), (Nat.le_of_ble_eq_true rfl)⟩) hS (fun q _ h => hFc q h) hFc (fun q _ h => hFc q h) (fun E ce q9 u t H1 locs ht hvm hw hB hz1 hk1 hS hce hcv hcl => ?_) (fun r1 u t H1 locs ht hvm hw hB hz1 hk1 hS => ?_)
  · obtain ⟨hxe, hP1, hK1, hD1⟩ := hB
    rw [ht] at hP1
    obtain ⟨hP, hD⟩ := va_join (wr := [(out, .inl (k 1, 1, .inr (.inl (fun _ => 0))))]) (w1 := [(h0, .inr (0, [.ref tr, .ref ea, .ref ca, .ref ed, .int 0, .int (-1)])), (ed, .inr (3, [.ref e1, .ref e2, .int 0, .long 0, .long 0, .long 0])), (e1, .inl (k 3, 61, .inr (.inr (.inr (.inr (fun _ => none)))))), (e2, .inl (k 4, 10, .inr (.inr (.inr (.inr (fun _ => none))))))]) hP hD [0, 1, 2, 3] [4] rfl rfl (by decide) (by decide) hk1 hFc hP1 hD1
    generalize H1 = H at hP hS hce ⊢
    have hP : va_P (dC, dI) classes [(out, .inl (k 1, 1, .inr (.inl (fun _ => 0)))), (h0, .inr (0, [.ref tr, .ref ea, .ref ca, .ref ed, .int 0, .int (-1)])), (ed, .inr (3, [.ref e1, .ref e2, .int 0, .long 0, .long 0, .long 0])), (e1, .inl (k 3, 61, .inr (.inr (.inr (.inr (fun _ => none)))))), (e2, .inl (k 4, 10, .inr (.inr (.inr (.inr (fun _ => none))))))] H := hP
    have hD : va_D A [(out, .inl (k 1, 1, .inr (.inl (fun _ => 0)))), (h0, .inr (0, [.ref tr, .ref ea, .ref ca, .ref ed, .int 0, .int (-1)])), (ed, .inr (3, [.ref e1, .ref e2, .int 0, .long 0, .long 0, .long 0])), (e1, .inl (k 3, 61, .inr (.inr (.inr (.inr (fun _ => none)))))), (e2, .inl (k 4, 10, .inr (.inr (.inr (.inr (fun _ => none))))))] := hD
    rw [← z_upl 0] at hP hD
    have hP : va_P (dC, dI) classes [(out, .inl (k 1, 1, .inr (.inl (vp_updL (fun _ => 0) 0 0)))), (h0, .inr (0, [.ref tr, .ref ea, .ref ca, .ref ed, .int 0, .int (-1)])), (ed, .inr (3, [.ref e1, .ref e2, .int 0, .long 0, .long 0, .long 0])), (e1, .inl (k 3, 61, .inr (.inr (.inr (.inr (fun _ => none)))))), (e2, .inl (k 4, 10, .inr (.inr (.inr (.inr (fun _ => none))))))] H := hP
    have hD : va_D A [(out, .inl (k 1, 1, .inr (.inl (vp_updL (fun _ => 0) 0 0)))), (h0, .inr (0, [.ref tr, .ref ea, .ref ca, .ref ed, .int 0, .int (-1)])), (ed, .inr (3, [.ref e1, .ref e2, .int 0, .long 0, .long 0, .long 0])), (e1, .inl (k 3, 61, .inr (.inr (.inr (.inr (fun _ => none)))))), (e2, .inl (k 4, 10, .inr (.inr (.inr (.inr (fun _ => none))))))] := hD
    obtain rfl := hxe
    refine vx_catch hown [] ⟨0, 12, 15, 13⟩ [] hTab (fun z hz => nomatch hz) (by decide) (by decide) (htz _ kc_La_13) (va_Nw.use rfl (hE.1 _ ca_IAE)) hce hcv hcl ?_
    refine lv_astore (lv' := [(5, .ref q9), (0, .ref h0), (1, .int x), (2, .int la), (3, .int ix), (4, .ref out)]) hx hb d_La_word_15 hl (by decide) rfl (fun ls hl => ?_)
    refine lv_iconst (v := 1) hx hb d_La_word_17 (by decide) ?_
    refine W.widen (k := 1) (n := 6) (Nat.le_of_ble_eq_true rfl) (Nat.le_of_ble_eq_true rfl) ?_
    have hP9 := hP.sub (ws' := [(out, .inl (k 1, 1, .inr (.inl (vp_updL (fun _ => 0) 0 0))))]) [0] rfl
    have hD9 := hD.sub (ws' := [(out, .inl (k 1, 1, .inr (.inl (vp_updL (fun _ => 0) 0 0))))]) [0] (by decide) rfl
    exact W.iret (v := 1) hx hb hr (fun t ht hW => ⟨⟨1, 0, rfl, rfl, by rw [ht]; exact hP9, va_K.moved hW.alike hK, hD9⟩, hS.F ht⟩) hS.2.2 d_La_word_18
  · exact hw.elim
