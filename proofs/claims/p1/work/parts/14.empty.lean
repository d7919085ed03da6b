-- reading an empty tape
theorem z_upn (k : Nat) : va_up (fun _ => (none : Option Nat)) k none = fun _ => none := by
  funext j
  unfold va_up
  by_cases h : j = k
  · rw [if_pos h]
  · rw [if_neg h]
theorem z_upl (k : Nat) : vp_updL (fun _ => 0) k 0 = fun _ => 0 := by
  funext j
  unfold vp_updL
  by_cases h : j = k
  · rw [if_pos h]
  · rw [if_neg h]
set_option maxHeartbeats 1000000 in
set_option maxRecDepth 100000 in
theorem c_TR_nextSign_0 (l : Launch) (dC : Nat → ClassId) (dI : Nat → Nat → Nat) (k : Nat → ClassId) (sz : Nat) (h0 : Nat) (t1 : Nat) (t2 : Nat) (t3 : Nat) : Met l y_TR_nextSign (Cond.code y_TR_nextSign b_TR_nextSign 1 (some .int) :: z_T) (z_rm 0 0 0) (z_Pc dC dI k sz [.ref h0] [(h0, .inr (1, [.ref t1, .ref t2, .ref t3, .int 0, .int 0])), (t1, .inl (k 0, 400, .inl (fun _ => 0))), (t2, .inl (k 3, 61, .inr (.inr (.inr (.inr (fun _ => none)))))), (t3, .inl (k 4, 10, .inr (.inr (.inr (.inr (fun _ => none))))))]) (va_Qi (fun (r : Int32) (u : Unit) => r = -1) (fun (u : Unit) t => z_B dC dI k (va_A [(h0, .inr (1, [.ref t1, .ref t2, .ref t3, .int 0, .int 0])), (t1, .inl (k 0, 400, .inl (fun _ => 0))), (t2, .inl (k 3, 61, .inr (.inr (.inr (.inr (fun _ => none)))))), (t3, .inl (k 4, 10, .inr (.inr (.inr (.inr (fun _ => none))))))] sz) [(h0, .inr (1, [.ref t1, .ref t2, .ref t3, .int 0, .int 0])), (t1, .inl (k 0, 400, .inl (fun _ => 0))), (t2, .inl (k 3, 61, .inr (.inr (.inr (.inr (fun _ => none)))))), (t3, .inl (k 4, 10, .inr (.inr (.inr (.inr (fun _ => none))))))] t) (va_A [(h0, .inr (1, [.ref t1, .ref t2, .ref t3, .int 0, .int 0])), (t1, .inl (k 0, 400, .inl (fun _ => 0))), (t2, .inl (k 3, 61, .inr (.inr (.inr (.inr (fun _ => none)))))), (t3, .inl (k 4, 10, .inr (.inr (.inr (.inr (fun _ => none))))))] sz)) 0 0 (va_A [(h0, .inr (1, [.ref t1, .ref t2, .ref t3, .int 0, .int 0])), (t1, .inl (k 0, 400, .inl (fun _ => 0))), (t2, .inl (k 3, 61, .inr (.inr (.inr (.inr (fun _ => none)))))), (t3, .inl (k 4, 10, .inr (.inr (.inr (.inr (fun _ => none))))))] sz) := by
  refine Met.ofW (cc := b_TR_nextSign) (maxL := 1) (ret := (some .int)) (by decide) rfl ?_
  intro p e s m args below meth c s₁ B hml hv
  obtain ⟨rfl, hsz, hE, hP, hK, hD0⟩ := hv
  have hx := B.exec
  have hb := B.bytes
  have hr := B.returns
  have hts := atoms_spec (ws := Cond.code y_TR_nextSign b_TR_nextSign 1 (some .int) :: z_T) B.pre
  have htz : ∀ w ∈ z_T, w.before _ s = true := fun w h => hts w (z_cons w h)
  have hown : s.vm.findClass "QuestionText$TextReader" = some m.cls := findClass_of_methodNamed B.named
  have hlocks := B.notSynchronized
  subst hsz
  have hD := hD0.self (sz := s.heap.size)
  generalize hAe : va_A [(h0, .inr (1, [.ref t1, .ref t2, .ref t3, .int 0, .int 0])), (t1, .inl (k 0, 400, .inl (fun _ => 0))), (t2, .inl (k 3, 61, .inr (.inr (.inr (.inr (fun _ => none)))))), (t3, .inl (k 4, 10, .inr (.inr (.inr (.inr (fun _ => none))))))] s.heap.size = A at hD hE ⊢
  have hA : ∀ q : Nat, s.heap.size ≤ q → A q := fun q h => by rw [← hAe]; exact Or.inr h
  have hS : va_S A s.heap s.heap [] := va_S.rf
  have hP : va_P (dC, dI) classes [(h0, .inr (1, [.ref t1, .ref t2, .ref t3, .int 0, .int 0])), (t1, .inl (k 0, 400, .inl (fun _ => 0))), (t2, .inl (k 3, 61, .inr (.inr (.inr (.inr (fun _ => none)))))), (t3, .inl (k 4, 10, .inr (.inr (.inr (.inr (fun _ => none))))))] s.heap := hP
  have hl := lv_entry ([.ref h0]) (n := 1) (Nat.le_of_ble_eq_true rfl)
  rw [lg_entry_eq]
  generalize (lg_sl ([.ref h0]) ++ List.replicate (1 - (lg_sl ([.ref h0])).length) Slot.unset).toArray = ls at hl ⊢
  have hl : lv_has ls 1 [(0, .ref h0)] := hl
  refine lv_aload_n hx hb d_TR_nextSign_0 rfl (lv_at hl 0 rfl) ?_
  refine va_get (D := (dC, dI)) (ci := 1) (v := .int 0) (C := R_TR) (T := F_TR) (N := 5) hx hb htz i_TR hown hK hP 0 rfl rfl 4 (by decide) (htz _ kf_TR_31) (fun _ h9 => h9) rfl d_TR_nextSign_1 ?_
  refine lv_aload_n hx hb d_TR_nextSign_4 rfl (lv_at hl 0 rfl) ?_
  refine va_get (D := (dC, dI)) (ci := 1) (v := .int 0) (C := R_TR) (T := F_TR) (N := 5) hx hb htz i_TR hown hK hP 0 rfl rfl 3 (by decide) (htz _ kf_TR_27) (fun _ h9 => h9) rfl d_TR_nextSign_5 ?_
  refine lv_icmp_ge (tgt := 38) hx hb d_TR_nextSign_8 (by decide) (fun c_8 => ?_) (fun c_8 => ?_)
  · refine lv_aload_n hx hb d_TR_nextSign_38 rfl (lv_at hl 0 rfl) ?_
    refine va_get (D := (dC, dI)) (ci := 1) (v := .int 0) (C := R_TR) (T := F_TR) (N := 5) hx hb htz i_TR hown hK hP 0 rfl rfl 4 (by decide) (htz _ kf_TR_31) (fun _ h9 => h9) rfl d_TR_nextSign_39 ?_
    refine lv_aload_n hx hb d_TR_nextSign_42 rfl (lv_at hl 0 rfl) ?_
    refine va_get (D := (dC, dI)) (ci := 1) (v := .int 0) (C := R_TR) (T := F_TR) (N := 5) hx hb htz i_TR hown hK hP 0 rfl rfl 3 (by decide) (htz _ kf_TR_27) (fun _ h9 => h9) rfl d_TR_nextSign_43 ?_
    refine lv_icmp_ge (tgt := 61) hx hb d_TR_nextSign_46 (by decide) (fun c_46 => ?_) (fun c_46 => ?_)
    · refine lv_iconst (v := -1) hx hb d_TR_nextSign_61 (by decide) ?_
      have hP9 := hP.sub (ws' := [(h0, .inr (1, [.ref t1, .ref t2, .ref t3, .int 0, .int 0])), (t1, .inl (k 0, 400, .inl (fun _ => 0))), (t2, .inl (k 3, 61, .inr (.inr (.inr (.inr (fun _ => none)))))), (t3, .inl (k 4, 10, .inr (.inr (.inr (.inr (fun _ => none))))))]) [0, 1, 2, 3] rfl
      have hD9 := hD.sub (ws' := [(h0, .inr (1, [.ref t1, .ref t2, .ref t3, .int 0, .int 0])), (t1, .inl (k 0, 400, .inl (fun _ => 0))), (t2, .inl (k 3, 61, .inr (.inr (.inr (.inr (fun _ => none)))))), (t3, .inl (k 4, 10, .inr (.inr (.inr (.inr (fun _ => none))))))]) [0, 1, 2, 3] (by decide) rfl
      exact W.iret (v := (-1)) hx hb hr (fun t ht hW => ⟨⟨(-1), (), rfl, rfl, by rw [ht]; exact hP9, va_K.moved hW.alike hK, hD9⟩, hS.F ht⟩) hS.2.2 d_TR_nextSign_62
    · exact absurd (by decide) c_46
  · exact absurd (by decide) c_8
set_option maxHeartbeats 1000000 in
set_option maxRecDepth 100000 in
theorem c_TR_forgetRows_0 (l : Launch) (dC : Nat → ClassId) (dI : Nat → Nat → Nat) (k : Nat → ClassId) (sz : Nat) (h0 : Nat) (t1 : Nat) (t2 : Nat) (t3 : Nat) : Met l y_TR_forgetRows (Cond.code y_TR_forgetRows b_TR_forgetRows 2 none :: z_T) (z_rm 0 0 0) (z_Pc dC dI k sz [.ref h0] [(h0, .inr (1, [.ref t1, .ref t2, .ref t3, .int 0, .int 0])), (t1, .inl (k 0, 400, .inl (fun _ => 0))), (t2, .inl (k 3, 61, .inr (.inr (.inr (.inr (fun _ => none)))))), (t3, .inl (k 4, 10, .inr (.inr (.inr (.inr (fun _ => none))))))]) (va_Qv (fun (u : Unit) => True) (fun (u : Unit) t => z_B dC dI k (va_A [(h0, .inr (1, [.ref t1, .ref t2, .ref t3, .int 0, .int 0])), (t1, .inl (k 0, 400, .inl (fun _ => 0))), (t2, .inl (k 3, 61, .inr (.inr (.inr (.inr (fun _ => none)))))), (t3, .inl (k 4, 10, .inr (.inr (.inr (.inr (fun _ => none))))))] sz) [(h0, .inr (1, [.ref t1, .ref t2, .ref t3, .int 0, .int 0])), (t1, .inl (k 0, 400, .inl (fun _ => 0))), (t2, .inl (k 3, 61, .inr (.inr (.inr (.inr (fun _ => none)))))), (t3, .inl (k 4, 10, .inr (.inr (.inr (.inr (fun _ => none))))))] t) (va_A [(h0, .inr (1, [.ref t1, .ref t2, .ref t3, .int 0, .int 0])), (t1, .inl (k 0, 400, .inl (fun _ => 0))), (t2, .inl (k 3, 61, .inr (.inr (.inr (.inr (fun _ => none)))))), (t3, .inl (k 4, 10, .inr (.inr (.inr (.inr (fun _ => none))))))] sz)) 0 0 (va_A [(h0, .inr (1, [.ref t1, .ref t2, .ref t3, .int 0, .int 0])), (t1, .inl (k 0, 400, .inl (fun _ => 0))), (t2, .inl (k 3, 61, .inr (.inr (.inr (.inr (fun _ => none)))))), (t3, .inl (k 4, 10, .inr (.inr (.inr (.inr (fun _ => none))))))] sz) := by
  refine Met.ofW (cc := b_TR_forgetRows) (maxL := 2) (ret := none) (by decide) rfl ?_
  intro p e s m args below meth c s₁ B hml hv
  obtain ⟨rfl, hsz, hE, hP, hK, hD0⟩ := hv
  have hx := B.exec
  have hb := B.bytes
  have hr := B.returns
  have hts := atoms_spec (ws := Cond.code y_TR_forgetRows b_TR_forgetRows 2 none :: z_T) B.pre
  have htz : ∀ w ∈ z_T, w.before _ s = true := fun w h => hts w (z_cons w h)
  have hown : s.vm.findClass "QuestionText$TextReader" = some m.cls := findClass_of_methodNamed B.named
  have hlocks := B.notSynchronized
  subst hsz
  have hD := hD0.self (sz := s.heap.size)
  generalize hAe : va_A [(h0, .inr (1, [.ref t1, .ref t2, .ref t3, .int 0, .int 0])), (t1, .inl (k 0, 400, .inl (fun _ => 0))), (t2, .inl (k 3, 61, .inr (.inr (.inr (.inr (fun _ => none)))))), (t3, .inl (k 4, 10, .inr (.inr (.inr (.inr (fun _ => none))))))] s.heap.size = A at hD hE ⊢
  have hA : ∀ q : Nat, s.heap.size ≤ q → A q := fun q h => by rw [← hAe]; exact Or.inr h
  have hS : va_S A s.heap s.heap [] := va_S.rf
  have hP : va_P (dC, dI) classes [(h0, .inr (1, [.ref t1, .ref t2, .ref t3, .int 0, .int 0])), (t1, .inl (k 0, 400, .inl (fun _ => 0))), (t2, .inl (k 3, 61, .inr (.inr (.inr (.inr (fun _ => none)))))), (t3, .inl (k 4, 10, .inr (.inr (.inr (.inr (fun _ => none))))))] s.heap := hP
  have hl := lv_entry ([.ref h0]) (n := 2) (Nat.le_of_ble_eq_true rfl)
  rw [lg_entry_eq]
  generalize (lg_sl ([.ref h0]) ++ List.replicate (2 - (lg_sl ([.ref h0])).length) Slot.unset).toArray = ls at hl ⊢
  have hl : lv_has ls 2 [(0, .ref h0)] := hl
  refine lv_iconst (v := 0) hx hb d_TR_forgetRows_0 (by decide) ?_
  refine lv_istore_n (lv' := [(1, .int 0), (0, .ref h0)]) hx hb d_TR_forgetRows_1 rfl hl (by decide) rfl (fun ls hl => ?_)
  have loop_2 : ∀ (d_i1 i1 : Nat) (H : Heap) (locs : List Loc) (ls : Array Slot), i1 + d_i1 = 61 → va_P (dC, dI) classes [(h0, .inr (1, [.ref t1, .ref t2, .ref t3, .int 0, .int 0])), (t1, .inl (k 0, 400, .inl (fun _ => 0))), (t2, .inl (k 3, 61, .inr (.inr (.inr (.inr (fun _ => none)))))), (t3, .inl (k 4, 10, .inr (.inr (.inr (.inr (fun _ => none))))))] H → va_D A [(h0, .inr (1, [.ref t1, .ref t2, .ref t3, .int 0, .int 0])), (t1, .inl (k 0, 400, .inl (fun _ => 0))), (t2, .inl (k 3, 61, .inr (.inr (.inr (.inr (fun _ => none)))))), (t3, .inl (k 4, 10, .inr (.inr (.inr (.inr (fun _ => none))))))] → va_S A s.heap H locs → lv_has ls 2 [(0, .ref h0), (1, .int (nI i1))] → W p l e (headSpec (Cond.code y_TR_forgetRows b_TR_forgetRows 2 none :: z_T) (z_rm 0 0 0)).room s m ([.ref h0] : List Value).toArray below meth c H locs 0 0 (MQ below (va_Qv (fun (u : Unit) => True) (fun (u : Unit) t => z_B dC dI k A [(h0, .inr (1, [.ref t1, .ref t2, .ref t3, .int 0, .int 0])), (t1, .inl (k 0, 400, .inl (fun _ => 0))), (t2, .inl (k 3, 61, .inr (.inr (.inr (.inr (fun _ => none)))))), (t3, .inl (k 4, 10, .inr (.inr (.inr (.inr (fun _ => none))))))] t) A) ([.ref h0] : List Value).toArray s 0 0 A) (F0 m 2 ls []) := by
    intro d_i1
    induction d_i1 with
    | zero =>
      intro i1 H locs ls hi_i1 hP hD hS hl
      refine lv_iload_n hx hb d_TR_forgetRows_2 rfl (lv_at hl 1 rfl) ?_
      refine lv_bipush (v := 60) hx hb d_TR_forgetRows_3 (by decide) ?_
      refine lv_icmp_gt (tgt := 21) hx hb d_TR_forgetRows_5 (by decide) (fun c_5 => ?_) (fun c_5 => ?_)
      · refine lv_iconst (v := 0) hx hb d_TR_forgetRows_21 (by decide) ?_
        refine lv_istore_n (lv' := [(1, .int 0), (0, .ref h0)]) hx hb d_TR_forgetRows_22 rfl hl (by decide) rfl (fun ls hl => ?_)
        have loop_23 : ∀ (d_i2 i2 : Nat) (H : Heap) (locs : List Loc) (ls : Array Slot), i2 + d_i2 = 10 → va_P (dC, dI) classes [(h0, .inr (1, [.ref t1, .ref t2, .ref t3, .int 0, .int 0])), (t1, .inl (k 0, 400, .inl (fun _ => 0))), (t2, .inl (k 3, 61, .inr (.inr (.inr (.inr (fun _ => none)))))), (t3, .inl (k 4, 10, .inr (.inr (.inr (.inr (fun _ => none))))))] H → va_D A [(h0, .inr (1, [.ref t1, .ref t2, .ref t3, .int 0, .int 0])), (t1, .inl (k 0, 400, .inl (fun _ => 0))), (t2, .inl (k 3, 61, .inr (.inr (.inr (.inr (fun _ => none)))))), (t3, .inl (k 4, 10, .inr (.inr (.inr (.inr (fun _ => none))))))] → va_S A s.heap H locs → lv_has ls 2 [(0, .ref h0), (1, .int (nI i2))] → W p l e (headSpec (Cond.code y_TR_forgetRows b_TR_forgetRows 2 none :: z_T) (z_rm 0 0 0)).room s m ([.ref h0] : List Value).toArray below meth c H locs 0 0 (MQ below (va_Qv (fun (u : Unit) => True) (fun (u : Unit) t => z_B dC dI k A [(h0, .inr (1, [.ref t1, .ref t2, .ref t3, .int 0, .int 0])), (t1, .inl (k 0, 400, .inl (fun _ => 0))), (t2, .inl (k 3, 61, .inr (.inr (.inr (.inr (fun _ => none)))))), (t3, .inl (k 4, 10, .inr (.inr (.inr (.inr (fun _ => none))))))] t) A) ([.ref h0] : List Value).toArray s 0 0 A) (F0 m 23 ls []) := by
          intro d_i2
          induction d_i2 with
          | zero =>
            intro i2 H locs ls hi_i2 hP hD hS hl
            refine lv_iload_n hx hb d_TR_forgetRows_23 rfl (lv_at hl 1 rfl) ?_
            refine lv_bipush (v := 9) hx hb d_TR_forgetRows_24 (by decide) ?_
            refine lv_icmp_gt (tgt := 42) hx hb d_TR_forgetRows_26 (by decide) (fun c_26 => ?_) (fun c_26 => ?_)
            · have hP9 := hP.sub (ws' := [(h0, .inr (1, [.ref t1, .ref t2, .ref t3, .int 0, .int 0])), (t1, .inl (k 0, 400, .inl (fun _ => 0))), (t2, .inl (k 3, 61, .inr (.inr (.inr (.inr (fun _ => none)))))), (t3, .inl (k 4, 10, .inr (.inr (.inr (.inr (fun _ => none))))))]) [0, 1, 2, 3] rfl
              have hD9 := hD.sub (ws' := [(h0, .inr (1, [.ref t1, .ref t2, .ref t3, .int 0, .int 0])), (t1, .inl (k 0, 400, .inl (fun _ => 0))), (t2, .inl (k 3, 61, .inr (.inr (.inr (.inr (fun _ => none)))))), (t3, .inl (k 4, 10, .inr (.inr (.inr (.inr (fun _ => none))))))]) [0, 1, 2, 3] (by decide) rfl
              exact W.vret hx hb hr (fun t ht hW => ⟨⟨(), rfl, trivial, by rw [ht]; exact hP9, va_K.moved hW.alike hK, hD9⟩, hS.F ht⟩) hS.2.2 d_TR_forgetRows_42
            · exact absurd (show nI 9 < nI i2 from nI_lt (by omega) (by omega)) c_26
          | succ d_i2 ih_i2 =>
            intro i2 H locs ls hi_i2 hP hD hS hl
            refine lv_iload_n hx hb d_TR_forgetRows_23 rfl (lv_at hl 1 rfl) ?_
            refine lv_bipush (v := 9) hx hb d_TR_forgetRows_24 (by decide) ?_
            refine lv_icmp_gt (tgt := 42) hx hb d_TR_forgetRows_26 (by decide) (fun c_26 => ?_) (fun c_26 => ?_)
            · exact absurd (show nI 9 < nI i2 from c_26) (nI_nlt (by omega) (by decide))
            · refine lv_aload_n hx hb d_TR_forgetRows_29 rfl (lv_at hl 0 rfl) ?_
              refine va_get (D := (dC, dI)) (ci := 1) (v := .ref t3) (C := R_TR) (T := F_TR) (N := 5) hx hb htz i_TR hown hK hP 0 rfl rfl 2 (by decide) (htz _ kf_TR_23) (fun _ h9 => h9) rfl d_TR_forgetRows_30 ?_
              refine lv_iload_n hx hb d_TR_forgetRows_33 rfl (lv_at hl 1 rfl) ?_
              refine lv_null hx hb d_TR_forgetRows_34 ?_
              refine va_astqN hx hb hK hP hD hS 3 4 rfl rfl (vp_in_nI (by omega) (by decide)) d_TR_forgetRows_35 (fun H locs hP hD hS => ?_)
              have hP : va_P (dC, dI) classes [(h0, .inr (1, [.ref t1, .ref t2, .ref t3, .int 0, .int 0])), (t1, .inl (k 0, 400, .inl (fun _ => 0))), (t2, .inl (k 3, 61, .inr (.inr (.inr (.inr (fun _ => none)))))), (t3, .inl (k 4, 10, .inr (.inr (.inr (.inr (va_up (fun _ => none) ((nI i2).toNatClampNeg) none))))))] H := hP
              have hD : va_D A [(h0, .inr (1, [.ref t1, .ref t2, .ref t3, .int 0, .int 0])), (t1, .inl (k 0, 400, .inl (fun _ => 0))), (t2, .inl (k 3, 61, .inr (.inr (.inr (.inr (fun _ => none)))))), (t3, .inl (k 4, 10, .inr (.inr (.inr (.inr (va_up (fun _ => none) ((nI i2).toNatClampNeg) none))))))] := hD
              rw [z_upn] at hP hD
              have hP : va_P (dC, dI) classes [(h0, .inr (1, [.ref t1, .ref t2, .ref t3, .int 0, .int 0])), (t1, .inl (k 0, 400, .inl (fun _ => 0))), (t2, .inl (k 3, 61, .inr (.inr (.inr (.inr (fun _ => none)))))), (t3, .inl (k 4, 10, .inr (.inr (.inr (.inr (fun _ => none))))))] H := hP
              have hD : va_D A [(h0, .inr (1, [.ref t1, .ref t2, .ref t3, .int 0, .int 0])), (t1, .inl (k 0, 400, .inl (fun _ => 0))), (t2, .inl (k 3, 61, .inr (.inr (.inr (.inr (fun _ => none)))))), (t3, .inl (k 4, 10, .inr (.inr (.inr (.inr (fun _ => none))))))] := hD
              refine lv_iinc (v := nI (i2 + 1)) (lv' := [(1, .int (nI (i2 + 1))), (0, .ref h0)]) hx hb d_TR_forgetRows_36 hl (k := 1) rfl (nI_1 i2) (by decide) rfl (fun ls hl => ?_)
              refine lv_goto (tgt := 23) hx hb d_TR_forgetRows_39 (by decide) ?_
              exact ih_i2 (i2 + 1) H locs ls (by omega) (hP.sub [0, 1, 2, 3] rfl) (hD.sub [0, 1, 2, 3] (by decide) rfl) hS (lv_sub hl [1, 0] rfl)
        exact loop_23 10 0 _ _ ls (by omega) hP hD hS (lv_sub hl [1, 0] rfl)
      · exact absurd (show nI 60 < nI i1 from nI_lt (by omega) (by omega)) c_5
    | succ d_i1 ih_i1 =>
      intro i1 H locs ls hi_i1 hP hD hS hl
      refine lv_iload_n hx hb d_TR_forgetRows_2 rfl (lv_at hl 1 rfl) ?_
      refine lv_bipush (v := 60) hx hb d_TR_forgetRows_3 (by decide) ?_
      refine lv_icmp_gt (tgt := 21) hx hb d_TR_forgetRows_5 (by decide) (fun c_5 => ?_) (fun c_5 => ?_)
      · exact absurd (show nI 60 < nI i1 from c_5) (nI_nlt (by omega) (by decide))
      · refine lv_aload_n hx hb d_TR_forgetRows_8 rfl (lv_at hl 0 rfl) ?_
        refine va_get (D := (dC, dI)) (ci := 1) (v := .ref t2) (C := R_TR) (T := F_TR) (N := 5) hx hb htz i_TR hown hK hP 0 rfl rfl 1 (by decide) (htz _ kf_TR_17) (fun _ h9 => h9) rfl d_TR_forgetRows_9 ?_
        refine lv_iload_n hx hb d_TR_forgetRows_12 rfl (lv_at hl 1 rfl) ?_
        refine lv_null hx hb d_TR_forgetRows_13 ?_
        refine va_astqN hx hb hK hP hD hS 2 3 rfl rfl (vp_in_nI (by omega) (by decide)) d_TR_forgetRows_14 (fun H locs hP hD hS => ?_)
        have hP : va_P (dC, dI) classes [(h0, .inr (1, [.ref t1, .ref t2, .ref t3, .int 0, .int 0])), (t1, .inl (k 0, 400, .inl (fun _ => 0))), (t2, .inl (k 3, 61, .inr (.inr (.inr (.inr (va_up (fun _ => none) ((nI i1).toNatClampNeg) none)))))), (t3, .inl (k 4, 10, .inr (.inr (.inr (.inr (fun _ => none))))))] H := hP
        have hD : va_D A [(h0, .inr (1, [.ref t1, .ref t2, .ref t3, .int 0, .int 0])), (t1, .inl (k 0, 400, .inl (fun _ => 0))), (t2, .inl (k 3, 61, .inr (.inr (.inr (.inr (va_up (fun _ => none) ((nI i1).toNatClampNeg) none)))))), (t3, .inl (k 4, 10, .inr (.inr (.inr (.inr (fun _ => none))))))] := hD
        rw [z_upn] at hP hD
        have hP : va_P (dC, dI) classes [(h0, .inr (1, [.ref t1, .ref t2, .ref t3, .int 0, .int 0])), (t1, .inl (k 0, 400, .inl (fun _ => 0))), (t2, .inl (k 3, 61, .inr (.inr (.inr (.inr (fun _ => none)))))), (t3, .inl (k 4, 10, .inr (.inr (.inr (.inr (fun _ => none))))))] H := hP
        have hD : va_D A [(h0, .inr (1, [.ref t1, .ref t2, .ref t3, .int 0, .int 0])), (t1, .inl (k 0, 400, .inl (fun _ => 0))), (t2, .inl (k 3, 61, .inr (.inr (.inr (.inr (fun _ => none)))))), (t3, .inl (k 4, 10, .inr (.inr (.inr (.inr (fun _ => none))))))] := hD
        refine lv_iinc (v := nI (i1 + 1)) (lv' := [(1, .int (nI (i1 + 1))), (0, .ref h0)]) hx hb d_TR_forgetRows_15 hl (k := 1) rfl (nI_1 i1) (by decide) rfl (fun ls hl => ?_)
        refine lv_goto (tgt := 2) hx hb d_TR_forgetRows_18 (by decide) ?_
        exact ih_i1 (i1 + 1) H locs ls (by omega) (hP.sub [0, 1, 2, 3] rfl) (hD.sub [0, 1, 2, 3] (by decide) rfl) hS (lv_sub hl [1, 0] rfl)
  exact loop_2 61 0 _ _ ls (by omega) hP hD hS (lv_sub hl [1, 0] rfl)
set_option maxHeartbeats 1000000 in
set_option maxRecDepth 100000 in
theorem c_Ed_putRows_0 (l : Launch) (dC : Nat → ClassId) (dI : Nat → Nat → Nat) (k : Nat → ClassId) (sz : Nat) (h0 : Nat) (e1 : Nat) (e2 : Nat) (r1 : Nat) (r2 : Nat) : Met l y_Ed_putRows (Cond.code y_Ed_putRows b_Ed_putRows 4 none :: z_T) (z_rm 0 0 0) (z_Pc dC dI k sz [.ref h0, .ref r1, .ref r2] [(h0, .inr (3, [.ref e1, .ref e2, .int 0, .long 0, .long 0, .long 0])), (e1, .inl (k 3, 61, .inr (.inr (.inr (.inr (fun _ => none)))))), (e2, .inl (k 4, 10, .inr (.inr (.inr (.inr (fun _ => none)))))), (r1, .inl (k 3, 61, .inr (.inr (.inr (.inr (fun _ => none)))))), (r2, .inl (k 4, 10, .inr (.inr (.inr (.inr (fun _ => none))))))]) (va_Qv (fun (u : Unit) => True) (fun (u : Unit) t => z_B dC dI k (va_A [(h0, .inr (3, [.ref e1, .ref e2, .int 0, .long 0, .long 0, .long 0])), (e1, .inl (k 3, 61, .inr (.inr (.inr (.inr (fun _ => none)))))), (e2, .inl (k 4, 10, .inr (.inr (.inr (.inr (fun _ => none)))))), (r1, .inl (k 3, 61, .inr (.inr (.inr (.inr (fun _ => none)))))), (r2, .inl (k 4, 10, .inr (.inr (.inr (.inr (fun _ => none))))))] sz) [(h0, .inr (3, [.ref e1, .ref e2, .int 0, .long 0, .long 0, .long 0])), (e1, .inl (k 3, 61, .inr (.inr (.inr (.inr (fun _ => none)))))), (e2, .inl (k 4, 10, .inr (.inr (.inr (.inr (fun _ => none)))))), (r1, .inl (k 3, 61, .inr (.inr (.inr (.inr (fun _ => none)))))), (r2, .inl (k 4, 10, .inr (.inr (.inr (.inr (fun _ => none))))))] t) (va_A [(h0, .inr (3, [.ref e1, .ref e2, .int 0, .long 0, .long 0, .long 0])), (e1, .inl (k 3, 61, .inr (.inr (.inr (.inr (fun _ => none)))))), (e2, .inl (k 4, 10, .inr (.inr (.inr (.inr (fun _ => none)))))), (r1, .inl (k 3, 61, .inr (.inr (.inr (.inr (fun _ => none)))))), (r2, .inl (k 4, 10, .inr (.inr (.inr (.inr (fun _ => none))))))] sz)) 0 0 (va_A [(h0, .inr (3, [.ref e1, .ref e2, .int 0, .long 0, .long 0, .long 0])), (e1, .inl (k 3, 61, .inr (.inr (.inr (.inr (fun _ => none)))))), (e2, .inl (k 4, 10, .inr (.inr (.inr (.inr (fun _ => none)))))), (r1, .inl (k 3, 61, .inr (.inr (.inr (.inr (fun _ => none)))))), (r2, .inl (k 4, 10, .inr (.inr (.inr (.inr (fun _ => none))))))] sz) := by
  refine Met.ofW (cc := b_Ed_putRows) (maxL := 4) (ret := none) (by decide) rfl ?_
  intro p e s m args below meth c s₁ B hml hv
  obtain ⟨rfl, hsz, hE, hP, hK, hD0⟩ := hv
  have hx := B.exec
  have hb := B.bytes
  have hr := B.returns
  have hts := atoms_spec (ws := Cond.code y_Ed_putRows b_Ed_putRows 4 none :: z_T) B.pre
  have htz : ∀ w ∈ z_T, w.before _ s = true := fun w h => hts w (z_cons w h)
  have hown : s.vm.findClass "QuestionText$Edition" = some m.cls := findClass_of_methodNamed B.named
  have hlocks := B.notSynchronized
  subst hsz
  have hD := hD0.self (sz := s.heap.size)
  generalize hAe : va_A [(h0, .inr (3, [.ref e1, .ref e2, .int 0, .long 0, .long 0, .long 0])), (e1, .inl (k 3, 61, .inr (.inr (.inr (.inr (fun _ => none)))))), (e2, .inl (k 4, 10, .inr (.inr (.inr (.inr (fun _ => none)))))), (r1, .inl (k 3, 61, .inr (.inr (.inr (.inr (fun _ => none)))))), (r2, .inl (k 4, 10, .inr (.inr (.inr (.inr (fun _ => none))))))] s.heap.size = A at hD hE ⊢
  have hA : ∀ q : Nat, s.heap.size ≤ q → A q := fun q h => by rw [← hAe]; exact Or.inr h
  have hS : va_S A s.heap s.heap [] := va_S.rf
  have hP : va_P (dC, dI) classes [(h0, .inr (3, [.ref e1, .ref e2, .int 0, .long 0, .long 0, .long 0])), (e1, .inl (k 3, 61, .inr (.inr (.inr (.inr (fun _ => none)))))), (e2, .inl (k 4, 10, .inr (.inr (.inr (.inr (fun _ => none)))))), (r1, .inl (k 3, 61, .inr (.inr (.inr (.inr (fun _ => none)))))), (r2, .inl (k 4, 10, .inr (.inr (.inr (.inr (fun _ => none))))))] s.heap := hP
  have hl := lv_entry ([.ref h0, .ref r1, .ref r2]) (n := 4) (Nat.le_of_ble_eq_true rfl)
  rw [lg_entry_eq]
  generalize (lg_sl ([.ref h0, .ref r1, .ref r2]) ++ List.replicate (4 - (lg_sl ([.ref h0, .ref r1, .ref r2])).length) Slot.unset).toArray = ls at hl ⊢
  have hl : lv_has ls 4 [(0, .ref h0), (1, .ref r1), (2, .ref r2)] := hl
  refine lv_iconst (v := 1) hx hb d_Ed_putRows_0 (by decide) ?_
  refine lv_istore_n (lv' := [(3, .int 1), (0, .ref h0), (1, .ref r1), (2, .ref r2)]) hx hb d_Ed_putRows_1 rfl hl (by decide) rfl (fun ls hl => ?_)
  have loop_2 : ∀ (d_i1 i1 : Nat) (H : Heap) (locs : List Loc) (ls : Array Slot), i1 + d_i1 = 61 → va_P (dC, dI) classes [(h0, .inr (3, [.ref e1, .ref e2, .int 0, .long 0, .long 0, .long 0])), (e1, .inl (k 3, 61, .inr (.inr (.inr (.inr (fun _ => none)))))), (e2, .inl (k 4, 10, .inr (.inr (.inr (.inr (fun _ => none)))))), (r1, .inl (k 3, 61, .inr (.inr (.inr (.inr (fun _ => none)))))), (r2, .inl (k 4, 10, .inr (.inr (.inr (.inr (fun _ => none))))))] H → va_D A [(h0, .inr (3, [.ref e1, .ref e2, .int 0, .long 0, .long 0, .long 0])), (e1, .inl (k 3, 61, .inr (.inr (.inr (.inr (fun _ => none)))))), (e2, .inl (k 4, 10, .inr (.inr (.inr (.inr (fun _ => none)))))), (r1, .inl (k 3, 61, .inr (.inr (.inr (.inr (fun _ => none)))))), (r2, .inl (k 4, 10, .inr (.inr (.inr (.inr (fun _ => none))))))] → va_S A s.heap H locs → lv_has ls 4 [(0, .ref h0), (1, .ref r1), (2, .ref r2), (3, .int (nI i1))] → W p l e (headSpec (Cond.code y_Ed_putRows b_Ed_putRows 4 none :: z_T) (z_rm 0 0 0)).room s m ([.ref h0, .ref r1, .ref r2] : List Value).toArray below meth c H locs 0 0 (MQ below (va_Qv (fun (u : Unit) => True) (fun (u : Unit) t => z_B dC dI k A [(h0, .inr (3, [.ref e1, .ref e2, .int 0, .long 0, .long 0, .long 0])), (e1, .inl (k 3, 61, .inr (.inr (.inr (.inr (fun _ => none)))))), (e2, .inl (k 4, 10, .inr (.inr (.inr (.inr (fun _ => none)))))), (r1, .inl (k 3, 61, .inr (.inr (.inr (.inr (fun _ => none)))))), (r2, .inl (k 4, 10, .inr (.inr (.inr (.inr (fun _ => none))))))] t) A) ([.ref h0, .ref r1, .ref r2] : List Value).toArray s 0 0 A) (F0 m 2 ls []) := by
    intro d_i1
    induction d_i1 with
    | zero =>
      intro i1 H locs ls hi_i1 hP hD hS hl
      refine lv_iload_n hx hb d_Ed_putRows_2 rfl (lv_at hl 3 rfl) ?_
      refine lv_bipush (v := 60) hx hb d_Ed_putRows_3 (by decide) ?_
      refine lv_icmp_gt (tgt := 35) hx hb d_Ed_putRows_5 (by decide) (fun c_5 => ?_) (fun c_5 => ?_)
      · refine lv_iconst (v := 1) hx hb d_Ed_putRows_35 (by decide) ?_
        refine lv_istore_n (lv' := [(3, .int 1), (0, .ref h0), (1, .ref r1), (2, .ref r2)]) hx hb d_Ed_putRows_36 rfl hl (by decide) rfl (fun ls hl => ?_)
        have loop_37 : ∀ (d_i2 i2 : Nat) (H : Heap) (locs : List Loc) (ls : Array Slot), i2 + d_i2 = 10 → va_P (dC, dI) classes [(h0, .inr (3, [.ref e1, .ref e2, .int 0, .long 0, .long 0, .long 0])), (e1, .inl (k 3, 61, .inr (.inr (.inr (.inr (fun _ => none)))))), (e2, .inl (k 4, 10, .inr (.inr (.inr (.inr (fun _ => none)))))), (r1, .inl (k 3, 61, .inr (.inr (.inr (.inr (fun _ => none)))))), (r2, .inl (k 4, 10, .inr (.inr (.inr (.inr (fun _ => none))))))] H → va_D A [(h0, .inr (3, [.ref e1, .ref e2, .int 0, .long 0, .long 0, .long 0])), (e1, .inl (k 3, 61, .inr (.inr (.inr (.inr (fun _ => none)))))), (e2, .inl (k 4, 10, .inr (.inr (.inr (.inr (fun _ => none)))))), (r1, .inl (k 3, 61, .inr (.inr (.inr (.inr (fun _ => none)))))), (r2, .inl (k 4, 10, .inr (.inr (.inr (.inr (fun _ => none))))))] → va_S A s.heap H locs → lv_has ls 4 [(0, .ref h0), (1, .ref r1), (2, .ref r2), (3, .int (nI i2))] → W p l e (headSpec (Cond.code y_Ed_putRows b_Ed_putRows 4 none :: z_T) (z_rm 0 0 0)).room s m ([.ref h0, .ref r1, .ref r2] : List Value).toArray below meth c H locs 0 0 (MQ below (va_Qv (fun (u : Unit) => True) (fun (u : Unit) t => z_B dC dI k A [(h0, .inr (3, [.ref e1, .ref e2, .int 0, .long 0, .long 0, .long 0])), (e1, .inl (k 3, 61, .inr (.inr (.inr (.inr (fun _ => none)))))), (e2, .inl (k 4, 10, .inr (.inr (.inr (.inr (fun _ => none)))))), (r1, .inl (k 3, 61, .inr (.inr (.inr (.inr (fun _ => none)))))), (r2, .inl (k 4, 10, .inr (.inr (.inr (.inr (fun _ => none))))))] t) A) ([.ref h0, .ref r1, .ref r2] : List Value).toArray s 0 0 A) (F0 m 37 ls []) := by
          intro d_i2
          induction d_i2 with
          | zero =>
            intro i2 H locs ls hi_i2 hP hD hS hl
            refine lv_iload_n hx hb d_Ed_putRows_37 rfl (lv_at hl 3 rfl) ?_
            refine lv_bipush (v := 9) hx hb d_Ed_putRows_38 (by decide) ?_
            refine lv_icmp_gt (tgt := 70) hx hb d_Ed_putRows_40 (by decide) (fun c_40 => ?_) (fun c_40 => ?_)
            · have hP9 := hP.sub (ws' := [(h0, .inr (3, [.ref e1, .ref e2, .int 0, .long 0, .long 0, .long 0])), (e1, .inl (k 3, 61, .inr (.inr (.inr (.inr (fun _ => none)))))), (e2, .inl (k 4, 10, .inr (.inr (.inr (.inr (fun _ => none)))))), (r1, .inl (k 3, 61, .inr (.inr (.inr (.inr (fun _ => none)))))), (r2, .inl (k 4, 10, .inr (.inr (.inr (.inr (fun _ => none))))))]) [0, 1, 2, 3, 4] rfl
              have hD9 := hD.sub (ws' := [(h0, .inr (3, [.ref e1, .ref e2, .int 0, .long 0, .long 0, .long 0])), (e1, .inl (k 3, 61, .inr (.inr (.inr (.inr (fun _ => none)))))), (e2, .inl (k 4, 10, .inr (.inr (.inr (.inr (fun _ => none)))))), (r1, .inl (k 3, 61, .inr (.inr (.inr (.inr (fun _ => none)))))), (r2, .inl (k 4, 10, .inr (.inr (.inr (.inr (fun _ => none))))))]) [0, 1, 2, 3, 4] (by decide) rfl
              exact W.vret hx hb hr (fun t ht hW => ⟨⟨(), rfl, trivial, by rw [ht]; exact hP9, va_K.moved hW.alike hK, hD9⟩, hS.F ht⟩) hS.2.2 d_Ed_putRows_70
            · exact absurd (show nI 9 < nI i2 from nI_lt (by omega) (by omega)) c_40
          | succ d_i2 ih_i2 =>
            intro i2 H locs ls hi_i2 hP hD hS hl
            refine lv_iload_n hx hb d_Ed_putRows_37 rfl (lv_at hl 3 rfl) ?_
            refine lv_bipush (v := 9) hx hb d_Ed_putRows_38 (by decide) ?_
            refine lv_icmp_gt (tgt := 70) hx hb d_Ed_putRows_40 (by decide) (fun c_40 => ?_) (fun c_40 => ?_)
            · exact absurd (show nI 9 < nI i2 from c_40) (nI_nlt (by omega) (by decide))
            · refine lv_iload_n hx hb d_Ed_putRows_43 rfl (lv_at hl 3 rfl) ?_
              refine lv_aload_n hx hb d_Ed_putRows_44 rfl (lv_at hl 2 rfl) ?_
              refine va_alen hx hb hK hP 4 4 rfl rfl (v := nI 10) rfl d_Ed_putRows_45 ?_
              refine lv_icmp_ge (tgt := 70) hx hb d_Ed_putRows_46 (by decide) (fun c_46 => ?_) (fun c_46 => ?_)
              · exact absurd (show nI 10 ≤ nI i2 from c_46) (nI_ge (by omega) (by decide))
              · refine lv_aload_n hx hb d_Ed_putRows_49 rfl (lv_at hl 2 rfl) ?_
                refine lv_iload_n hx hb d_Ed_putRows_50 rfl (lv_at hl 3 rfl) ?_
                refine va_aldq hx hb hK hP 4 4 rfl rfl (vp_in_nI (by omega) (by decide)) d_Ed_putRows_51 ?_
                refine lv_ifnullN (tgt := 64) hx hb d_Ed_putRows_52 (by decide) ?_
                refine lv_iinc (v := nI (i2 + 1)) (lv' := [(3, .int (nI (i2 + 1))), (0, .ref h0), (1, .ref r1), (2, .ref r2)]) hx hb d_Ed_putRows_64 hl (k := 3) rfl (nI_1 i2) (by decide) rfl (fun ls hl => ?_)
                refine lv_goto (tgt := 37) hx hb d_Ed_putRows_67 (by decide) ?_
                exact ih_i2 (i2 + 1) H locs ls (by omega) (hP.sub [0, 1, 2, 3, 4] rfl) (hD.sub [0, 1, 2, 3, 4] (by decide) rfl) hS (lv_sub hl [1, 2, 3, 0] rfl)
        exact loop_37 9 1 _ _ ls (by omega) hP hD hS (lv_sub hl [1, 2, 3, 0] rfl)
      · exact absurd (show nI 60 < nI i1 from nI_lt (by omega) (by omega)) c_5
    | succ d_i1 ih_i1 =>
      intro i1 H locs ls hi_i1 hP hD hS hl
      refine lv_iload_n hx hb d_Ed_putRows_2 rfl (lv_at hl 3 rfl) ?_
      refine lv_bipush (v := 60) hx hb d_Ed_putRows_3 (by decide) ?_
      refine lv_icmp_gt (tgt := 35) hx hb d_Ed_putRows_5 (by decide) (fun c_5 => ?_) (fun c_5 => ?_)
      · exact absurd (show nI 60 < nI i1 from c_5) (nI_nlt (by omega) (by decide))
      · refine lv_iload_n hx hb d_Ed_putRows_8 rfl (lv_at hl 3 rfl) ?_
        refine lv_aload_n hx hb d_Ed_putRows_9 rfl (lv_at hl 1 rfl) ?_
        refine va_alen hx hb hK hP 3 3 rfl rfl (v := nI 61) rfl d_Ed_putRows_10 ?_
        refine lv_icmp_ge (tgt := 35) hx hb d_Ed_putRows_11 (by decide) (fun c_11 => ?_) (fun c_11 => ?_)
        · exact absurd (show nI 61 ≤ nI i1 from c_11) (nI_ge (by omega) (by decide))
        · refine lv_aload_n hx hb d_Ed_putRows_14 rfl (lv_at hl 1 rfl) ?_
          refine lv_iload_n hx hb d_Ed_putRows_15 rfl (lv_at hl 3 rfl) ?_
          refine va_aldq hx hb hK hP 3 3 rfl rfl (vp_in_nI (by omega) (by decide)) d_Ed_putRows_16 ?_
          refine lv_ifnullN (tgt := 29) hx hb d_Ed_putRows_17 (by decide) ?_
          refine lv_iinc (v := nI (i1 + 1)) (lv' := [(3, .int (nI (i1 + 1))), (0, .ref h0), (1, .ref r1), (2, .ref r2)]) hx hb d_Ed_putRows_29 hl (k := 3) rfl (nI_1 i1) (by decide) rfl (fun ls hl => ?_)
          refine lv_goto (tgt := 2) hx hb d_Ed_putRows_32 (by decide) ?_
          exact ih_i1 (i1 + 1) H locs ls (by omega) (hP.sub [0, 1, 2, 3, 4] rfl) (hD.sub [0, 1, 2, 3, 4] (by decide) rfl) hS (lv_sub hl [1, 2, 3, 0] rfl)
  exact loop_2 60 1 _ _ ls (by omega) hP hD hS (lv_sub hl [1, 2, 3, 0] rfl)
