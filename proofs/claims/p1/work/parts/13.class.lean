-- the class: answers that look at little
def z_mof (set : Int64) (i : Int32) : Nat → Nat → Int32 → Int32
  | 0, _, _ => 0
  | d + 1, q, b => if z_hm set (nI q) = 0 then z_mof set i d (q + 1) b else if b = i then nI q else z_mof set i d (q + 1) (b + 1)
theorem z_hm_0 (q : Int32) : z_hm 0 q = 0 := by
  unfold z_hm
  have h : ∀ a : UInt64, (0 : UInt64) >>> a = 0 := fun a => UInt64.toNat_inj.mp (by simp [UInt64.toNat_shiftRight])
  have e : (0 : Int64).toUInt64 = 0 := rfl
  rw [e, h, if_pos (by decide)]
theorem z_mof_0 (i : Int32) : ∀ (d q : Nat) (b : Int32), z_mof 0 i d q b = 0 := by
  intro d
  induction d with
  | zero => intro q b; rfl
  | succ d ih => intro q b; rw [z_mof, if_pos (z_hm_0 _)]; exact ih _ _
set_option maxHeartbeats 1000000 in
set_option maxRecDepth 100000 in
theorem c_Q_memberOf (l : Launch) (dC : Nat → ClassId) (dI : Nat → Nat → Nat) (k : Nat → ClassId) (sz : Nat) (set : Int64) (x : Int32) : Met l y_Q_memberOf (Cond.code y_Q_memberOf b_Q_memberOf 5 (some .int) :: z_T) (z_rm 1 0 0) (z_Pc dC dI k sz [.long set, .int x] []) (va_Qi (fun (r : Int32) (u : Unit) => r = z_mof set x 60 1 0) (fun (u : Unit) t => z_B dC dI k (va_A [] sz) [] t) (va_A [] sz)) 0 0 (va_A [] sz) := by
  refine Met.ofW (cc := b_Q_memberOf) (maxL := 5) (ret := (some .int)) (by decide) rfl ?_
  intro p e s m args below meth c s₁ B hml hv
  obtain ⟨rfl, hsz, hE, hP, hK, hD0⟩ := hv
  have hx := B.exec
  have hb := B.bytes
  have hr := B.returns
  have hts := atoms_spec (ws := Cond.code y_Q_memberOf b_Q_memberOf 5 (some .int) :: z_T) B.pre
  have htz : ∀ w ∈ z_T, w.before _ s = true := fun w h => hts w (z_cons w h)
  have hown : s.vm.findClass "QuestionText" = some m.cls := findClass_of_methodNamed B.named
  have hlocks := B.notSynchronized
  subst hsz
  have hD := hD0.self (sz := s.heap.size)
  generalize hAe : va_A [] s.heap.size = A at hD hE ⊢
  have hA : ∀ q : Nat, s.heap.size ≤ q → A q := fun q h => by rw [← hAe]; exact Or.inr h
  have hS : va_S A s.heap s.heap [] := va_S.rf
  have hP : va_P (dC, dI) classes [] s.heap := hP
  have hl := lv_entry ([.long set, .int x]) (n := 5) (Nat.le_of_ble_eq_true rfl)
  rw [lg_entry_eq]
  generalize (lg_sl ([.long set, .int x]) ++ List.replicate (5 - (lg_sl ([.long set, .int x])).length) Slot.unset).toArray = ls at hl ⊢
  have hl : lv_has ls 5 [(0, .long set), (2, .int x)] := hl
  refine lv_iconst (v := 0) hx hb d_Q_memberOf_0 (by decide) ?_
  refine lv_istore_n (lv' := [(3, .int 0), (0, .long set), (2, .int x)]) hx hb d_Q_memberOf_1 rfl hl (by decide) rfl (fun ls hl => ?_)
  refine lv_iconst (v := 1) hx hb d_Q_memberOf_2 (by decide) ?_
  refine lv_istore (lv' := [(4, .int 1), (3, .int 0), (0, .long set), (2, .int x)]) hx hb d_Q_memberOf_3 hl (by decide) rfl (fun ls hl => ?_)
  have loop : ∀ (d i : Nat) (b : Int32) (H : Heap) (locs : List Loc) (ls : Array Slot), i + d = 61 → z_mof set x d i b = z_mof set x 60 1 0 → va_P (dC, dI) classes [] H → va_D A [] → va_S A s.heap H locs → lv_has ls 5 [(0, .long set), (2, .int x), (3, .int b), (4, .int (nI i))] → W p l e (headSpec (Cond.code y_Q_memberOf b_Q_memberOf 5 (some .int) :: z_T) (z_rm 1 0 0)).room s m ([.long set, .int x] : List Value).toArray below meth c H locs 0 0 (MQ below (va_Qi (fun (r : Int32) (u : Unit) => r = z_mof set x 60 1 0) (fun (u : Unit) t => z_B dC dI k A [] t) A) ([.long set, .int x] : List Value).toArray s 0 0 A) (F0 m 5 ls []) := by
    intro d
    induction d with
    | zero =>
      intro i b H locs ls hi hm hP hD hS hl
      refine lv_iload hx hb d_Q_memberOf_5 (lv_at hl 3 rfl) ?_
      refine lv_bipush (v := 60) hx hb d_Q_memberOf_7 (by decide) ?_
      refine lv_icmp_gt (tgt := 38) hx hb d_Q_memberOf_9 (by decide) (fun c_9 => ?_) (fun c_9 => ?_)
      · refine lv_iconst (v := 0) hx hb d_Q_memberOf_38 (by decide) ?_
        have hP9 := hP.sub (ws' := []) [] rfl
        have hD9 := hD.sub (ws' := []) [] (by decide) rfl
        exact W.iret (v := 0) hx hb hr (fun t ht hW => ⟨⟨0, (), rfl, hm, by rw [ht]; exact hP9, va_K.moved hW.alike hK, hD9⟩, hS.F ht⟩) hS.2.2 d_Q_memberOf_39
      · exact absurd (show nI 60 < nI i from nI_lt (by omega) (by omega)) c_9
    | succ d ih =>
      intro i b H locs ls hi hm hP hD hS hl
      refine lv_iload hx hb d_Q_memberOf_5 (lv_at hl 3 rfl) ?_
      refine lv_bipush (v := 60) hx hb d_Q_memberOf_7 (by decide) ?_
      refine lv_icmp_gt (tgt := 38) hx hb d_Q_memberOf_9 (by decide) (fun c_9 => ?_) (fun c_9 => ?_)
      · exact absurd (show nI 60 < nI i from c_9) (nI_nlt (by omega) (by decide))
      · refine lv_lload_n hx hb d_Q_memberOf_12 rfl (lv_at hl 0 rfl) ?_
        refine lv_iload hx hb d_Q_memberOf_13 (lv_at hl 3 rfl) ?_
        have hPc := hP.sub (ws' := []) [] rfl
        have hDc := hD.sub (ws' := []) [] (by decide) rfl
        have hFc := va_free (wc := []) hD hS hA [] rfl
        refine va_calli (va_runS (As := [.long set, .int (nI i)]) (rest := []) ⟨hx, hb, hml, hown, htz⟩ (c_Q_hasMember l dC dI k H.size set (nI i)) (va_cwS 2 htz (z_gS (fun _ h => h) km_Q_186 st_Q_hasMember ini_Q m_Q_hasMember) rfl rfl rfl (by decide +kernel) ⟨(Nat.le_of_ble_eq_true rfl), (Nat.le_of_ble_eq_true rfl)⟩) ⟨z_blind, fun U hU hW => ⟨rfl, by rw [hU], hE.call hS hFc hU hW, by rw [hU]; exact hPc, va_K.moved hW.alike hK, hDc.weaken (fun _ _ _ _ => trivial)⟩⟩ rfl rfl hl.1 rfl (lv_room (Nat.le_of_ble_eq_true rfl)) d_Q_memberOf_15 ⟨(Nat.le_of_ble_eq_true rfl), (Nat.le_of_ble_eq_true rfl)⟩) hS (fun q _ h => hFc q h) hFc (fun r1 u t H1 locs ht hvm hw hB hz1 hk1 hS => ?_)
        obtain ⟨hP1, hK1, hD1⟩ := hB
        rw [ht] at hP1
        try dsimp only at hw
        obtain ⟨hP, hD⟩ := va_join (wr := []) (w1 := []) hP hD [] [] rfl rfl (by decide) (by decide) hk1 hFc hP1 hD1
        generalize H1 = H at hP hS ⊢
        have hP : va_P (dC, dI) classes [] H := hP
        have hD : va_D A [] := hD
        rw [z_mof] at hm
        rw [← hw] at hm
        refine lv_if_eq (tgt := 32) hx hb d_Q_memberOf_18 (by decide) (fun c_18 => ?_) (fun c_18 => ?_)
        · refine lv_iinc (v := nI (i + 1)) (lv' := [(4, .int (nI (i + 1))), (0, .long set), (2, .int x), (3, .int b)]) hx hb d_Q_memberOf_32 hl (k := 3) rfl (nI_1 i) (by decide) rfl (fun ls hl => ?_)
          refine lv_goto (tgt := 5) hx hb d_Q_memberOf_35 (by decide) ?_
          exact ih (i + 1) b H locs ls (by omega) (by rw [if_pos c_18] at hm; exact hm) hP hD hS (lv_sub hl [1, 2, 3, 0] rfl)
        · refine lv_iload_n hx hb d_Q_memberOf_21 rfl (lv_at hl 2 rfl) ?_
          refine lv_iload_n hx hb d_Q_memberOf_22 rfl (lv_at hl 1 rfl) ?_
          refine lv_icmp_ne (tgt := 29) hx hb d_Q_memberOf_23 (by decide) (fun c_23 => ?_) (fun c_23 => ?_)
          · refine lv_iinc (v := b + 1) (lv' := [(3, .int (b + 1)), (0, .long set), (2, .int x), (4, .int (nI i))]) hx hb d_Q_memberOf_29 hl (k := 2) rfl (rfl) (by decide) rfl (fun ls hl => ?_)
            refine lv_iinc (v := nI (i + 1)) (lv' := [(4, .int (nI (i + 1))), (3, .int (b + 1)), (0, .long set), (2, .int x)]) hx hb d_Q_memberOf_32 hl (k := 3) rfl (nI_1 i) (by decide) rfl (fun ls hl => ?_)
            refine lv_goto (tgt := 5) hx hb d_Q_memberOf_35 (by decide) ?_
            exact ih (i + 1) (b + 1) H locs ls (by omega) (by rw [if_neg c_18, if_neg c_23] at hm; exact hm) hP hD hS (lv_sub hl [2, 3, 1, 0] rfl)
          · refine lv_iload hx hb d_Q_memberOf_26 (lv_at hl 3 rfl) ?_
            have hP9 := hP.sub (ws' := []) [] rfl
            have hD9 := hD.sub (ws' := []) [] (by decide) rfl
            exact W.iret (v := nI i) hx hb hr (fun t ht hW => ⟨⟨nI i, (), rfl, (by rw [if_neg c_18, if_pos c_23] at hm; exact hm), by rw [ht]; exact hP9, va_K.moved hW.alike hK, hD9⟩, hS.F ht⟩) hS.2.2 d_Q_memberOf_28
  exact loop 60 1 0 _ _ ls (by omega) rfl hP hD hS (lv_sub hl [2, 3, 1, 0] rfl)
set_option maxHeartbeats 1000000 in
set_option maxRecDepth 100000 in
theorem c_Q_points (l : Launch) (hlt : l.stackTraces = false) (dC : Nat → ClassId) (dI : Nat → Nat → Nat) (k : Nat → ClassId) (sz : Nat) (h0 : Nat) (a1 : Nat) (a2 : Nat) (a3 : Nat) (a4 : Nat) (md : Int32) (wp : Int32) (b1 : Nat) (b2 : Nat) (cn : Int32) (nw : Int32) (pt : Int32) (kd : Int32) : vx_Met l y_Q_points (Cond.code y_Q_points b_Q_points 1 (some .int) :: z_T) (z_rm 0 1 6) (z_Pc dC dI k sz [.ref h0] [(h0, .inr (0, [.ref a1, .ref a2, .ref a3, .ref a4, .int md, .int wp])), (a3, .inr (2, [.ref b1, .ref b2, .int cn, .int nw, .int pt, .int kd]))]) (va_Qi (fun (r : Int32) (u : Unit) => r = pt ∧ kd ≠ 0) (fun (u : Unit) t => z_B dC dI k (va_A [(h0, .inr (0, [.ref a1, .ref a2, .ref a3, .ref a4, .int md, .int wp])), (a3, .inr (2, [.ref b1, .ref b2, .int cn, .int nw, .int pt, .int kd]))] sz) [(h0, .inr (0, [.ref a1, .ref a2, .ref a3, .ref a4, .int md, .int wp])), (a3, .inr (2, [.ref b1, .ref b2, .int cn, .int nw, .int pt, .int kd]))] t) (va_A [(h0, .inr (0, [.ref a1, .ref a2, .ref a3, .ref a4, .int md, .int wp])), (a3, .inr (2, [.ref b1, .ref b2, .int cn, .int nw, .int pt, .int kd]))] sz)) (vx_X (fun (_ : Unit) => True) (fun E (_ : Unit) t => (E = "java/lang/IllegalStateException" ∧ kd = 0) ∧ z_B dC dI k (va_A [(h0, .inr (0, [.ref a1, .ref a2, .ref a3, .ref a4, .int md, .int wp])), (a3, .inr (2, [.ref b1, .ref b2, .int cn, .int nw, .int pt, .int kd]))] sz) [(h0, .inr (0, [.ref a1, .ref a2, .ref a3, .ref a4, .int md, .int wp])), (a3, .inr (2, [.ref b1, .ref b2, .int cn, .int nw, .int pt, .int kd]))] t) (va_A [(h0, .inr (0, [.ref a1, .ref a2, .ref a3, .ref a4, .int md, .int wp])), (a3, .inr (2, [.ref b1, .ref b2, .int cn, .int nw, .int pt, .int kd]))] sz)) 1 6 (va_A [(h0, .inr (0, [.ref a1, .ref a2, .ref a3, .ref a4, .int md, .int wp])), (a3, .inr (2, [.ref b1, .ref b2, .int cn, .int nw, .int pt, .int kd]))] sz) := by
  refine vx_ofW (cc := b_Q_points) (maxL := 1) (ret := (some .int)) (by decide) rfl ?_
  intro p e s m args below meth c s₁ B hml hno hv
  obtain ⟨rfl, hsz, hE, hP, hK, hD0⟩ := hv
  have hx := B.exec
  have hb := B.bytes
  have hr := B.returns
  have hts := atoms_spec (ws := Cond.code y_Q_points b_Q_points 1 (some .int) :: z_T) B.pre
  have htz : ∀ w ∈ z_T, w.before _ s = true := fun w h => hts w (z_cons w h)
  have hown : s.vm.findClass "QuestionText" = some m.cls := findClass_of_methodNamed B.named
  have hlocks := B.notSynchronized
  subst hsz
  have hD := hD0.self (sz := s.heap.size)
  generalize hAe : va_A [(h0, .inr (0, [.ref a1, .ref a2, .ref a3, .ref a4, .int md, .int wp])), (a3, .inr (2, [.ref b1, .ref b2, .int cn, .int nw, .int pt, .int kd]))] s.heap.size = A at hD hE ⊢
  have hA : ∀ q : Nat, s.heap.size ≤ q → A q := fun q h => by rw [← hAe]; exact Or.inr h
  have hS : va_S A s.heap s.heap [] := va_S.rf
  have hP : va_P (dC, dI) classes [(h0, .inr (0, [.ref a1, .ref a2, .ref a3, .ref a4, .int md, .int wp])), (a3, .inr (2, [.ref b1, .ref b2, .int cn, .int nw, .int pt, .int kd]))] s.heap := hP
  have hl := lv_entry ([.ref h0]) (n := 1) (Nat.le_of_ble_eq_true rfl)
  rw [lg_entry_eq]
  generalize (lg_sl ([.ref h0]) ++ List.replicate (1 - (lg_sl ([.ref h0])).length) Slot.unset).toArray = ls at hl ⊢
  have hl : lv_has ls 1 [(0, .ref h0)] := hl
  refine lv_aload_n hx hb d_Q_points_0 rfl (lv_at hl 0 rfl) ?_
  refine va_get (D := (dC, dI)) (ci := 0) (v := .ref a3) (C := R_Q) (T := F_Q) (N := 6) hx hb htz i_Q hown hK hP 0 rfl rfl 2 (by decide) (htz _ kf_Q_25) (fun _ h9 => h9) rfl d_Q_points_1 ?_
  refine va_getN (D := (dC, dI)) (ci := 2) (v := .int kd) (C := R_Ca) (T := F_Ca) (N := 6) hx hb htz i_Ca hown hK hP 1 rfl rfl 5 (by decide) (va_Nw.use rfl (hE.1 _ kf_Q_99)) (fun _ h9 => h9) rfl d_Q_points_4 ?_
  refine lv_if_ne (tgt := 20) hx hb d_Q_points_7 (by decide) (fun c_7 => ?_) (fun c_7 => ?_)
  · refine lv_aload_n hx hb d_Q_points_20 rfl (lv_at hl 0 rfl) ?_
    refine va_get (D := (dC, dI)) (ci := 0) (v := .ref a3) (C := R_Q) (T := F_Q) (N := 6) hx hb htz i_Q hown hK hP 0 rfl rfl 2 (by decide) (htz _ kf_Q_25) (fun _ h9 => h9) rfl d_Q_points_21 ?_
    refine va_getN (D := (dC, dI)) (ci := 2) (v := .int pt) (C := R_Ca) (T := F_Ca) (N := 6) hx hb htz i_Ca hown hK hP 1 rfl rfl 4 (by decide) (va_Nw.use rfl (hE.1 _ kf_Q_149)) (fun _ h9 => h9) rfl d_Q_points_24 ?_
    refine W.widen (k := 1) (n := 6) (Nat.le_of_ble_eq_true rfl) (Nat.le_of_ble_eq_true rfl) ?_
    refine vx_ret ?_
    have hP9 := hP.sub (ws' := [(h0, .inr (0, [.ref a1, .ref a2, .ref a3, .ref a4, .int md, .int wp])), (a3, .inr (2, [.ref b1, .ref b2, .int cn, .int nw, .int pt, .int kd]))]) [0, 1] rfl
    have hD9 := hD.sub (ws' := [(h0, .inr (0, [.ref a1, .ref a2, .ref a3, .ref a4, .int md, .int wp])), (a3, .inr (2, [.ref b1, .ref b2, .int cn, .int nw, .int pt, .int kd]))]) [0, 1] (by decide) rfl
    exact W.iret (v := pt) hx hb hr (fun t ht hW => ⟨⟨pt, (), rfl, ⟨rfl, c_7⟩, by rw [ht]; exact hP9, va_K.moved hW.alike hK, hD9⟩, hS.F ht⟩) hS.2.2 d_Q_points_27
  · obtain ⟨sa, hstr⟩ := hE.2.2.1 ("QuestionText", 153, "there is no call") (by decide)
    have hP9 := hP.sub (ws' := [(h0, .inr (0, [.ref a1, .ref a2, .ref a3, .ref a4, .int md, .int wp])), (a3, .inr (2, [.ref b1, .ref b2, .int cn, .int nw, .int pt, .int kd]))]) [0, 1] rfl
    have hD9 := hD.sub (ws' := [(h0, .inr (0, [.ref a1, .ref a2, .ref a3, .ref a4, .int md, .int wp])), (a3, .inr (2, [.ref b1, .ref b2, .int cn, .int nw, .int pt, .int kd]))]) [0, 1] (by decide) rfl
    have hB9 := z_thr (dC := dC) (dI := dI) (k := k) hP9 hK hD9 hS
    exact vx_throwS (own := "QuestionText") (cls := "java/lang/IllegalStateException") (text := "there is no call") (names := ["java/lang/RuntimeException", "java/lang/Exception"]) (ik := 51) (is := 153) (ic := 55) hx hb hlt hown (by decide +kernel) (by decide +kernel) (htz _ kc_Q_51) (htz _ ini_ISE) hstr (z_hat th_Q_55 htz hE.1) tg_Q_51_55 hE.2.2.2.1 hE.2.2.2.2.1 hS (hl.1.trans hml.symm) d_Q_points_10 d_Q_points_13 d_Q_points_14 d_Q_points_16 d_Q_points_19 (fun x hx9 => (hno x hx9).elim) (Nat.le_of_ble_eq_true rfl) (Nat.le_of_ble_eq_true rfl) (Nat.le_of_ble_eq_true rfl) (Nat.le_of_ble_eq_true rfl) hlocks (fun t h1 h2 h3 => ⟨(), trivial, ⟨⟨rfl, c_7⟩, (hB9 t h1 h2 h3).1⟩, (hB9 t h1 h2 h3).2⟩) hS.2.2 (Nat.le_of_ble_eq_true rfl) (Nat.le_of_ble_eq_true rfl)
theorem z_in40 {x : Int32} {cnt : Nat} (h0 : 0 ≤ x) (h1 : ¬ nI cnt ≤ x) (hc : cnt ≤ 40) : vp_in x 40 := by
  rw [vp_in_iff]
  have e := nI_toInt (n := cnt) (by omega)
  rw [Int32.le_iff_toInt_le] at h0 h1
  have : (0 : Int32).toInt = 0 := by decide
  omega
set_option maxHeartbeats 1000000 in
set_option maxRecDepth 100000 in
theorem c_Q_asked (l : Launch) (hlt : l.stackTraces = false) (dC : Nat → ClassId) (dI : Nat → Nat → Nat) (k : Nat → ClassId) (sz : Nat) (h0 : Nat) (a1 : Nat) (a2 : Nat) (a3 : Nat) (a4 : Nat) (md : Int32) (wp : Int32) (b1 : Nat) (b2 : Nat) (cnt : Nat) (nw : Int32) (pt : Int32) (kd : Int32) (f : Nat → Int32) (x : Int32) (hc : cnt ≤ 40) : vx_Met l y_Q_asked (Cond.code y_Q_asked b_Q_asked 2 (some .int) :: z_T) (z_rm 0 1 6) (z_Pc dC dI k sz [.ref h0, .int x] [(h0, .inr (0, [.ref a1, .ref a2, .ref a3, .ref a4, .int md, .int wp])), (a3, .inr (2, [.ref b1, .ref b2, .int (nI cnt), .int nw, .int pt, .int kd])), (b1, .inl (k 0, 40, .inl f))]) (va_Qi (fun (r : Int32) (u : Unit) => 0 ≤ x ∧ r = if nI cnt ≤ x then 0 else f (x).toNatClampNeg) (fun (u : Unit) t => z_B dC dI k (va_A [(h0, .inr (0, [.ref a1, .ref a2, .ref a3, .ref a4, .int md, .int wp])), (a3, .inr (2, [.ref b1, .ref b2, .int (nI cnt), .int nw, .int pt, .int kd])), (b1, .inl (k 0, 40, .inl f))] sz) [(h0, .inr (0, [.ref a1, .ref a2, .ref a3, .ref a4, .int md, .int wp])), (a3, .inr (2, [.ref b1, .ref b2, .int (nI cnt), .int nw, .int pt, .int kd])), (b1, .inl (k 0, 40, .inl f))] t) (va_A [(h0, .inr (0, [.ref a1, .ref a2, .ref a3, .ref a4, .int md, .int wp])), (a3, .inr (2, [.ref b1, .ref b2, .int (nI cnt), .int nw, .int pt, .int kd])), (b1, .inl (k 0, 40, .inl f))] sz)) (vx_X (fun (_ : Unit) => True) (fun E (_ : Unit) t => (E = "java/lang/IllegalArgumentException" ∧ ¬ 0 ≤ x) ∧ z_B dC dI k (va_A [(h0, .inr (0, [.ref a1, .ref a2, .ref a3, .ref a4, .int md, .int wp])), (a3, .inr (2, [.ref b1, .ref b2, .int (nI cnt), .int nw, .int pt, .int kd])), (b1, .inl (k 0, 40, .inl f))] sz) [(h0, .inr (0, [.ref a1, .ref a2, .ref a3, .ref a4, .int md, .int wp])), (a3, .inr (2, [.ref b1, .ref b2, .int (nI cnt), .int nw, .int pt, .int kd])), (b1, .inl (k 0, 40, .inl f))] t) (va_A [(h0, .inr (0, [.ref a1, .ref a2, .ref a3, .ref a4, .int md, .int wp])), (a3, .inr (2, [.ref b1, .ref b2, .int (nI cnt), .int nw, .int pt, .int kd])), (b1, .inl (k 0, 40, .inl f))] sz)) 1 6 (va_A [(h0, .inr (0, [.ref a1, .ref a2, .ref a3, .ref a4, .int md, .int wp])), (a3, .inr (2, [.ref b1, .ref b2, .int (nI cnt), .int nw, .int pt, .int kd])), (b1, .inl (k 0, 40, .inl f))] sz) := by
  refine vx_ofW (cc := b_Q_asked) (maxL := 2) (ret := (some .int)) (by decide) rfl ?_
  intro p e s m args below meth c s₁ B hml hno hv
  obtain ⟨rfl, hsz, hE, hP, hK, hD0⟩ := hv
  have hx := B.exec
  have hb := B.bytes
  have hr := B.returns
  have hts := atoms_spec (ws := Cond.code y_Q_asked b_Q_asked 2 (some .int) :: z_T) B.pre
  have htz : ∀ w ∈ z_T, w.before _ s = true := fun w h => hts w (z_cons w h)
  have hown : s.vm.findClass "QuestionText" = some m.cls := findClass_of_methodNamed B.named
  have hlocks := B.notSynchronized
  subst hsz
  have hD := hD0.self (sz := s.heap.size)
  generalize hAe : va_A [(h0, .inr (0, [.ref a1, .ref a2, .ref a3, .ref a4, .int md, .int wp])), (a3, .inr (2, [.ref b1, .ref b2, .int (nI cnt), .int nw, .int pt, .int kd])), (b1, .inl (k 0, 40, .inl f))] s.heap.size = A at hD hE ⊢
  have hA : ∀ q : Nat, s.heap.size ≤ q → A q := fun q h => by rw [← hAe]; exact Or.inr h
  have hS : va_S A s.heap s.heap [] := va_S.rf
  have hP : va_P (dC, dI) classes [(h0, .inr (0, [.ref a1, .ref a2, .ref a3, .ref a4, .int md, .int wp])), (a3, .inr (2, [.ref b1, .ref b2, .int (nI cnt), .int nw, .int pt, .int kd])), (b1, .inl (k 0, 40, .inl f))] s.heap := hP
  have hl := lv_entry ([.ref h0, .int x]) (n := 2) (Nat.le_of_ble_eq_true rfl)
  rw [lg_entry_eq]
  generalize (lg_sl ([.ref h0, .int x]) ++ List.replicate (2 - (lg_sl ([.ref h0, .int x])).length) Slot.unset).toArray = ls at hl ⊢
  have hl : lv_has ls 2 [(0, .ref h0), (1, .int x)] := hl
  refine lv_iload_n hx hb d_Q_asked_0 rfl (lv_at hl 1 rfl) ?_
  refine lv_if_ge (tgt := 14) hx hb d_Q_asked_1 (by decide) (fun c_1 => ?_) (fun c_1 => ?_)
  · refine lv_iload_n hx hb d_Q_asked_14 rfl (lv_at hl 1 rfl) ?_
    refine lv_aload_n hx hb d_Q_asked_15 rfl (lv_at hl 0 rfl) ?_
    refine va_get (D := (dC, dI)) (ci := 0) (v := .ref a3) (C := R_Q) (T := F_Q) (N := 6) hx hb htz i_Q hown hK hP 0 rfl rfl 2 (by decide) (htz _ kf_Q_25) (fun _ h9 => h9) rfl d_Q_asked_16 ?_
    refine va_getN (D := (dC, dI)) (ci := 2) (v := .int (nI cnt)) (C := R_Ca) (T := F_Ca) (N := 6) hx hb htz i_Ca hown hK hP 1 rfl rfl 2 (by decide) (va_Nw.use rfl (hE.1 _ kf_Q_140)) (fun _ h9 => h9) rfl d_Q_asked_19 ?_
    refine lv_icmp_ge (tgt := 37) hx hb d_Q_asked_22 (by decide) (fun c_22 => ?_) (fun c_22 => ?_)
    · refine lv_iconst (v := 0) hx hb d_Q_asked_37 (by decide) ?_
      refine W.widen (k := 1) (n := 6) (Nat.le_of_ble_eq_true rfl) (Nat.le_of_ble_eq_true rfl) ?_
      refine vx_ret ?_
      have hP9 := hP.sub (ws' := [(h0, .inr (0, [.ref a1, .ref a2, .ref a3, .ref a4, .int md, .int wp])), (a3, .inr (2, [.ref b1, .ref b2, .int (nI cnt), .int nw, .int pt, .int kd])), (b1, .inl (k 0, 40, .inl f))]) [0, 1, 2] rfl
      have hD9 := hD.sub (ws' := [(h0, .inr (0, [.ref a1, .ref a2, .ref a3, .ref a4, .int md, .int wp])), (a3, .inr (2, [.ref b1, .ref b2, .int (nI cnt), .int nw, .int pt, .int kd])), (b1, .inl (k 0, 40, .inl f))]) [0, 1, 2] (by decide) rfl
      exact W.iret (v := 0) hx hb hr (fun t ht hW => ⟨⟨0, (), rfl, ⟨c_1, by rw [if_pos c_22]⟩, by rw [ht]; exact hP9, va_K.moved hW.alike hK, hD9⟩, hS.F ht⟩) hS.2.2 d_Q_asked_38
    · refine lv_aload_n hx hb d_Q_asked_25 rfl (lv_at hl 0 rfl) ?_
      refine va_get (D := (dC, dI)) (ci := 0) (v := .ref a3) (C := R_Q) (T := F_Q) (N := 6) hx hb htz i_Q hown hK hP 0 rfl rfl 2 (by decide) (htz _ kf_Q_25) (fun _ h9 => h9) rfl d_Q_asked_26 ?_
      refine va_getN (D := (dC, dI)) (ci := 2) (v := .ref b1) (C := R_Ca) (T := F_Ca) (N := 6) hx hb htz i_Ca hown hK hP 1 rfl rfl 0 (by decide) (va_Nw.use rfl (hE.1 _ kf_Q_161)) (fun _ h9 => h9) rfl d_Q_asked_29 ?_
      refine lv_iload_n hx hb d_Q_asked_32 rfl (lv_at hl 1 rfl) ?_
      refine va_iald hx hb hK hP 2 0 rfl rfl (z_in40 c_1 c_22 hc) d_Q_asked_33 ?_
      refine lv_goto (tgt := 38) hx hb d_Q_asked_34 (by decide) ?_
      refine W.widen (k := 1) (n := 6) (Nat.le_of_ble_eq_true rfl) (Nat.le_of_ble_eq_true rfl) ?_
      refine vx_ret ?_
      have hP9 := hP.sub (ws' := [(h0, .inr (0, [.ref a1, .ref a2, .ref a3, .ref a4, .int md, .int wp])), (a3, .inr (2, [.ref b1, .ref b2, .int (nI cnt), .int nw, .int pt, .int kd])), (b1, .inl (k 0, 40, .inl f))]) [0, 1, 2] rfl
      have hD9 := hD.sub (ws' := [(h0, .inr (0, [.ref a1, .ref a2, .ref a3, .ref a4, .int md, .int wp])), (a3, .inr (2, [.ref b1, .ref b2, .int (nI cnt), .int nw, .int pt, .int kd])), (b1, .inl (k 0, 40, .inl f))]) [0, 1, 2] (by decide) rfl
      exact W.iret (v := f x.toNatClampNeg) hx hb hr (fun t ht hW => ⟨⟨f x.toNatClampNeg, (), rfl, ⟨c_1, by rw [if_neg c_22]⟩, by rw [ht]; exact hP9, va_K.moved hW.alike hK, hD9⟩, hS.F ht⟩) hS.2.2 d_Q_asked_38
  · obtain ⟨sa, hstr⟩ := hE.2.2.1 ("QuestionText", 159, "below 0") (by decide)
    have hP9 := hP.sub (ws' := [(h0, .inr (0, [.ref a1, .ref a2, .ref a3, .ref a4, .int md, .int wp])), (a3, .inr (2, [.ref b1, .ref b2, .int (nI cnt), .int nw, .int pt, .int kd])), (b1, .inl (k 0, 40, .inl f))]) [0, 1, 2] rfl
    have hD9 := hD.sub (ws' := [(h0, .inr (0, [.ref a1, .ref a2, .ref a3, .ref a4, .int md, .int wp])), (a3, .inr (2, [.ref b1, .ref b2, .int (nI cnt), .int nw, .int pt, .int kd])), (b1, .inl (k 0, 40, .inl f))]) [0, 1, 2] (by decide) rfl
    have hB9 := z_thr (dC := dC) (dI := dI) (k := k) hP9 hK hD9 hS
    exact vx_throwS (own := "QuestionText") (cls := "java/lang/IllegalArgumentException") (text := "below 0") (names := ["java/lang/RuntimeException", "java/lang/Exception"]) (ik := 41) (is := 159) (ic := 45) hx hb hlt hown (by decide +kernel) (by decide +kernel) (htz _ kc_Q_41) (htz _ ini_IAE) hstr (z_hat th_Q_45 htz hE.1) tg_Q_41_45 hE.2.2.2.1 hE.2.2.2.2.1 hS (hl.1.trans hml.symm) d_Q_asked_4 d_Q_asked_7 d_Q_asked_8 d_Q_asked_10 d_Q_asked_13 (fun x hx9 => (hno x hx9).elim) (Nat.le_of_ble_eq_true rfl) (Nat.le_of_ble_eq_true rfl) (Nat.le_of_ble_eq_true rfl) (Nat.le_of_ble_eq_true rfl) hlocks (fun t h1 h2 h3 => ⟨(), trivial, ⟨⟨rfl, c_1⟩, (hB9 t h1 h2 h3).1⟩, (hB9 t h1 h2 h3).2⟩) hS.2.2 (Nat.le_of_ble_eq_true rfl) (Nat.le_of_ble_eq_true rfl)
set_option maxHeartbeats 1000000 in
set_option maxRecDepth 100000 in
theorem c_Q_loop (l : Launch) (hlt : l.stackTraces = false) (dC : Nat → ClassId) (dI : Nat → Nat → Nat) (k : Nat → ClassId) (sz : Nat) (h0 : Nat) (a1 : Nat) (a2 : Nat) (a3 : Nat) (md : Int32) (wp : Int32) (ed : Nat) (e1 : Nat) (e2 : Nat) (sz1 : Int32) (l1 : Int64) (l2 : Int64) (l3 : Int64) (x : Int32) : vx_Met l y_Q_loop (Cond.code y_Q_loop b_Q_loop 2 (some .int) :: z_T) (z_rm 2 1 6) (z_Pc dC dI k sz [.ref h0, .int x] [(h0, .inr (0, [.ref a1, .ref a2, .ref a3, .ref ed, .int md, .int wp])), (ed, .inr (3, [.ref e1, .ref e2, .int sz1, .long l1, .long l2, .long l3]))]) (va_Qi (fun (r : Int32) (u : Unit) => 0 ≤ x ∧ r = z_mof l1 x 60 1 0) (fun (u : Unit) t => z_B dC dI k (va_A [(h0, .inr (0, [.ref a1, .ref a2, .ref a3, .ref ed, .int md, .int wp])), (ed, .inr (3, [.ref e1, .ref e2, .int sz1, .long l1, .long l2, .long l3]))] sz) [(h0, .inr (0, [.ref a1, .ref a2, .ref a3, .ref ed, .int md, .int wp])), (ed, .inr (3, [.ref e1, .ref e2, .int sz1, .long l1, .long l2, .long l3]))] t) (va_A [(h0, .inr (0, [.ref a1, .ref a2, .ref a3, .ref ed, .int md, .int wp])), (ed, .inr (3, [.ref e1, .ref e2, .int sz1, .long l1, .long l2, .long l3]))] sz)) (vx_X (fun (_ : Unit) => True) (fun E (_ : Unit) t => (E = "java/lang/IllegalArgumentException" ∧ ¬ 0 ≤ x) ∧ z_B dC dI k (va_A [(h0, .inr (0, [.ref a1, .ref a2, .ref a3, .ref ed, .int md, .int wp])), (ed, .inr (3, [.ref e1, .ref e2, .int sz1, .long l1, .long l2, .long l3]))] sz) [(h0, .inr (0, [.ref a1, .ref a2, .ref a3, .ref ed, .int md, .int wp])), (ed, .inr (3, [.ref e1, .ref e2, .int sz1, .long l1, .long l2, .long l3]))] t) (va_A [(h0, .inr (0, [.ref a1, .ref a2, .ref a3, .ref ed, .int md, .int wp])), (ed, .inr (3, [.ref e1, .ref e2, .int sz1, .long l1, .long l2, .long l3]))] sz)) 1 6 (va_A [(h0, .inr (0, [.ref a1, .ref a2, .ref a3, .ref ed, .int md, .int wp])), (ed, .inr (3, [.ref e1, .ref e2, .int sz1, .long l1, .long l2, .long l3]))] sz) := by
  refine vx_ofW (cc := b_Q_loop) (maxL := 2) (ret := (some .int)) (by decide) rfl ?_
  intro p e s m args below meth c s₁ B hml hno hv
  obtain ⟨rfl, hsz, hE, hP, hK, hD0⟩ := hv
  have hx := B.exec
  have hb := B.bytes
  have hr := B.returns
  have hts := atoms_spec (ws := Cond.code y_Q_loop b_Q_loop 2 (some .int) :: z_T) B.pre
  have htz : ∀ w ∈ z_T, w.before _ s = true := fun w h => hts w (z_cons w h)
  have hown : s.vm.findClass "QuestionText" = some m.cls := findClass_of_methodNamed B.named
  have hlocks := B.notSynchronized
  subst hsz
  have hD := hD0.self (sz := s.heap.size)
  generalize hAe : va_A [(h0, .inr (0, [.ref a1, .ref a2, .ref a3, .ref ed, .int md, .int wp])), (ed, .inr (3, [.ref e1, .ref e2, .int sz1, .long l1, .long l2, .long l3]))] s.heap.size = A at hD hE ⊢
  have hA : ∀ q : Nat, s.heap.size ≤ q → A q := fun q h => by rw [← hAe]; exact Or.inr h
  have hS : va_S A s.heap s.heap [] := va_S.rf
  have hP : va_P (dC, dI) classes [(h0, .inr (0, [.ref a1, .ref a2, .ref a3, .ref ed, .int md, .int wp])), (ed, .inr (3, [.ref e1, .ref e2, .int sz1, .long l1, .long l2, .long l3]))] s.heap := hP
  have hl := lv_entry ([.ref h0, .int x]) (n := 2) (Nat.le_of_ble_eq_true rfl)
  rw [lg_entry_eq]
  generalize (lg_sl ([.ref h0, .int x]) ++ List.replicate (2 - (lg_sl ([.ref h0, .int x])).length) Slot.unset).toArray = ls at hl ⊢
  have hl : lv_has ls 2 [(0, .ref h0), (1, .int x)] := hl
  refine lv_iload_n hx hb d_Q_loop_0 rfl (lv_at hl 1 rfl) ?_
  refine lv_if_ge (tgt := 14) hx hb d_Q_loop_1 (by decide) (fun c_1 => ?_) (fun c_1 => ?_)
  · refine lv_aload_n hx hb d_Q_loop_14 rfl (lv_at hl 0 rfl) ?_
    refine va_get (D := (dC, dI)) (ci := 0) (v := .ref ed) (C := R_Q) (T := F_Q) (N := 6) hx hb htz i_Q hown hK hP 0 rfl rfl 3 (by decide) (htz _ kf_Q_30) (fun _ h9 => h9) rfl d_Q_loop_15 ?_
    refine va_getN (D := (dC, dI)) (ci := 3) (v := .long l1) (C := R_Ed) (T := F_Ed) (N := 6) hx hb htz i_Ed hown hK hP 1 rfl rfl 3 (by decide) (va_Nw.use rfl (hE.1 _ kf_Q_164)) (fun _ h9 => h9) rfl d_Q_loop_18 ?_
    refine lv_iload_n hx hb d_Q_loop_21 rfl (lv_at hl 1 rfl) ?_
    have hPc := hP.sub (ws' := []) [] rfl
    have hDc := hD.sub (ws' := []) [] (by decide) rfl
    have hFc := va_free (wc := []) hD hS hA [] rfl
    refine va_calli (va_runS (As := [.long l1, .int x]) (rest := []) ⟨hx, hb, hml, hown, htz⟩ (c_Q_memberOf l dC dI k s.heap.size l1 x) (va_cwS 2 htz (z_gS (fun _ h => h) km_Q_168 st_Q_memberOf ini_Q m_Q_memberOf) rfl rfl rfl (by decide +kernel) ⟨(Nat.le_of_ble_eq_true rfl), (Nat.le_of_ble_eq_true rfl)⟩) ⟨z_blind, fun U hU hW => ⟨rfl, by rw [hU], hE.call hS hFc hU hW, by rw [hU]; exact hPc, va_K.moved hW.alike hK, hDc.weaken (fun _ _ _ _ => trivial)⟩⟩ rfl rfl hl.1 rfl (lv_room (Nat.le_of_ble_eq_true rfl)) d_Q_loop_22 ⟨(Nat.le_of_ble_eq_true rfl), (Nat.le_of_ble_eq_true rfl)⟩) hS (fun q _ h => hFc q h) hFc (fun r u t H1 locs ht hvm hw hB hz1 hk1 hS => ?_)
    obtain ⟨hP1, hK1, hD1⟩ := hB
    rw [ht] at hP1
    try dsimp only at hw
    obtain ⟨hP, hD⟩ := va_join (wr := [(h0, .inr (0, [.ref a1, .ref a2, .ref a3, .ref ed, .int md, .int wp])), (ed, .inr (3, [.ref e1, .ref e2, .int sz1, .long l1, .long l2, .long l3]))]) (w1 := []) hP hD [] [0, 1] rfl rfl (by decide) (by decide) hk1 hFc hP1 hD1
    generalize H1 = H at hP hS ⊢
    have hP : va_P (dC, dI) classes [(h0, .inr (0, [.ref a1, .ref a2, .ref a3, .ref ed, .int md, .int wp])), (ed, .inr (3, [.ref e1, .ref e2, .int sz1, .long l1, .long l2, .long l3]))] H := hP
    have hD : va_D A [(h0, .inr (0, [.ref a1, .ref a2, .ref a3, .ref ed, .int md, .int wp])), (ed, .inr (3, [.ref e1, .ref e2, .int sz1, .long l1, .long l2, .long l3]))] := hD
    refine W.widen (k := 1) (n := 6) (Nat.le_of_ble_eq_true rfl) (Nat.le_of_ble_eq_true rfl) ?_
    refine vx_ret ?_
    have hP9 := hP.sub (ws' := [(h0, .inr (0, [.ref a1, .ref a2, .ref a3, .ref ed, .int md, .int wp])), (ed, .inr (3, [.ref e1, .ref e2, .int sz1, .long l1, .long l2, .long l3]))]) [0, 1] rfl
    have hD9 := hD.sub (ws' := [(h0, .inr (0, [.ref a1, .ref a2, .ref a3, .ref ed, .int md, .int wp])), (ed, .inr (3, [.ref e1, .ref e2, .int sz1, .long l1, .long l2, .long l3]))]) [0, 1] (by decide) rfl
    exact W.iret (v := r) hx hb hr (fun t ht hW => ⟨⟨r, (), rfl, ⟨c_1, hw⟩, by rw [ht]; exact hP9, va_K.moved hW.alike hK, hD9⟩, hS.F ht⟩) hS.2.2 d_Q_loop_25
  · obtain ⟨sa, hstr⟩ := hE.2.2.1 ("QuestionText", 159, "below 0") (by decide)
    have hP9 := hP.sub (ws' := [(h0, .inr (0, [.ref a1, .ref a2, .ref a3, .ref ed, .int md, .int wp])), (ed, .inr (3, [.ref e1, .ref e2, .int sz1, .long l1, .long l2, .long l3]))]) [0, 1] rfl
    have hD9 := hD.sub (ws' := [(h0, .inr (0, [.ref a1, .ref a2, .ref a3, .ref ed, .int md, .int wp])), (ed, .inr (3, [.ref e1, .ref e2, .int sz1, .long l1, .long l2, .long l3]))]) [0, 1] (by decide) rfl
    have hB9 := z_thr (dC := dC) (dI := dI) (k := k) hP9 hK hD9 hS
    exact vx_throwS (own := "QuestionText") (cls := "java/lang/IllegalArgumentException") (text := "below 0") (names := ["java/lang/RuntimeException", "java/lang/Exception"]) (ik := 41) (is := 159) (ic := 45) hx hb hlt hown (by decide +kernel) (by decide +kernel) (htz _ kc_Q_41) (htz _ ini_IAE) hstr (z_hat th_Q_45 htz hE.1) tg_Q_41_45 hE.2.2.2.1 hE.2.2.2.2.1 hS (hl.1.trans hml.symm) d_Q_loop_4 d_Q_loop_7 d_Q_loop_8 d_Q_loop_10 d_Q_loop_13 (fun x hx9 => (hno x hx9).elim) (Nat.le_of_ble_eq_true rfl) (Nat.le_of_ble_eq_true rfl) (Nat.le_of_ble_eq_true rfl) (Nat.le_of_ble_eq_true rfl) hlocks (fun t h1 h2 h3 => ⟨(), trivial, ⟨⟨rfl, c_1⟩, (hB9 t h1 h2 h3).1⟩, (hB9 t h1 h2 h3).2⟩) hS.2.2 (Nat.le_of_ble_eq_true rfl) (Nat.le_of_ble_eq_true rfl)
set_option maxHeartbeats 1000000 in
set_option maxRecDepth 100000 in
theorem c_Q_never (l : Launch) (hlt : l.stackTraces = false) (dC : Nat → ClassId) (dI : Nat → Nat → Nat) (k : Nat → ClassId) (sz : Nat) (h0 : Nat) (a1 : Nat) (a2 : Nat) (a3 : Nat) (md : Int32) (wp : Int32) (ed : Nat) (e1 : Nat) (e2 : Nat) (sz1 : Int32) (l1 : Int64) (l2 : Int64) (l3 : Int64) (x : Int32) : vx_Met l y_Q_never (Cond.code y_Q_never b_Q_never 2 (some .int) :: z_T) (z_rm 2 1 6) (z_Pc dC dI k sz [.ref h0, .int x] [(h0, .inr (0, [.ref a1, .ref a2, .ref a3, .ref ed, .int md, .int wp])), (ed, .inr (3, [.ref e1, .ref e2, .int sz1, .long l1, .long l2, .long l3]))]) (va_Qi (fun (r : Int32) (u : Unit) => 0 ≤ x ∧ r = z_mof l2 x 60 1 0) (fun (u : Unit) t => z_B dC dI k (va_A [(h0, .inr (0, [.ref a1, .ref a2, .ref a3, .ref ed, .int md, .int wp])), (ed, .inr (3, [.ref e1, .ref e2, .int sz1, .long l1, .long l2, .long l3]))] sz) [(h0, .inr (0, [.ref a1, .ref a2, .ref a3, .ref ed, .int md, .int wp])), (ed, .inr (3, [.ref e1, .ref e2, .int sz1, .long l1, .long l2, .long l3]))] t) (va_A [(h0, .inr (0, [.ref a1, .ref a2, .ref a3, .ref ed, .int md, .int wp])), (ed, .inr (3, [.ref e1, .ref e2, .int sz1, .long l1, .long l2, .long l3]))] sz)) (vx_X (fun (_ : Unit) => True) (fun E (_ : Unit) t => (E = "java/lang/IllegalArgumentException" ∧ ¬ 0 ≤ x) ∧ z_B dC dI k (va_A [(h0, .inr (0, [.ref a1, .ref a2, .ref a3, .ref ed, .int md, .int wp])), (ed, .inr (3, [.ref e1, .ref e2, .int sz1, .long l1, .long l2, .long l3]))] sz) [(h0, .inr (0, [.ref a1, .ref a2, .ref a3, .ref ed, .int md, .int wp])), (ed, .inr (3, [.ref e1, .ref e2, .int sz1, .long l1, .long l2, .long l3]))] t) (va_A [(h0, .inr (0, [.ref a1, .ref a2, .ref a3, .ref ed, .int md, .int wp])), (ed, .inr (3, [.ref e1, .ref e2, .int sz1, .long l1, .long l2, .long l3]))] sz)) 1 6 (va_A [(h0, .inr (0, [.ref a1, .ref a2, .ref a3, .ref ed, .int md, .int wp])), (ed, .inr (3, [.ref e1, .ref e2, .int sz1, .long l1, .long l2, .long l3]))] sz) := by
  refine vx_ofW (cc := b_Q_never) (maxL := 2) (ret := (some .int)) (by decide) rfl ?_
  intro p e s m args below meth c s₁ B hml hno hv
  obtain ⟨rfl, hsz, hE, hP, hK, hD0⟩ := hv
  have hx := B.exec
  have hb := B.bytes
  have hr := B.returns
  have hts := atoms_spec (ws := Cond.code y_Q_never b_Q_never 2 (some .int) :: z_T) B.pre
  have htz : ∀ w ∈ z_T, w.before _ s = true := fun w h => hts w (z_cons w h)
  have hown : s.vm.findClass "QuestionText" = some m.cls := findClass_of_methodNamed B.named
  have hlocks := B.notSynchronized
  subst hsz
  have hD := hD0.self (sz := s.heap.size)
  generalize hAe : va_A [(h0, .inr (0, [.ref a1, .ref a2, .ref a3, .ref ed, .int md, .int wp])), (ed, .inr (3, [.ref e1, .ref e2, .int sz1, .long l1, .long l2, .long l3]))] s.heap.size = A at hD hE ⊢
  have hA : ∀ q : Nat, s.heap.size ≤ q → A q := fun q h => by rw [← hAe]; exact Or.inr h
  have hS : va_S A s.heap s.heap [] := va_S.rf
  have hP : va_P (dC, dI) classes [(h0, .inr (0, [.ref a1, .ref a2, .ref a3, .ref ed, .int md, .int wp])), (ed, .inr (3, [.ref e1, .ref e2, .int sz1, .long l1, .long l2, .long l3]))] s.heap := hP
  have hl := lv_entry ([.ref h0, .int x]) (n := 2) (Nat.le_of_ble_eq_true rfl)
  rw [lg_entry_eq]
  generalize (lg_sl ([.ref h0, .int x]) ++ List.replicate (2 - (lg_sl ([.ref h0, .int x])).length) Slot.unset).toArray = ls at hl ⊢
  have hl : lv_has ls 2 [(0, .ref h0), (1, .int x)] := hl
  refine lv_iload_n hx hb d_Q_never_0 rfl (lv_at hl 1 rfl) ?_
  refine lv_if_ge (tgt := 14) hx hb d_Q_never_1 (by decide) (fun c_1 => ?_) (fun c_1 => ?_)
  · refine lv_aload_n hx hb d_Q_never_14 rfl (lv_at hl 0 rfl) ?_
    refine va_get (D := (dC, dI)) (ci := 0) (v := .ref ed) (C := R_Q) (T := F_Q) (N := 6) hx hb htz i_Q hown hK hP 0 rfl rfl 3 (by decide) (htz _ kf_Q_30) (fun _ h9 => h9) rfl d_Q_never_15 ?_
    refine va_getN (D := (dC, dI)) (ci := 3) (v := .long l2) (C := R_Ed) (T := F_Ed) (N := 6) hx hb htz i_Ed hown hK hP 1 rfl rfl 4 (by decide) (va_Nw.use rfl (hE.1 _ kf_Q_172)) (fun _ h9 => h9) rfl d_Q_never_18 ?_
    refine lv_iload_n hx hb d_Q_never_21 rfl (lv_at hl 1 rfl) ?_
    have hPc := hP.sub (ws' := []) [] rfl
    have hDc := hD.sub (ws' := []) [] (by decide) rfl
    have hFc := va_free (wc := []) hD hS hA [] rfl
    refine va_calli (va_runS (As := [.long l2, .int x]) (rest := []) ⟨hx, hb, hml, hown, htz⟩ (c_Q_memberOf l dC dI k s.heap.size l2 x) (va_cwS 2 htz (z_gS (fun _ h => h) km_Q_168 st_Q_memberOf ini_Q m_Q_memberOf) rfl rfl rfl (by decide +kernel) ⟨(Nat.le_of_ble_eq_true rfl), (Nat.le_of_ble_eq_true rfl)⟩) ⟨z_blind, fun U hU hW => ⟨rfl, by rw [hU], hE.call hS hFc hU hW, by rw [hU]; exact hPc, va_K.moved hW.alike hK, hDc.weaken (fun _ _ _ _ => trivial)⟩⟩ rfl rfl hl.1 rfl (lv_room (Nat.le_of_ble_eq_true rfl)) d_Q_never_22 ⟨(Nat.le_of_ble_eq_true rfl), (Nat.le_of_ble_eq_true rfl)⟩) hS (fun q _ h => hFc q h) hFc (fun r u t H1 locs ht hvm hw hB hz1 hk1 hS => ?_)
    obtain ⟨hP1, hK1, hD1⟩ := hB
    rw [ht] at hP1
    try dsimp only at hw
    obtain ⟨hP, hD⟩ := va_join (wr := [(h0, .inr (0, [.ref a1, .ref a2, .ref a3, .ref ed, .int md, .int wp])), (ed, .inr (3, [.ref e1, .ref e2, .int sz1, .long l1, .long l2, .long l3]))]) (w1 := []) hP hD [] [0, 1] rfl rfl (by decide) (by decide) hk1 hFc hP1 hD1
    generalize H1 = H at hP hS ⊢
    have hP : va_P (dC, dI) classes [(h0, .inr (0, [.ref a1, .ref a2, .ref a3, .ref ed, .int md, .int wp])), (ed, .inr (3, [.ref e1, .ref e2, .int sz1, .long l1, .long l2, .long l3]))] H := hP
    have hD : va_D A [(h0, .inr (0, [.ref a1, .ref a2, .ref a3, .ref ed, .int md, .int wp])), (ed, .inr (3, [.ref e1, .ref e2, .int sz1, .long l1, .long l2, .long l3]))] := hD
    refine W.widen (k := 1) (n := 6) (Nat.le_of_ble_eq_true rfl) (Nat.le_of_ble_eq_true rfl) ?_
    refine vx_ret ?_
    have hP9 := hP.sub (ws' := [(h0, .inr (0, [.ref a1, .ref a2, .ref a3, .ref ed, .int md, .int wp])), (ed, .inr (3, [.ref e1, .ref e2, .int sz1, .long l1, .long l2, .long l3]))]) [0, 1] rfl
    have hD9 := hD.sub (ws' := [(h0, .inr (0, [.ref a1, .ref a2, .ref a3, .ref ed, .int md, .int wp])), (ed, .inr (3, [.ref e1, .ref e2, .int sz1, .long l1, .long l2, .long l3]))]) [0, 1] (by decide) rfl
    exact W.iret (v := r) hx hb hr (fun t ht hW => ⟨⟨r, (), rfl, ⟨c_1, hw⟩, by rw [ht]; exact hP9, va_K.moved hW.alike hK, hD9⟩, hS.F ht⟩) hS.2.2 d_Q_never_25
  · obtain ⟨sa, hstr⟩ := hE.2.2.1 ("QuestionText", 159, "below 0") (by decide)
    have hP9 := hP.sub (ws' := [(h0, .inr (0, [.ref a1, .ref a2, .ref a3, .ref ed, .int md, .int wp])), (ed, .inr (3, [.ref e1, .ref e2, .int sz1, .long l1, .long l2, .long l3]))]) [0, 1] rfl
    have hD9 := hD.sub (ws' := [(h0, .inr (0, [.ref a1, .ref a2, .ref a3, .ref ed, .int md, .int wp])), (ed, .inr (3, [.ref e1, .ref e2, .int sz1, .long l1, .long l2, .long l3]))]) [0, 1] (by decide) rfl
    have hB9 := z_thr (dC := dC) (dI := dI) (k := k) hP9 hK hD9 hS
    exact vx_throwS (own := "QuestionText") (cls := "java/lang/IllegalArgumentException") (text := "below 0") (names := ["java/lang/RuntimeException", "java/lang/Exception"]) (ik := 41) (is := 159) (ic := 45) hx hb hlt hown (by decide +kernel) (by decide +kernel) (htz _ kc_Q_41) (htz _ ini_IAE) hstr (z_hat th_Q_45 htz hE.1) tg_Q_41_45 hE.2.2.2.1 hE.2.2.2.2.1 hS (hl.1.trans hml.symm) d_Q_never_4 d_Q_never_7 d_Q_never_8 d_Q_never_10 d_Q_never_13 (fun x hx9 => (hno x hx9).elim) (Nat.le_of_ble_eq_true rfl) (Nat.le_of_ble_eq_true rfl) (Nat.le_of_ble_eq_true rfl) (Nat.le_of_ble_eq_true rfl) hlocks (fun t h1 h2 h3 => ⟨(), trivial, ⟨⟨rfl, c_1⟩, (hB9 t h1 h2 h3).1⟩, (hB9 t h1 h2 h3).2⟩) hS.2.2 (Nat.le_of_ble_eq_true rfl) (Nat.le_of_ble_eq_true rfl)
set_option maxHeartbeats 1000000 in
set_option maxRecDepth 100000 in
theorem c_Q_endless (l : Launch) (hlt : l.stackTraces = false) (dC : Nat → ClassId) (dI : Nat → Nat → Nat) (k : Nat → ClassId) (sz : Nat) (h0 : Nat) (a1 : Nat) (a2 : Nat) (a3 : Nat) (md : Int32) (wp : Int32) (ed : Nat) (e1 : Nat) (e2 : Nat) (sz1 : Int32) (l1 : Int64) (l2 : Int64) (l3 : Int64) (x : Int32) : vx_Met l y_Q_endless (Cond.code y_Q_endless b_Q_endless 2 (some .int) :: z_T) (z_rm 2 1 6) (z_Pc dC dI k sz [.ref h0, .int x] [(h0, .inr (0, [.ref a1, .ref a2, .ref a3, .ref ed, .int md, .int wp])), (ed, .inr (3, [.ref e1, .ref e2, .int sz1, .long l1, .long l2, .long l3]))]) (va_Qi (fun (r : Int32) (u : Unit) => 0 ≤ x ∧ r = z_mof l3 x 60 1 0) (fun (u : Unit) t => z_B dC dI k (va_A [(h0, .inr (0, [.ref a1, .ref a2, .ref a3, .ref ed, .int md, .int wp])), (ed, .inr (3, [.ref e1, .ref e2, .int sz1, .long l1, .long l2, .long l3]))] sz) [(h0, .inr (0, [.ref a1, .ref a2, .ref a3, .ref ed, .int md, .int wp])), (ed, .inr (3, [.ref e1, .ref e2, .int sz1, .long l1, .long l2, .long l3]))] t) (va_A [(h0, .inr (0, [.ref a1, .ref a2, .ref a3, .ref ed, .int md, .int wp])), (ed, .inr (3, [.ref e1, .ref e2, .int sz1, .long l1, .long l2, .long l3]))] sz)) (vx_X (fun (_ : Unit) => True) (fun E (_ : Unit) t => (E = "java/lang/IllegalArgumentException" ∧ ¬ 0 ≤ x) ∧ z_B dC dI k (va_A [(h0, .inr (0, [.ref a1, .ref a2, .ref a3, .ref ed, .int md, .int wp])), (ed, .inr (3, [.ref e1, .ref e2, .int sz1, .long l1, .long l2, .long l3]))] sz) [(h0, .inr (0, [.ref a1, .ref a2, .ref a3, .ref ed, .int md, .int wp])), (ed, .inr (3, [.ref e1, .ref e2, .int sz1, .long l1, .long l2, .long l3]))] t) (va_A [(h0, .inr (0, [.ref a1, .ref a2, .ref a3, .ref ed, .int md, .int wp])), (ed, .inr (3, [.ref e1, .ref e2, .int sz1, .long l1, .long l2, .long l3]))] sz)) 1 6 (va_A [(h0, .inr (0, [.ref a1, .ref a2, .ref a3, .ref ed, .int md, .int wp])), (ed, .inr (3, [.ref e1, .ref e2, .int sz1, .long l1, .long l2, .long l3]))] sz) := by
  refine vx_ofW (cc := b_Q_endless) (maxL := 2) (ret := (some .int)) (by decide) rfl ?_
  intro p e s m args below meth c s₁ B hml hno hv
  obtain ⟨rfl, hsz, hE, hP, hK, hD0⟩ := hv
  have hx := B.exec
  have hb := B.bytes
  have hr := B.returns
  have hts := atoms_spec (ws := Cond.code y_Q_endless b_Q_endless 2 (some .int) :: z_T) B.pre
  have htz : ∀ w ∈ z_T, w.before _ s = true := fun w h => hts w (z_cons w h)
  have hown : s.vm.findClass "QuestionText" = some m.cls := findClass_of_methodNamed B.named
  have hlocks := B.notSynchronized
  subst hsz
  have hD := hD0.self (sz := s.heap.size)
  generalize hAe : va_A [(h0, .inr (0, [.ref a1, .ref a2, .ref a3, .ref ed, .int md, .int wp])), (ed, .inr (3, [.ref e1, .ref e2, .int sz1, .long l1, .long l2, .long l3]))] s.heap.size = A at hD hE ⊢
  have hA : ∀ q : Nat, s.heap.size ≤ q → A q := fun q h => by rw [← hAe]; exact Or.inr h
  have hS : va_S A s.heap s.heap [] := va_S.rf
  have hP : va_P (dC, dI) classes [(h0, .inr (0, [.ref a1, .ref a2, .ref a3, .ref ed, .int md, .int wp])), (ed, .inr (3, [.ref e1, .ref e2, .int sz1, .long l1, .long l2, .long l3]))] s.heap := hP
  have hl := lv_entry ([.ref h0, .int x]) (n := 2) (Nat.le_of_ble_eq_true rfl)
  rw [lg_entry_eq]
  generalize (lg_sl ([.ref h0, .int x]) ++ List.replicate (2 - (lg_sl ([.ref h0, .int x])).length) Slot.unset).toArray = ls at hl ⊢
  have hl : lv_has ls 2 [(0, .ref h0), (1, .int x)] := hl
  refine lv_iload_n hx hb d_Q_endless_0 rfl (lv_at hl 1 rfl) ?_
  refine lv_if_ge (tgt := 14) hx hb d_Q_endless_1 (by decide) (fun c_1 => ?_) (fun c_1 => ?_)
  · refine lv_aload_n hx hb d_Q_endless_14 rfl (lv_at hl 0 rfl) ?_
    refine va_get (D := (dC, dI)) (ci := 0) (v := .ref ed) (C := R_Q) (T := F_Q) (N := 6) hx hb htz i_Q hown hK hP 0 rfl rfl 3 (by decide) (htz _ kf_Q_30) (fun _ h9 => h9) rfl d_Q_endless_15 ?_
    refine va_getN (D := (dC, dI)) (ci := 3) (v := .long l3) (C := R_Ed) (T := F_Ed) (N := 6) hx hb htz i_Ed hown hK hP 1 rfl rfl 5 (by decide) (va_Nw.use rfl (hE.1 _ kf_Q_175)) (fun _ h9 => h9) rfl d_Q_endless_18 ?_
    refine lv_iload_n hx hb d_Q_endless_21 rfl (lv_at hl 1 rfl) ?_
    have hPc := hP.sub (ws' := []) [] rfl
    have hDc := hD.sub (ws' := []) [] (by decide) rfl
    have hFc := va_free (wc := []) hD hS hA [] rfl
    refine va_calli (va_runS (As := [.long l3, .int x]) (rest := []) ⟨hx, hb, hml, hown, htz⟩ (c_Q_memberOf l dC dI k s.heap.size l3 x) (va_cwS 2 htz (z_gS (fun _ h => h) km_Q_168 st_Q_memberOf ini_Q m_Q_memberOf) rfl rfl rfl (by decide +kernel) ⟨(Nat.le_of_ble_eq_true rfl), (Nat.le_of_ble_eq_true rfl)⟩) ⟨z_blind, fun U hU hW => ⟨rfl, by rw [hU], hE.call hS hFc hU hW, by rw [hU]; exact hPc, va_K.moved hW.alike hK, hDc.weaken (fun _ _ _ _ => trivial)⟩⟩ rfl rfl hl.1 rfl (lv_room (Nat.le_of_ble_eq_true rfl)) d_Q_endless_22 ⟨(Nat.le_of_ble_eq_true rfl), (Nat.le_of_ble_eq_true rfl)⟩) hS (fun q _ h => hFc q h) hFc (fun r u t H1 locs ht hvm hw hB hz1 hk1 hS => ?_)
    obtain ⟨hP1, hK1, hD1⟩ := hB
    rw [ht] at hP1
    try dsimp only at hw
    obtain ⟨hP, hD⟩ := va_join (wr := [(h0, .inr (0, [.ref a1, .ref a2, .ref a3, .ref ed, .int md, .int wp])), (ed, .inr (3, [.ref e1, .ref e2, .int sz1, .long l1, .long l2, .long l3]))]) (w1 := []) hP hD [] [0, 1] rfl rfl (by decide) (by decide) hk1 hFc hP1 hD1
    generalize H1 = H at hP hS ⊢
    have hP : va_P (dC, dI) classes [(h0, .inr (0, [.ref a1, .ref a2, .ref a3, .ref ed, .int md, .int wp])), (ed, .inr (3, [.ref e1, .ref e2, .int sz1, .long l1, .long l2, .long l3]))] H := hP
    have hD : va_D A [(h0, .inr (0, [.ref a1, .ref a2, .ref a3, .ref ed, .int md, .int wp])), (ed, .inr (3, [.ref e1, .ref e2, .int sz1, .long l1, .long l2, .long l3]))] := hD
    refine W.widen (k := 1) (n := 6) (Nat.le_of_ble_eq_true rfl) (Nat.le_of_ble_eq_true rfl) ?_
    refine vx_ret ?_
    have hP9 := hP.sub (ws' := [(h0, .inr (0, [.ref a1, .ref a2, .ref a3, .ref ed, .int md, .int wp])), (ed, .inr (3, [.ref e1, .ref e2, .int sz1, .long l1, .long l2, .long l3]))]) [0, 1] rfl
    have hD9 := hD.sub (ws' := [(h0, .inr (0, [.ref a1, .ref a2, .ref a3, .ref ed, .int md, .int wp])), (ed, .inr (3, [.ref e1, .ref e2, .int sz1, .long l1, .long l2, .long l3]))]) [0, 1] (by decide) rfl
    exact W.iret (v := r) hx hb hr (fun t ht hW => ⟨⟨r, (), rfl, ⟨c_1, hw⟩, by rw [ht]; exact hP9, va_K.moved hW.alike hK, hD9⟩, hS.F ht⟩) hS.2.2 d_Q_endless_25
  · obtain ⟨sa, hstr⟩ := hE.2.2.1 ("QuestionText", 159, "below 0") (by decide)
    have hP9 := hP.sub (ws' := [(h0, .inr (0, [.ref a1, .ref a2, .ref a3, .ref ed, .int md, .int wp])), (ed, .inr (3, [.ref e1, .ref e2, .int sz1, .long l1, .long l2, .long l3]))]) [0, 1] rfl
    have hD9 := hD.sub (ws' := [(h0, .inr (0, [.ref a1, .ref a2, .ref a3, .ref ed, .int md, .int wp])), (ed, .inr (3, [.ref e1, .ref e2, .int sz1, .long l1, .long l2, .long l3]))]) [0, 1] (by decide) rfl
    have hB9 := z_thr (dC := dC) (dI := dI) (k := k) hP9 hK hD9 hS
    exact vx_throwS (own := "QuestionText") (cls := "java/lang/IllegalArgumentException") (text := "below 0") (names := ["java/lang/RuntimeException", "java/lang/Exception"]) (ik := 41) (is := 159) (ic := 45) hx hb hlt hown (by decide +kernel) (by decide +kernel) (htz _ kc_Q_41) (htz _ ini_IAE) hstr (z_hat th_Q_45 htz hE.1) tg_Q_41_45 hE.2.2.2.1 hE.2.2.2.2.1 hS (hl.1.trans hml.symm) d_Q_endless_4 d_Q_endless_7 d_Q_endless_8 d_Q_endless_10 d_Q_endless_13 (fun x hx9 => (hno x hx9).elim) (Nat.le_of_ble_eq_true rfl) (Nat.le_of_ble_eq_true rfl) (Nat.le_of_ble_eq_true rfl) (Nat.le_of_ble_eq_true rfl) hlocks (fun t h1 h2 h3 => ⟨(), trivial, ⟨⟨rfl, c_1⟩, (hB9 t h1 h2 h3).1⟩, (hB9 t h1 h2 h3).2⟩) hS.2.2 (Nat.le_of_ble_eq_true rfl) (Nat.le_of_ble_eq_true rfl)
set_option maxHeartbeats 1000000 in
set_option maxRecDepth 100000 in
theorem c_Q_first_none (l : Launch) (hlt : l.stackTraces = false) (dC : Nat → ClassId) (dI : Nat → Nat → Nat) (k : Nat → ClassId) (sz : Nat) (h0 : Nat) (a1 : Nat) (a2 : Nat) (a3 : Nat) (md : Int32) (wp : Int32) (ed : Nat) (e1 : Nat) (e2 : Nat) (sz1 : Int32) (l1 : Int64) (l2 : Int64) (l3 : Int64) (g1 : Nat → Option Nat) (g2 : Nat → Option Nat) (x : Int32) (hg : z_rd g2 9 x = none) : vx_Met l y_Q_first (Cond.code y_Q_first b_Q_first 3 (some .int) :: z_T) (z_rm 1 1 6) (z_Pc dC dI k sz [.ref h0, .int x] [(h0, .inr (0, [.ref a1, .ref a2, .ref a3, .ref ed, .int md, .int wp])), (ed, .inr (3, [.ref e1, .ref e2, .int sz1, .long l1, .long l2, .long l3])), (e1, .inl (k 3, 61, .inr (.inr (.inr (.inr g1))))), (e2, .inl (k 4, 10, .inr (.inr (.inr (.inr g2)))))]) (va_Qi (fun (r : Int32) (u : Unit) => False) (fun (u : Unit) t => z_B dC dI k (va_A [(h0, .inr (0, [.ref a1, .ref a2, .ref a3, .ref ed, .int md, .int wp])), (ed, .inr (3, [.ref e1, .ref e2, .int sz1, .long l1, .long l2, .long l3])), (e1, .inl (k 3, 61, .inr (.inr (.inr (.inr g1))))), (e2, .inl (k 4, 10, .inr (.inr (.inr (.inr g2)))))] sz) [(h0, .inr (0, [.ref a1, .ref a2, .ref a3, .ref ed, .int md, .int wp])), (ed, .inr (3, [.ref e1, .ref e2, .int sz1, .long l1, .long l2, .long l3])), (e1, .inl (k 3, 61, .inr (.inr (.inr (.inr g1))))), (e2, .inl (k 4, 10, .inr (.inr (.inr (.inr g2)))))] t) (va_A [(h0, .inr (0, [.ref a1, .ref a2, .ref a3, .ref ed, .int md, .int wp])), (ed, .inr (3, [.ref e1, .ref e2, .int sz1, .long l1, .long l2, .long l3])), (e1, .inl (k 3, 61, .inr (.inr (.inr (.inr g1))))), (e2, .inl (k 4, 10, .inr (.inr (.inr (.inr g2)))))] sz)) (vx_X (fun (_ : Unit) => True) (fun E (_ : Unit) t => (E = "java/lang/IllegalArgumentException") ∧ z_B dC dI k (va_A [(h0, .inr (0, [.ref a1, .ref a2, .ref a3, .ref ed, .int md, .int wp])), (ed, .inr (3, [.ref e1, .ref e2, .int sz1, .long l1, .long l2, .long l3])), (e1, .inl (k 3, 61, .inr (.inr (.inr (.inr g1))))), (e2, .inl (k 4, 10, .inr (.inr (.inr (.inr g2)))))] sz) [(h0, .inr (0, [.ref a1, .ref a2, .ref a3, .ref ed, .int md, .int wp])), (ed, .inr (3, [.ref e1, .ref e2, .int sz1, .long l1, .long l2, .long l3])), (e1, .inl (k 3, 61, .inr (.inr (.inr (.inr g1))))), (e2, .inl (k 4, 10, .inr (.inr (.inr (.inr g2)))))] t) (va_A [(h0, .inr (0, [.ref a1, .ref a2, .ref a3, .ref ed, .int md, .int wp])), (ed, .inr (3, [.ref e1, .ref e2, .int sz1, .long l1, .long l2, .long l3])), (e1, .inl (k 3, 61, .inr (.inr (.inr (.inr g1))))), (e2, .inl (k 4, 10, .inr (.inr (.inr (.inr g2)))))] sz)) 1 6 (va_A [(h0, .inr (0, [.ref a1, .ref a2, .ref a3, .ref ed, .int md, .int wp])), (ed, .inr (3, [.ref e1, .ref e2, .int sz1, .long l1, .long l2, .long l3])), (e1, .inl (k 3, 61, .inr (.inr (.inr (.inr g1))))), (e2, .inl (k 4, 10, .inr (.inr (.inr (.inr g2)))))] sz) := by
  refine vx_ofW (cc := b_Q_first) (maxL := 3) (ret := (some .int)) (by decide) rfl ?_
  intro p e s m args below meth c s₁ B hml hno hv
  obtain ⟨rfl, hsz, hE, hP, hK, hD0⟩ := hv
  have hx := B.exec
  have hb := B.bytes
  have hr := B.returns
  have hts := atoms_spec (ws := Cond.code y_Q_first b_Q_first 3 (some .int) :: z_T) B.pre
  have htz : ∀ w ∈ z_T, w.before _ s = true := fun w h => hts w (z_cons w h)
  have hown : s.vm.findClass "QuestionText" = some m.cls := findClass_of_methodNamed B.named
  have hlocks := B.notSynchronized
  subst hsz
  have hD := hD0.self (sz := s.heap.size)
  generalize hAe : va_A [(h0, .inr (0, [.ref a1, .ref a2, .ref a3, .ref ed, .int md, .int wp])), (ed, .inr (3, [.ref e1, .ref e2, .int sz1, .long l1, .long l2, .long l3])), (e1, .inl (k 3, 61, .inr (.inr (.inr (.inr g1))))), (e2, .inl (k 4, 10, .inr (.inr (.inr (.inr g2)))))] s.heap.size = A at hD hE ⊢
  have hA : ∀ q : Nat, s.heap.size ≤ q → A q := fun q h => by rw [← hAe]; exact Or.inr h
  have hS : va_S A s.heap s.heap [] := va_S.rf
  have hP : va_P (dC, dI) classes [(h0, .inr (0, [.ref a1, .ref a2, .ref a3, .ref ed, .int md, .int wp])), (ed, .inr (3, [.ref e1, .ref e2, .int sz1, .long l1, .long l2, .long l3])), (e1, .inl (k 3, 61, .inr (.inr (.inr (.inr g1))))), (e2, .inl (k 4, 10, .inr (.inr (.inr (.inr g2)))))] s.heap := hP
  have hl := lv_entry ([.ref h0, .int x]) (n := 3) (Nat.le_of_ble_eq_true rfl)
  rw [lg_entry_eq]
  generalize (lg_sl ([.ref h0, .int x]) ++ List.replicate (3 - (lg_sl ([.ref h0, .int x])).length) Slot.unset).toArray = ls at hl ⊢
  have hl : lv_has ls 3 [(0, .ref h0), (1, .int x)] := hl
  refine lv_aload_n hx hb d_Q_first_0 rfl (lv_at hl 0 rfl) ?_
  refine va_get (D := (dC, dI)) (ci := 0) (v := .ref ed) (C := R_Q) (T := F_Q) (N := 6) hx hb htz i_Q hown hK hP 0 rfl rfl 3 (by decide) (htz _ kf_Q_30) (fun _ h9 => h9) rfl d_Q_first_1 ?_
  refine lv_iload_n hx hb d_Q_first_4 rfl (lv_at hl 1 rfl) ?_
  have hPc := hP.sub (ws' := [(ed, .inr (3, [.ref e1, .ref e2, .int sz1, .long l1, .long l2, .long l3])), (e1, .inl (k 3, 61, .inr (.inr (.inr (.inr g1))))), (e2, .inl (k 4, 10, .inr (.inr (.inr (.inr g2)))))]) [1, 2, 3] rfl
  have hDc := hD.sub (ws' := [(ed, .inr (3, [.ref e1, .ref e2, .int sz1, .long l1, .long l2, .long l3])), (e1, .inl (k 3, 61, .inr (.inr (.inr (.inr g1))))), (e2, .inl (k 4, 10, .inr (.inr (.inr (.inr g2)))))]) [1, 2, 3] (by decide) rfl
  have hFc := va_free (wc := [(ed, .inr (3, [.ref e1, .ref e2, .int sz1, .long l1, .long l2, .long l3])), (e1, .inl (k 3, 61, .inr (.inr (.inr (.inr g1))))), (e2, .inl (k 4, 10, .inr (.inr (.inr (.inr g2)))))]) hD hS hA [1, 2, 3] rfl
  refine va_callq (va_runV (As := [.int x]) (rest := []) ⟨hx, hb, hml, hown, htz⟩ (c_Ed_kindAt l dC dI k s.heap.size ed e1 e2 sz1 l1 l2 l3 g1 g2 x) (cwV 1 htz (z_gV (fun _ h => h) km_Q_93 in_Ed_kindAt se_Ed_kindAt ini_Ed m_Ed_kindAt) rfl rfl rfl (by decide +kernel) ⟨(Nat.le_of_ble_eq_true rfl), (Nat.le_of_ble_eq_true rfl)⟩) ⟨z_blind, va_recv hK hPc (ci := 3) (q0 := 0) rfl rfl, fun U hU hW => ⟨rfl, by rw [hU], hE.call hS hFc hU hW, by rw [hU]; exact hPc, va_K.moved hW.alike hK, hDc.weaken (fun _ _ _ _ => trivial)⟩⟩ rfl rfl hl.1 rfl (lv_room (Nat.le_of_ble_eq_true rfl)) d_Q_first_5 ⟨(Nat.le_of_ble_eq_true rfl), (Nat.le_of_ble_eq_true rfl)⟩) hS (fun q _ h => hFc q h) hFc (fun r1 u t H1 locs ht hvm hw hB hz1 hk1 hS => ?_)
  obtain ⟨hP1, hK1, hD1⟩ := hB
  rw [ht] at hP1
  try dsimp only at hw
  obtain ⟨hP, hD⟩ := va_join (wr := [(h0, .inr (0, [.ref a1, .ref a2, .ref a3, .ref ed, .int md, .int wp]))]) (w1 := [(ed, .inr (3, [.ref e1, .ref e2, .int sz1, .long l1, .long l2, .long l3])), (e1, .inl (k 3, 61, .inr (.inr (.inr (.inr g1))))), (e2, .inl (k 4, 10, .inr (.inr (.inr (.inr g2)))))]) hP hD [1, 2, 3] [0] rfl rfl (by decide) (by decide) hk1 hFc hP1 hD1
  generalize H1 = H at hP hS ⊢
  have hP : va_P (dC, dI) classes [(h0, .inr (0, [.ref a1, .ref a2, .ref a3, .ref ed, .int md, .int wp])), (ed, .inr (3, [.ref e1, .ref e2, .int sz1, .long l1, .long l2, .long l3])), (e1, .inl (k 3, 61, .inr (.inr (.inr (.inr g1))))), (e2, .inl (k 4, 10, .inr (.inr (.inr (.inr g2)))))] H := hP
  have hD : va_D A [(h0, .inr (0, [.ref a1, .ref a2, .ref a3, .ref ed, .int md, .int wp])), (ed, .inr (3, [.ref e1, .ref e2, .int sz1, .long l1, .long l2, .long l3])), (e1, .inl (k 3, 61, .inr (.inr (.inr (.inr g1))))), (e2, .inl (k 4, 10, .inr (.inr (.inr (.inr g2)))))] := hD
  obtain rfl : r1 = none := hw.trans hg
  refine lv_astore_nN (lv' := [(2, .null), (0, .ref h0), (1, .int x)]) hx hb d_Q_first_8 rfl hl (by decide) rfl (fun ls hl => ?_)
  refine lv_aload_nN hx hb d_Q_first_9 rfl (lv_at hl 0 rfl) ?_
  refine lv_ifnonnullN hx hb d_Q_first_10 ?_
  obtain ⟨sa, hstr⟩ := hE.2.2.1 ("QuestionText", 97, "no such kind in the edition") (by decide)
  have hP9 := hP.sub (ws' := [(h0, .inr (0, [.ref a1, .ref a2, .ref a3, .ref ed, .int md, .int wp])), (ed, .inr (3, [.ref e1, .ref e2, .int sz1, .long l1, .long l2, .long l3])), (e1, .inl (k 3, 61, .inr (.inr (.inr (.inr g1))))), (e2, .inl (k 4, 10, .inr (.inr (.inr (.inr g2)))))]) [0, 1, 2, 3] rfl
  have hD9 := hD.sub (ws' := [(h0, .inr (0, [.ref a1, .ref a2, .ref a3, .ref ed, .int md, .int wp])), (ed, .inr (3, [.ref e1, .ref e2, .int sz1, .long l1, .long l2, .long l3])), (e1, .inl (k 3, 61, .inr (.inr (.inr (.inr g1))))), (e2, .inl (k 4, 10, .inr (.inr (.inr (.inr g2)))))]) [0, 1, 2, 3] (by decide) rfl
  have hB9 := z_thr (dC := dC) (dI := dI) (k := k) hP9 hK hD9 hS
  exact vx_throwS (own := "QuestionText") (cls := "java/lang/IllegalArgumentException") (text := "no such kind in the edition") (names := ["java/lang/RuntimeException", "java/lang/Exception"]) (ik := 41) (is := 97) (ic := 45) hx hb hlt hown (by decide +kernel) (by decide +kernel) (htz _ kc_Q_41) (htz _ ini_IAE) hstr (z_hat th_Q_45 htz hE.1) tg_Q_41_45 hE.2.2.2.1 hE.2.2.2.2.1 hS (hl.1.trans hml.symm) d_Q_first_13 d_Q_first_16 d_Q_first_17 d_Q_first_19 d_Q_first_22 (fun x hx9 => (hno x hx9).elim) (Nat.le_of_ble_eq_true rfl) (Nat.le_of_ble_eq_true rfl) (Nat.le_of_ble_eq_true rfl) (Nat.le_of_ble_eq_true rfl) hlocks (fun t h1 h2 h3 => ⟨(), trivial, ⟨rfl, (hB9 t h1 h2 h3).1⟩, (hB9 t h1 h2 h3).2⟩) hS.2.2 (Nat.le_of_ble_eq_true rfl) (Nat.le_of_ble_eq_true rfl)
set_option maxHeartbeats 1000000 in
set_option maxRecDepth 100000 in
theorem c_Q_answer_none (l : Launch) (hlt : l.stackTraces = false) (dC : Nat → ClassId) (dI : Nat → Nat → Nat) (k : Nat → ClassId) (sz : Nat) (h0 : Nat) (a1 : Nat) (a2 : Nat) (a3 : Nat) (md : Int32) (wp : Int32) (ed : Nat) (e1 : Nat) (e2 : Nat) (sz1 : Int32) (l1 : Int64) (l2 : Int64) (l3 : Int64) (g1 : Nat → Option Nat) (g2 : Nat → Option Nat) (b1 : Nat) (b2 : Nat) (cn : Int32) (nw : Int32) (pt : Int32) (kd : Int32) (x : Int32) (hg : z_rd g1 60 nw = none) : vx_Met l y_Q_answer (Cond.code y_Q_answer b_Q_answer 5 (some .int) :: z_T) (z_rm 1 1 6) (z_Pc dC dI k sz [.ref h0, .int x] [(h0, .inr (0, [.ref a1, .ref a2, .ref a3, .ref ed, .int md, .int wp])), (ed, .inr (3, [.ref e1, .ref e2, .int sz1, .long l1, .long l2, .long l3])), (e1, .inl (k 3, 61, .inr (.inr (.inr (.inr g1))))), (e2, .inl (k 4, 10, .inr (.inr (.inr (.inr g2))))), (a3, .inr (2, [.ref b1, .ref b2, .int cn, .int nw, .int pt, .int kd]))]) (va_Qi (fun (r : Int32) (u : Unit) => False) (fun (u : Unit) t => z_B dC dI k (va_A [(h0, .inr (0, [.ref a1, .ref a2, .ref a3, .ref ed, .int md, .int wp])), (ed, .inr (3, [.ref e1, .ref e2, .int sz1, .long l1, .long l2, .long l3])), (e1, .inl (k 3, 61, .inr (.inr (.inr (.inr g1))))), (e2, .inl (k 4, 10, .inr (.inr (.inr (.inr g2))))), (a3, .inr (2, [.ref b1, .ref b2, .int cn, .int nw, .int pt, .int kd]))] sz) [(h0, .inr (0, [.ref a1, .ref a2, .ref a3, .ref ed, .int md, .int wp])), (ed, .inr (3, [.ref e1, .ref e2, .int sz1, .long l1, .long l2, .long l3])), (e1, .inl (k 3, 61, .inr (.inr (.inr (.inr g1))))), (e2, .inl (k 4, 10, .inr (.inr (.inr (.inr g2))))), (a3, .inr (2, [.ref b1, .ref b2, .int cn, .int nw, .int pt, .int kd]))] t) (va_A [(h0, .inr (0, [.ref a1, .ref a2, .ref a3, .ref ed, .int md, .int wp])), (ed, .inr (3, [.ref e1, .ref e2, .int sz1, .long l1, .long l2, .long l3])), (e1, .inl (k 3, 61, .inr (.inr (.inr (.inr g1))))), (e2, .inl (k 4, 10, .inr (.inr (.inr (.inr g2))))), (a3, .inr (2, [.ref b1, .ref b2, .int cn, .int nw, .int pt, .int kd]))] sz)) (vx_X (fun (_ : Unit) => True) (fun E (_ : Unit) t => (E = "java/lang/IllegalStateException") ∧ z_B dC dI k (va_A [(h0, .inr (0, [.ref a1, .ref a2, .ref a3, .ref ed, .int md, .int wp])), (ed, .inr (3, [.ref e1, .ref e2, .int sz1, .long l1, .long l2, .long l3])), (e1, .inl (k 3, 61, .inr (.inr (.inr (.inr g1))))), (e2, .inl (k 4, 10, .inr (.inr (.inr (.inr g2))))), (a3, .inr (2, [.ref b1, .ref b2, .int cn, .int nw, .int pt, .int kd]))] sz) [(h0, .inr (0, [.ref a1, .ref a2, .ref a3, .ref ed, .int md, .int wp])), (ed, .inr (3, [.ref e1, .ref e2, .int sz1, .long l1, .long l2, .long l3])), (e1, .inl (k 3, 61, .inr (.inr (.inr (.inr g1))))), (e2, .inl (k 4, 10, .inr (.inr (.inr (.inr g2))))), (a3, .inr (2, [.ref b1, .ref b2, .int cn, .int nw, .int pt, .int kd]))] t) (va_A [(h0, .inr (0, [.ref a1, .ref a2, .ref a3, .ref ed, .int md, .int wp])), (ed, .inr (3, [.ref e1, .ref e2, .int sz1, .long l1, .long l2, .long l3])), (e1, .inl (k 3, 61, .inr (.inr (.inr (.inr g1))))), (e2, .inl (k 4, 10, .inr (.inr (.inr (.inr g2))))), (a3, .inr (2, [.ref b1, .ref b2, .int cn, .int nw, .int pt, .int kd]))] sz)) 1 6 (va_A [(h0, .inr (0, [.ref a1, .ref a2, .ref a3, .ref ed, .int md, .int wp])), (ed, .inr (3, [.ref e1, .ref e2, .int sz1, .long l1, .long l2, .long l3])), (e1, .inl (k 3, 61, .inr (.inr (.inr (.inr g1))))), (e2, .inl (k 4, 10, .inr (.inr (.inr (.inr g2))))), (a3, .inr (2, [.ref b1, .ref b2, .int cn, .int nw, .int pt, .int kd]))] sz) := by
  refine vx_ofW (cc := b_Q_answer) (maxL := 5) (ret := (some .int)) (by decide) rfl ?_
  intro p e s m args below meth c s₁ B hml hno hv
  obtain ⟨rfl, hsz, hE, hP, hK, hD0⟩ := hv
  have hx := B.exec
  have hb := B.bytes
  have hr := B.returns
  have hts := atoms_spec (ws := Cond.code y_Q_answer b_Q_answer 5 (some .int) :: z_T) B.pre
  have htz : ∀ w ∈ z_T, w.before _ s = true := fun w h => hts w (z_cons w h)
  have hown : s.vm.findClass "QuestionText" = some m.cls := findClass_of_methodNamed B.named
  have hlocks := B.notSynchronized
  subst hsz
  have hD := hD0.self (sz := s.heap.size)
  generalize hAe : va_A [(h0, .inr (0, [.ref a1, .ref a2, .ref a3, .ref ed, .int md, .int wp])), (ed, .inr (3, [.ref e1, .ref e2, .int sz1, .long l1, .long l2, .long l3])), (e1, .inl (k 3, 61, .inr (.inr (.inr (.inr g1))))), (e2, .inl (k 4, 10, .inr (.inr (.inr (.inr g2))))), (a3, .inr (2, [.ref b1, .ref b2, .int cn, .int nw, .int pt, .int kd]))] s.heap.size = A at hD hE ⊢
  have hA : ∀ q : Nat, s.heap.size ≤ q → A q := fun q h => by rw [← hAe]; exact Or.inr h
  have hS : va_S A s.heap s.heap [] := va_S.rf
  have hP : va_P (dC, dI) classes [(h0, .inr (0, [.ref a1, .ref a2, .ref a3, .ref ed, .int md, .int wp])), (ed, .inr (3, [.ref e1, .ref e2, .int sz1, .long l1, .long l2, .long l3])), (e1, .inl (k 3, 61, .inr (.inr (.inr (.inr g1))))), (e2, .inl (k 4, 10, .inr (.inr (.inr (.inr g2))))), (a3, .inr (2, [.ref b1, .ref b2, .int cn, .int nw, .int pt, .int kd]))] s.heap := hP
  have hl := lv_entry ([.ref h0, .int x]) (n := 5) (Nat.le_of_ble_eq_true rfl)
  rw [lg_entry_eq]
  generalize (lg_sl ([.ref h0, .int x]) ++ List.replicate (5 - (lg_sl ([.ref h0, .int x])).length) Slot.unset).toArray = ls at hl ⊢
  have hl : lv_has ls 5 [(0, .ref h0), (1, .int x)] := hl
  refine lv_aload_n hx hb d_Q_answer_0 rfl (lv_at hl 0 rfl) ?_
  refine va_get (D := (dC, dI)) (ci := 0) (v := .ref ed) (C := R_Q) (T := F_Q) (N := 6) hx hb htz i_Q hown hK hP 0 rfl rfl 3 (by decide) (htz _ kf_Q_30) (fun _ h9 => h9) rfl d_Q_answer_1 ?_
  refine lv_aload_n hx hb d_Q_answer_4 rfl (lv_at hl 0 rfl) ?_
  refine va_get (D := (dC, dI)) (ci := 0) (v := .ref a3) (C := R_Q) (T := F_Q) (N := 6) hx hb htz i_Q hown hK hP 0 rfl rfl 2 (by decide) (htz _ kf_Q_25) (fun _ h9 => h9) rfl d_Q_answer_5 ?_
  refine va_getN (D := (dC, dI)) (ci := 2) (v := .int nw) (C := R_Ca) (T := F_Ca) (N := 6) hx hb htz i_Ca hown hK hP 4 rfl rfl 3 (by decide) (va_Nw.use rfl (hE.1 _ kf_Q_114)) (fun _ h9 => h9) rfl d_Q_answer_8 ?_
  have hPc := hP.sub (ws' := [(ed, .inr (3, [.ref e1, .ref e2, .int sz1, .long l1, .long l2, .long l3])), (e1, .inl (k 3, 61, .inr (.inr (.inr (.inr g1))))), (e2, .inl (k 4, 10, .inr (.inr (.inr (.inr g2)))))]) [1, 2, 3] rfl
  have hDc := hD.sub (ws' := [(ed, .inr (3, [.ref e1, .ref e2, .int sz1, .long l1, .long l2, .long l3])), (e1, .inl (k 3, 61, .inr (.inr (.inr (.inr g1))))), (e2, .inl (k 4, 10, .inr (.inr (.inr (.inr g2)))))]) [1, 2, 3] (by decide) rfl
  have hFc := va_free (wc := [(ed, .inr (3, [.ref e1, .ref e2, .int sz1, .long l1, .long l2, .long l3])), (e1, .inl (k 3, 61, .inr (.inr (.inr (.inr g1))))), (e2, .inl (k 4, 10, .inr (.inr (.inr (.inr g2)))))]) hD hS hA [1, 2, 3] rfl
  refine va_callq (va_runV (As := [.int nw]) (rest := []) ⟨hx, hb, hml, hown, htz⟩ (c_Ed_questionAt l dC dI k s.heap.size ed e1 e2 sz1 l1 l2 l3 g1 g2 nw) (cwV 1 htz (z_gV (fun _ h => h) km_Q_117 in_Ed_questionAt se_Ed_questionAt ini_Ed m_Ed_questionAt) rfl rfl rfl (by decide +kernel) ⟨(Nat.le_of_ble_eq_true rfl), (Nat.le_of_ble_eq_true rfl)⟩) ⟨z_blind, va_recv hK hPc (ci := 3) (q0 := 0) rfl rfl, fun U hU hW => ⟨rfl, by rw [hU], hE.call hS hFc hU hW, by rw [hU]; exact hPc, va_K.moved hW.alike hK, hDc.weaken (fun _ _ _ _ => trivial)⟩⟩ rfl rfl hl.1 rfl (lv_room (Nat.le_of_ble_eq_true rfl)) d_Q_answer_11 ⟨(Nat.le_of_ble_eq_true rfl), (Nat.le_of_ble_eq_true rfl)⟩) hS (fun q _ h => hFc q h) hFc (fun r1 u t H1 locs ht hvm hw hB hz1 hk1 hS => ?_)
  obtain ⟨hP1, hK1, hD1⟩ := hB
  rw [ht] at hP1
  try dsimp only at hw
  obtain ⟨hP, hD⟩ := va_join (wr := [(h0, .inr (0, [.ref a1, .ref a2, .ref a3, .ref ed, .int md, .int wp])), (a3, .inr (2, [.ref b1, .ref b2, .int cn, .int nw, .int pt, .int kd]))]) (w1 := [(ed, .inr (3, [.ref e1, .ref e2, .int sz1, .long l1, .long l2, .long l3])), (e1, .inl (k 3, 61, .inr (.inr (.inr (.inr g1))))), (e2, .inl (k 4, 10, .inr (.inr (.inr (.inr g2)))))]) hP hD [1, 2, 3] [0, 4] rfl rfl (by decide) (by decide) hk1 hFc hP1 hD1
  generalize H1 = H at hP hS ⊢
  have hP : va_P (dC, dI) classes [(h0, .inr (0, [.ref a1, .ref a2, .ref a3, .ref ed, .int md, .int wp])), (a3, .inr (2, [.ref b1, .ref b2, .int cn, .int nw, .int pt, .int kd])), (ed, .inr (3, [.ref e1, .ref e2, .int sz1, .long l1, .long l2, .long l3])), (e1, .inl (k 3, 61, .inr (.inr (.inr (.inr g1))))), (e2, .inl (k 4, 10, .inr (.inr (.inr (.inr g2)))))] H := hP
  have hD : va_D A [(h0, .inr (0, [.ref a1, .ref a2, .ref a3, .ref ed, .int md, .int wp])), (a3, .inr (2, [.ref b1, .ref b2, .int cn, .int nw, .int pt, .int kd])), (ed, .inr (3, [.ref e1, .ref e2, .int sz1, .long l1, .long l2, .long l3])), (e1, .inl (k 3, 61, .inr (.inr (.inr (.inr g1))))), (e2, .inl (k 4, 10, .inr (.inr (.inr (.inr g2)))))] := hD
  obtain rfl : r1 = none := hw.trans hg
  refine lv_astore_nN (lv' := [(2, .null), (0, .ref h0), (1, .int x)]) hx hb d_Q_answer_14 rfl hl (by decide) rfl (fun ls hl => ?_)
  refine lv_aload_nN hx hb d_Q_answer_15 rfl (lv_at hl 0 rfl) ?_
  refine lv_ifnonnullN hx hb d_Q_answer_16 ?_
  obtain ⟨sa, hstr⟩ := hE.2.2.1 ("QuestionText", 121, "no question is asked") (by decide)
  have hP9 := hP.sub (ws' := [(h0, .inr (0, [.ref a1, .ref a2, .ref a3, .ref ed, .int md, .int wp])), (ed, .inr (3, [.ref e1, .ref e2, .int sz1, .long l1, .long l2, .long l3])), (e1, .inl (k 3, 61, .inr (.inr (.inr (.inr g1))))), (e2, .inl (k 4, 10, .inr (.inr (.inr (.inr g2))))), (a3, .inr (2, [.ref b1, .ref b2, .int cn, .int nw, .int pt, .int kd]))]) [0, 2, 3, 4, 1] rfl
  have hD9 := hD.sub (ws' := [(h0, .inr (0, [.ref a1, .ref a2, .ref a3, .ref ed, .int md, .int wp])), (ed, .inr (3, [.ref e1, .ref e2, .int sz1, .long l1, .long l2, .long l3])), (e1, .inl (k 3, 61, .inr (.inr (.inr (.inr g1))))), (e2, .inl (k 4, 10, .inr (.inr (.inr (.inr g2))))), (a3, .inr (2, [.ref b1, .ref b2, .int cn, .int nw, .int pt, .int kd]))]) [0, 2, 3, 4, 1] (by decide) rfl
  have hB9 := z_thr (dC := dC) (dI := dI) (k := k) hP9 hK hD9 hS
  exact vx_throwS (own := "QuestionText") (cls := "java/lang/IllegalStateException") (text := "no question is asked") (names := ["java/lang/RuntimeException", "java/lang/Exception"]) (ik := 51) (is := 121) (ic := 55) hx hb hlt hown (by decide +kernel) (by decide +kernel) (htz _ kc_Q_51) (htz _ ini_ISE) hstr (z_hat th_Q_55 htz hE.1) tg_Q_51_55 hE.2.2.2.1 hE.2.2.2.2.1 hS (hl.1.trans hml.symm) d_Q_answer_19 d_Q_answer_22 d_Q_answer_23 d_Q_answer_25 d_Q_answer_28 (fun x hx9 => (hno x hx9).elim) (Nat.le_of_ble_eq_true rfl) (Nat.le_of_ble_eq_true rfl) (Nat.le_of_ble_eq_true rfl) (Nat.le_of_ble_eq_true rfl) hlocks (fun t h1 h2 h3 => ⟨(), trivial, ⟨rfl, (hB9 t h1 h2 h3).1⟩, (hB9 t h1 h2 h3).2⟩) hS.2.2 (Nat.le_of_ble_eq_true rfl) (Nat.le_of_ble_eq_true rfl)
set_option maxHeartbeats 1000000 in
set_option maxRecDepth 100000 in
theorem c_Q_priority_none (l : Launch) (hlt : l.stackTraces = false) (dC : Nat → ClassId) (dI : Nat → Nat → Nat) (k : Nat → ClassId) (sz : Nat) (h0 : Nat) (a1 : Nat) (a2 : Nat) (a3 : Nat) (md : Int32) (wp : Int32) (ed : Nat) (e1 : Nat) (e2 : Nat) (sz1 : Int32) (l1 : Int64) (l2 : Int64) (l3 : Int64) (g1 : Nat → Option Nat) (g2 : Nat → Option Nat) (b1 : Nat) (b2 : Nat) (cn : Int32) (nw : Int32) (pt : Int32) (kd : Int32) (hg : z_rd g2 9 kd = none) : vx_Met l y_Q_priority (Cond.code y_Q_priority b_Q_priority 2 (some .int) :: z_T) (z_rm 1 1 6) (z_Pc dC dI k sz [.ref h0] [(h0, .inr (0, [.ref a1, .ref a2, .ref a3, .ref ed, .int md, .int wp])), (ed, .inr (3, [.ref e1, .ref e2, .int sz1, .long l1, .long l2, .long l3])), (e1, .inl (k 3, 61, .inr (.inr (.inr (.inr g1))))), (e2, .inl (k 4, 10, .inr (.inr (.inr (.inr g2))))), (a3, .inr (2, [.ref b1, .ref b2, .int cn, .int nw, .int pt, .int kd]))]) (va_Qi (fun (r : Int32) (u : Unit) => False) (fun (u : Unit) t => z_B dC dI k (va_A [(h0, .inr (0, [.ref a1, .ref a2, .ref a3, .ref ed, .int md, .int wp])), (ed, .inr (3, [.ref e1, .ref e2, .int sz1, .long l1, .long l2, .long l3])), (e1, .inl (k 3, 61, .inr (.inr (.inr (.inr g1))))), (e2, .inl (k 4, 10, .inr (.inr (.inr (.inr g2))))), (a3, .inr (2, [.ref b1, .ref b2, .int cn, .int nw, .int pt, .int kd]))] sz) [(h0, .inr (0, [.ref a1, .ref a2, .ref a3, .ref ed, .int md, .int wp])), (ed, .inr (3, [.ref e1, .ref e2, .int sz1, .long l1, .long l2, .long l3])), (e1, .inl (k 3, 61, .inr (.inr (.inr (.inr g1))))), (e2, .inl (k 4, 10, .inr (.inr (.inr (.inr g2))))), (a3, .inr (2, [.ref b1, .ref b2, .int cn, .int nw, .int pt, .int kd]))] t) (va_A [(h0, .inr (0, [.ref a1, .ref a2, .ref a3, .ref ed, .int md, .int wp])), (ed, .inr (3, [.ref e1, .ref e2, .int sz1, .long l1, .long l2, .long l3])), (e1, .inl (k 3, 61, .inr (.inr (.inr (.inr g1))))), (e2, .inl (k 4, 10, .inr (.inr (.inr (.inr g2))))), (a3, .inr (2, [.ref b1, .ref b2, .int cn, .int nw, .int pt, .int kd]))] sz)) (vx_X (fun (_ : Unit) => True) (fun E (_ : Unit) t => (E = "java/lang/IllegalStateException") ∧ z_B dC dI k (va_A [(h0, .inr (0, [.ref a1, .ref a2, .ref a3, .ref ed, .int md, .int wp])), (ed, .inr (3, [.ref e1, .ref e2, .int sz1, .long l1, .long l2, .long l3])), (e1, .inl (k 3, 61, .inr (.inr (.inr (.inr g1))))), (e2, .inl (k 4, 10, .inr (.inr (.inr (.inr g2))))), (a3, .inr (2, [.ref b1, .ref b2, .int cn, .int nw, .int pt, .int kd]))] sz) [(h0, .inr (0, [.ref a1, .ref a2, .ref a3, .ref ed, .int md, .int wp])), (ed, .inr (3, [.ref e1, .ref e2, .int sz1, .long l1, .long l2, .long l3])), (e1, .inl (k 3, 61, .inr (.inr (.inr (.inr g1))))), (e2, .inl (k 4, 10, .inr (.inr (.inr (.inr g2))))), (a3, .inr (2, [.ref b1, .ref b2, .int cn, .int nw, .int pt, .int kd]))] t) (va_A [(h0, .inr (0, [.ref a1, .ref a2, .ref a3, .ref ed, .int md, .int wp])), (ed, .inr (3, [.ref e1, .ref e2, .int sz1, .long l1, .long l2, .long l3])), (e1, .inl (k 3, 61, .inr (.inr (.inr (.inr g1))))), (e2, .inl (k 4, 10, .inr (.inr (.inr (.inr g2))))), (a3, .inr (2, [.ref b1, .ref b2, .int cn, .int nw, .int pt, .int kd]))] sz)) 1 6 (va_A [(h0, .inr (0, [.ref a1, .ref a2, .ref a3, .ref ed, .int md, .int wp])), (ed, .inr (3, [.ref e1, .ref e2, .int sz1, .long l1, .long l2, .long l3])), (e1, .inl (k 3, 61, .inr (.inr (.inr (.inr g1))))), (e2, .inl (k 4, 10, .inr (.inr (.inr (.inr g2))))), (a3, .inr (2, [.ref b1, .ref b2, .int cn, .int nw, .int pt, .int kd]))] sz) := by
  refine vx_ofW (cc := b_Q_priority) (maxL := 2) (ret := (some .int)) (by decide) rfl ?_
  intro p e s m args below meth c s₁ B hml hno hv
  obtain ⟨rfl, hsz, hE, hP, hK, hD0⟩ := hv
  have hx := B.exec
  have hb := B.bytes
  have hr := B.returns
  have hts := atoms_spec (ws := Cond.code y_Q_priority b_Q_priority 2 (some .int) :: z_T) B.pre
  have htz : ∀ w ∈ z_T, w.before _ s = true := fun w h => hts w (z_cons w h)
  have hown : s.vm.findClass "QuestionText" = some m.cls := findClass_of_methodNamed B.named
  have hlocks := B.notSynchronized
  subst hsz
  have hD := hD0.self (sz := s.heap.size)
  generalize hAe : va_A [(h0, .inr (0, [.ref a1, .ref a2, .ref a3, .ref ed, .int md, .int wp])), (ed, .inr (3, [.ref e1, .ref e2, .int sz1, .long l1, .long l2, .long l3])), (e1, .inl (k 3, 61, .inr (.inr (.inr (.inr g1))))), (e2, .inl (k 4, 10, .inr (.inr (.inr (.inr g2))))), (a3, .inr (2, [.ref b1, .ref b2, .int cn, .int nw, .int pt, .int kd]))] s.heap.size = A at hD hE ⊢
  have hA : ∀ q : Nat, s.heap.size ≤ q → A q := fun q h => by rw [← hAe]; exact Or.inr h
  have hS : va_S A s.heap s.heap [] := va_S.rf
  have hP : va_P (dC, dI) classes [(h0, .inr (0, [.ref a1, .ref a2, .ref a3, .ref ed, .int md, .int wp])), (ed, .inr (3, [.ref e1, .ref e2, .int sz1, .long l1, .long l2, .long l3])), (e1, .inl (k 3, 61, .inr (.inr (.inr (.inr g1))))), (e2, .inl (k 4, 10, .inr (.inr (.inr (.inr g2))))), (a3, .inr (2, [.ref b1, .ref b2, .int cn, .int nw, .int pt, .int kd]))] s.heap := hP
  have hl := lv_entry ([.ref h0]) (n := 2) (Nat.le_of_ble_eq_true rfl)
  rw [lg_entry_eq]
  generalize (lg_sl ([.ref h0]) ++ List.replicate (2 - (lg_sl ([.ref h0])).length) Slot.unset).toArray = ls at hl ⊢
  have hl : lv_has ls 2 [(0, .ref h0)] := hl
  refine lv_aload_n hx hb d_Q_priority_0 rfl (lv_at hl 0 rfl) ?_
  refine va_get (D := (dC, dI)) (ci := 0) (v := .ref ed) (C := R_Q) (T := F_Q) (N := 6) hx hb htz i_Q hown hK hP 0 rfl rfl 3 (by decide) (htz _ kf_Q_30) (fun _ h9 => h9) rfl d_Q_priority_1 ?_
  refine lv_aload_n hx hb d_Q_priority_4 rfl (lv_at hl 0 rfl) ?_
  refine va_get (D := (dC, dI)) (ci := 0) (v := .ref a3) (C := R_Q) (T := F_Q) (N := 6) hx hb htz i_Q hown hK hP 0 rfl rfl 2 (by decide) (htz _ kf_Q_25) (fun _ h9 => h9) rfl d_Q_priority_5 ?_
  refine va_getN (D := (dC, dI)) (ci := 2) (v := .int kd) (C := R_Ca) (T := F_Ca) (N := 6) hx hb htz i_Ca hown hK hP 4 rfl rfl 5 (by decide) (va_Nw.use rfl (hE.1 _ kf_Q_99)) (fun _ h9 => h9) rfl d_Q_priority_8 ?_
  have hPc := hP.sub (ws' := [(ed, .inr (3, [.ref e1, .ref e2, .int sz1, .long l1, .long l2, .long l3])), (e1, .inl (k 3, 61, .inr (.inr (.inr (.inr g1))))), (e2, .inl (k 4, 10, .inr (.inr (.inr (.inr g2)))))]) [1, 2, 3] rfl
  have hDc := hD.sub (ws' := [(ed, .inr (3, [.ref e1, .ref e2, .int sz1, .long l1, .long l2, .long l3])), (e1, .inl (k 3, 61, .inr (.inr (.inr (.inr g1))))), (e2, .inl (k 4, 10, .inr (.inr (.inr (.inr g2)))))]) [1, 2, 3] (by decide) rfl
  have hFc := va_free (wc := [(ed, .inr (3, [.ref e1, .ref e2, .int sz1, .long l1, .long l2, .long l3])), (e1, .inl (k 3, 61, .inr (.inr (.inr (.inr g1))))), (e2, .inl (k 4, 10, .inr (.inr (.inr (.inr g2)))))]) hD hS hA [1, 2, 3] rfl
  refine va_callq (va_runV (As := [.int kd]) (rest := []) ⟨hx, hb, hml, hown, htz⟩ (c_Ed_kindAt l dC dI k s.heap.size ed e1 e2 sz1 l1 l2 l3 g1 g2 kd) (cwV 1 htz (z_gV (fun _ h => h) km_Q_93 in_Ed_kindAt se_Ed_kindAt ini_Ed m_Ed_kindAt) rfl rfl rfl (by decide +kernel) ⟨(Nat.le_of_ble_eq_true rfl), (Nat.le_of_ble_eq_true rfl)⟩) ⟨z_blind, va_recv hK hPc (ci := 3) (q0 := 0) rfl rfl, fun U hU hW => ⟨rfl, by rw [hU], hE.call hS hFc hU hW, by rw [hU]; exact hPc, va_K.moved hW.alike hK, hDc.weaken (fun _ _ _ _ => trivial)⟩⟩ rfl rfl hl.1 rfl (lv_room (Nat.le_of_ble_eq_true rfl)) d_Q_priority_11 ⟨(Nat.le_of_ble_eq_true rfl), (Nat.le_of_ble_eq_true rfl)⟩) hS (fun q _ h => hFc q h) hFc (fun r1 u t H1 locs ht hvm hw hB hz1 hk1 hS => ?_)
  obtain ⟨hP1, hK1, hD1⟩ := hB
  rw [ht] at hP1
  try dsimp only at hw
  obtain ⟨hP, hD⟩ := va_join (wr := [(h0, .inr (0, [.ref a1, .ref a2, .ref a3, .ref ed, .int md, .int wp])), (a3, .inr (2, [.ref b1, .ref b2, .int cn, .int nw, .int pt, .int kd]))]) (w1 := [(ed, .inr (3, [.ref e1, .ref e2, .int sz1, .long l1, .long l2, .long l3])), (e1, .inl (k 3, 61, .inr (.inr (.inr (.inr g1))))), (e2, .inl (k 4, 10, .inr (.inr (.inr (.inr g2)))))]) hP hD [1, 2, 3] [0, 4] rfl rfl (by decide) (by decide) hk1 hFc hP1 hD1
  generalize H1 = H at hP hS ⊢
  have hP : va_P (dC, dI) classes [(h0, .inr (0, [.ref a1, .ref a2, .ref a3, .ref ed, .int md, .int wp])), (a3, .inr (2, [.ref b1, .ref b2, .int cn, .int nw, .int pt, .int kd])), (ed, .inr (3, [.ref e1, .ref e2, .int sz1, .long l1, .long l2, .long l3])), (e1, .inl (k 3, 61, .inr (.inr (.inr (.inr g1))))), (e2, .inl (k 4, 10, .inr (.inr (.inr (.inr g2)))))] H := hP
  have hD : va_D A [(h0, .inr (0, [.ref a1, .ref a2, .ref a3, .ref ed, .int md, .int wp])), (a3, .inr (2, [.ref b1, .ref b2, .int cn, .int nw, .int pt, .int kd])), (ed, .inr (3, [.ref e1, .ref e2, .int sz1, .long l1, .long l2, .long l3])), (e1, .inl (k 3, 61, .inr (.inr (.inr (.inr g1))))), (e2, .inl (k 4, 10, .inr (.inr (.inr (.inr g2)))))] := hD
  obtain rfl : r1 = none := hw.trans hg
  refine lv_astore_nN (lv' := [(1, .null), (0, .ref h0)]) hx hb d_Q_priority_14 rfl hl (by decide) rfl (fun ls hl => ?_)
  refine lv_aload_nN hx hb d_Q_priority_15 rfl (lv_at hl 0 rfl) ?_
  refine lv_ifnonnullN hx hb d_Q_priority_16 ?_
  obtain ⟨sa, hstr⟩ := hE.2.2.1 ("QuestionText", 153, "there is no call") (by decide)
  have hP9 := hP.sub (ws' := [(h0, .inr (0, [.ref a1, .ref a2, .ref a3, .ref ed, .int md, .int wp])), (ed, .inr (3, [.ref e1, .ref e2, .int sz1, .long l1, .long l2, .long l3])), (e1, .inl (k 3, 61, .inr (.inr (.inr (.inr g1))))), (e2, .inl (k 4, 10, .inr (.inr (.inr (.inr g2))))), (a3, .inr (2, [.ref b1, .ref b2, .int cn, .int nw, .int pt, .int kd]))]) [0, 2, 3, 4, 1] rfl
  have hD9 := hD.sub (ws' := [(h0, .inr (0, [.ref a1, .ref a2, .ref a3, .ref ed, .int md, .int wp])), (ed, .inr (3, [.ref e1, .ref e2, .int sz1, .long l1, .long l2, .long l3])), (e1, .inl (k 3, 61, .inr (.inr (.inr (.inr g1))))), (e2, .inl (k 4, 10, .inr (.inr (.inr (.inr g2))))), (a3, .inr (2, [.ref b1, .ref b2, .int cn, .int nw, .int pt, .int kd]))]) [0, 2, 3, 4, 1] (by decide) rfl
  have hB9 := z_thr (dC := dC) (dI := dI) (k := k) hP9 hK hD9 hS
  exact vx_throwS (own := "QuestionText") (cls := "java/lang/IllegalStateException") (text := "there is no call") (names := ["java/lang/RuntimeException", "java/lang/Exception"]) (ik := 51) (is := 153) (ic := 55) hx hb hlt hown (by decide +kernel) (by decide +kernel) (htz _ kc_Q_51) (htz _ ini_ISE) hstr (z_hat th_Q_55 htz hE.1) tg_Q_51_55 hE.2.2.2.1 hE.2.2.2.2.1 hS (hl.1.trans hml.symm) d_Q_priority_19 d_Q_priority_22 d_Q_priority_23 d_Q_priority_25 d_Q_priority_28 (fun x hx9 => (hno x hx9).elim) (Nat.le_of_ble_eq_true rfl) (Nat.le_of_ble_eq_true rfl) (Nat.le_of_ble_eq_true rfl) (Nat.le_of_ble_eq_true rfl) hlocks (fun t h1 h2 h3 => ⟨(), trivial, ⟨rfl, (hB9 t h1 h2 h3).1⟩, (hB9 t h1 h2 h3).2⟩) hS.2.2 (Nat.le_of_ble_eq_true rfl) (Nat.le_of_ble_eq_true rfl)
set_option maxHeartbeats 1000000 in
set_option maxRecDepth 100000 in
theorem c_Q_word_none (l : Launch) (hlt : l.stackTraces = false) (dC : Nat → ClassId) (dI : Nat → Nat → Nat) (k : Nat → ClassId) (sz : Nat) (h0 : Nat) (a1 : Nat) (a2 : Nat) (a3 : Nat) (md : Int32) (wp : Int32) (ed : Nat) (e1 : Nat) (e2 : Nat) (sz1 : Int32) (l1 : Int64) (l2 : Int64) (l3 : Int64) (g1 : Nat → Option Nat) (g2 : Nat → Option Nat) (x : Int32) (la : Int32) (ix : Int32) (hg : z_rd g1 60 x = none) : vx_Met l y_Q_word (Cond.code y_Q_word b_Q_word 6 (some .int) :: z_T) (z_rm 1 1 6) (z_Pc dC dI k sz [.ref h0, .int x, .int la, .int ix] [(h0, .inr (0, [.ref a1, .ref a2, .ref a3, .ref ed, .int md, .int wp])), (ed, .inr (3, [.ref e1, .ref e2, .int sz1, .long l1, .long l2, .long l3])), (e1, .inl (k 3, 61, .inr (.inr (.inr (.inr g1))))), (e2, .inl (k 4, 10, .inr (.inr (.inr (.inr g2)))))]) (va_Qi (fun (r : Int32) (u : Unit) => False) (fun (u : Unit) t => z_B dC dI k (va_A [(h0, .inr (0, [.ref a1, .ref a2, .ref a3, .ref ed, .int md, .int wp])), (ed, .inr (3, [.ref e1, .ref e2, .int sz1, .long l1, .long l2, .long l3])), (e1, .inl (k 3, 61, .inr (.inr (.inr (.inr g1))))), (e2, .inl (k 4, 10, .inr (.inr (.inr (.inr g2)))))] sz) [(h0, .inr (0, [.ref a1, .ref a2, .ref a3, .ref ed, .int md, .int wp])), (ed, .inr (3, [.ref e1, .ref e2, .int sz1, .long l1, .long l2, .long l3])), (e1, .inl (k 3, 61, .inr (.inr (.inr (.inr g1))))), (e2, .inl (k 4, 10, .inr (.inr (.inr (.inr g2)))))] t) (va_A [(h0, .inr (0, [.ref a1, .ref a2, .ref a3, .ref ed, .int md, .int wp])), (ed, .inr (3, [.ref e1, .ref e2, .int sz1, .long l1, .long l2, .long l3])), (e1, .inl (k 3, 61, .inr (.inr (.inr (.inr g1))))), (e2, .inl (k 4, 10, .inr (.inr (.inr (.inr g2)))))] sz)) (vx_X (fun (_ : Unit) => True) (fun E (_ : Unit) t => (E = "java/lang/IllegalArgumentException") ∧ z_B dC dI k (va_A [(h0, .inr (0, [.ref a1, .ref a2, .ref a3, .ref ed, .int md, .int wp])), (ed, .inr (3, [.ref e1, .ref e2, .int sz1, .long l1, .long l2, .long l3])), (e1, .inl (k 3, 61, .inr (.inr (.inr (.inr g1))))), (e2, .inl (k 4, 10, .inr (.inr (.inr (.inr g2)))))] sz) [(h0, .inr (0, [.ref a1, .ref a2, .ref a3, .ref ed, .int md, .int wp])), (ed, .inr (3, [.ref e1, .ref e2, .int sz1, .long l1, .long l2, .long l3])), (e1, .inl (k 3, 61, .inr (.inr (.inr (.inr g1))))), (e2, .inl (k 4, 10, .inr (.inr (.inr (.inr g2)))))] t) (va_A [(h0, .inr (0, [.ref a1, .ref a2, .ref a3, .ref ed, .int md, .int wp])), (ed, .inr (3, [.ref e1, .ref e2, .int sz1, .long l1, .long l2, .long l3])), (e1, .inl (k 3, 61, .inr (.inr (.inr (.inr g1))))), (e2, .inl (k 4, 10, .inr (.inr (.inr (.inr g2)))))] sz)) 1 6 (va_A [(h0, .inr (0, [.ref a1, .ref a2, .ref a3, .ref ed, .int md, .int wp])), (ed, .inr (3, [.ref e1, .ref e2, .int sz1, .long l1, .long l2, .long l3])), (e1, .inl (k 3, 61, .inr (.inr (.inr (.inr g1))))), (e2, .inl (k 4, 10, .inr (.inr (.inr (.inr g2)))))] sz) := by
  refine vx_ofW (cc := b_Q_word) (maxL := 6) (ret := (some .int)) (by decide) rfl ?_
  intro p e s m args below meth c s₁ B hml hno hv
  obtain ⟨rfl, hsz, hE, hP, hK, hD0⟩ := hv
  have hx := B.exec
  have hb := B.bytes
  have hr := B.returns
  have hts := atoms_spec (ws := Cond.code y_Q_word b_Q_word 6 (some .int) :: z_T) B.pre
  have htz : ∀ w ∈ z_T, w.before _ s = true := fun w h => hts w (z_cons w h)
  have hown : s.vm.findClass "QuestionText" = some m.cls := findClass_of_methodNamed B.named
  have hlocks := B.notSynchronized
  subst hsz
  have hD := hD0.self (sz := s.heap.size)
  generalize hAe : va_A [(h0, .inr (0, [.ref a1, .ref a2, .ref a3, .ref ed, .int md, .int wp])), (ed, .inr (3, [.ref e1, .ref e2, .int sz1, .long l1, .long l2, .long l3])), (e1, .inl (k 3, 61, .inr (.inr (.inr (.inr g1))))), (e2, .inl (k 4, 10, .inr (.inr (.inr (.inr g2)))))] s.heap.size = A at hD hE ⊢
  have hA : ∀ q : Nat, s.heap.size ≤ q → A q := fun q h => by rw [← hAe]; exact Or.inr h
  have hS : va_S A s.heap s.heap [] := va_S.rf
  have hP : va_P (dC, dI) classes [(h0, .inr (0, [.ref a1, .ref a2, .ref a3, .ref ed, .int md, .int wp])), (ed, .inr (3, [.ref e1, .ref e2, .int sz1, .long l1, .long l2, .long l3])), (e1, .inl (k 3, 61, .inr (.inr (.inr (.inr g1))))), (e2, .inl (k 4, 10, .inr (.inr (.inr (.inr g2)))))] s.heap := hP
  have hl := lv_entry ([.ref h0, .int x, .int la, .int ix]) (n := 6) (Nat.le_of_ble_eq_true rfl)
  rw [lg_entry_eq]
  generalize (lg_sl ([.ref h0, .int x, .int la, .int ix]) ++ List.replicate (6 - (lg_sl ([.ref h0, .int x, .int la, .int ix])).length) Slot.unset).toArray = ls at hl ⊢
  have hl : lv_has ls 6 [(0, .ref h0), (1, .int x), (2, .int la), (3, .int ix)] := hl
  refine lv_aload_n hx hb d_Q_word_0 rfl (lv_at hl 0 rfl) ?_
  refine va_get (D := (dC, dI)) (ci := 0) (v := .ref ed) (C := R_Q) (T := F_Q) (N := 6) hx hb htz i_Q hown hK hP 0 rfl rfl 3 (by decide) (htz _ kf_Q_30) (fun _ h9 => h9) rfl d_Q_word_1 ?_
  refine lv_iload_n hx hb d_Q_word_4 rfl (lv_at hl 1 rfl) ?_
  have hPc := hP.sub (ws' := [(ed, .inr (3, [.ref e1, .ref e2, .int sz1, .long l1, .long l2, .long l3])), (e1, .inl (k 3, 61, .inr (.inr (.inr (.inr g1))))), (e2, .inl (k 4, 10, .inr (.inr (.inr (.inr g2)))))]) [1, 2, 3] rfl
  have hDc := hD.sub (ws' := [(ed, .inr (3, [.ref e1, .ref e2, .int sz1, .long l1, .long l2, .long l3])), (e1, .inl (k 3, 61, .inr (.inr (.inr (.inr g1))))), (e2, .inl (k 4, 10, .inr (.inr (.inr (.inr g2)))))]) [1, 2, 3] (by decide) rfl
  have hFc := va_free (wc := [(ed, .inr (3, [.ref e1, .ref e2, .int sz1, .long l1, .long l2, .long l3])), (e1, .inl (k 3, 61, .inr (.inr (.inr (.inr g1))))), (e2, .inl (k 4, 10, .inr (.inr (.inr (.inr g2)))))]) hD hS hA [1, 2, 3] rfl
  refine va_callq (va_runV (As := [.int x]) (rest := []) ⟨hx, hb, hml, hown, htz⟩ (c_Ed_questionAt l dC dI k s.heap.size ed e1 e2 sz1 l1 l2 l3 g1 g2 x) (cwV 1 htz (z_gV (fun _ h => h) km_Q_117 in_Ed_questionAt se_Ed_questionAt ini_Ed m_Ed_questionAt) rfl rfl rfl (by decide +kernel) ⟨(Nat.le_of_ble_eq_true rfl), (Nat.le_of_ble_eq_true rfl)⟩) ⟨z_blind, va_recv hK hPc (ci := 3) (q0 := 0) rfl rfl, fun U hU hW => ⟨rfl, by rw [hU], hE.call hS hFc hU hW, by rw [hU]; exact hPc, va_K.moved hW.alike hK, hDc.weaken (fun _ _ _ _ => trivial)⟩⟩ rfl rfl hl.1 rfl (lv_room (Nat.le_of_ble_eq_true rfl)) d_Q_word_5 ⟨(Nat.le_of_ble_eq_true rfl), (Nat.le_of_ble_eq_true rfl)⟩) hS (fun q _ h => hFc q h) hFc (fun r1 u t H1 locs ht hvm hw hB hz1 hk1 hS => ?_)
  obtain ⟨hP1, hK1, hD1⟩ := hB
  rw [ht] at hP1
  try dsimp only at hw
  obtain ⟨hP, hD⟩ := va_join (wr := [(h0, .inr (0, [.ref a1, .ref a2, .ref a3, .ref ed, .int md, .int wp]))]) (w1 := [(ed, .inr (3, [.ref e1, .ref e2, .int sz1, .long l1, .long l2, .long l3])), (e1, .inl (k 3, 61, .inr (.inr (.inr (.inr g1))))), (e2, .inl (k 4, 10, .inr (.inr (.inr (.inr g2)))))]) hP hD [1, 2, 3] [0] rfl rfl (by decide) (by decide) hk1 hFc hP1 hD1
  generalize H1 = H at hP hS ⊢
  have hP : va_P (dC, dI) classes [(h0, .inr (0, [.ref a1, .ref a2, .ref a3, .ref ed, .int md, .int wp])), (ed, .inr (3, [.ref e1, .ref e2, .int sz1, .long l1, .long l2, .long l3])), (e1, .inl (k 3, 61, .inr (.inr (.inr (.inr g1))))), (e2, .inl (k 4, 10, .inr (.inr (.inr (.inr g2)))))] H := hP
  have hD : va_D A [(h0, .inr (0, [.ref a1, .ref a2, .ref a3, .ref ed, .int md, .int wp])), (ed, .inr (3, [.ref e1, .ref e2, .int sz1, .long l1, .long l2, .long l3])), (e1, .inl (k 3, 61, .inr (.inr (.inr (.inr g1))))), (e2, .inl (k 4, 10, .inr (.inr (.inr (.inr g2)))))] := hD
  obtain rfl : r1 = none := hw.trans hg
  refine lv_astoreN (lv' := [(4, .null), (0, .ref h0), (1, .int x), (2, .int la), (3, .int ix)]) hx hb d_Q_word_8 hl (by decide) rfl (fun ls hl => ?_)
  refine lv_aloadN hx hb d_Q_word_10 (lv_at hl 0 rfl) ?_
  refine lv_ifnullN (tgt := 28) hx hb d_Q_word_12 (by decide) ?_
  obtain ⟨sa, hstr⟩ := hE.2.2.1 ("QuestionText", 178, "no such question, language or byte") (by decide)
  have hP9 := hP.sub (ws' := [(h0, .inr (0, [.ref a1, .ref a2, .ref a3, .ref ed, .int md, .int wp])), (ed, .inr (3, [.ref e1, .ref e2, .int sz1, .long l1, .long l2, .long l3])), (e1, .inl (k 3, 61, .inr (.inr (.inr (.inr g1))))), (e2, .inl (k 4, 10, .inr (.inr (.inr (.inr g2)))))]) [0, 1, 2, 3] rfl
  have hD9 := hD.sub (ws' := [(h0, .inr (0, [.ref a1, .ref a2, .ref a3, .ref ed, .int md, .int wp])), (ed, .inr (3, [.ref e1, .ref e2, .int sz1, .long l1, .long l2, .long l3])), (e1, .inl (k 3, 61, .inr (.inr (.inr (.inr g1))))), (e2, .inl (k 4, 10, .inr (.inr (.inr (.inr g2)))))]) [0, 1, 2, 3] (by decide) rfl
  have hB9 := z_thr (dC := dC) (dI := dI) (k := k) hP9 hK hD9 hS
  exact vx_throwS (own := "QuestionText") (cls := "java/lang/IllegalArgumentException") (text := "no such question, language or byte") (names := ["java/lang/RuntimeException", "java/lang/Exception"]) (ik := 41) (is := 178) (ic := 45) hx hb hlt hown (by decide +kernel) (by decide +kernel) (htz _ kc_Q_41) (htz _ ini_IAE) hstr (z_hat th_Q_45 htz hE.1) tg_Q_41_45 hE.2.2.2.1 hE.2.2.2.2.1 hS (hl.1.trans hml.symm) d_Q_word_28 d_Q_word_31 d_Q_word_32 d_Q_word_34 d_Q_word_37 (fun x hx9 => (hno x hx9).elim) (Nat.le_of_ble_eq_true rfl) (Nat.le_of_ble_eq_true rfl) (Nat.le_of_ble_eq_true rfl) (Nat.le_of_ble_eq_true rfl) hlocks (fun t h1 h2 h3 => ⟨(), trivial, ⟨rfl, (hB9 t h1 h2 h3).1⟩, (hB9 t h1 h2 h3).2⟩) hS.2.2 (Nat.le_of_ble_eq_true rfl) (Nat.le_of_ble_eq_true rfl)
