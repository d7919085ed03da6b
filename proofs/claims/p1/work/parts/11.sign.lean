-- throwing
theorem z_hat {args : Array Value} {s : State} {L : List Cond} (h : ∀ w ∈ L, w ∈ lw_tbl ∧ (goodWord w || z_isN w) = true) (h1 : ∀ w ∈ z_T, w.before args s = true) (h2 : ∀ w ∈ z_NW, va_Nw w s) : ∀ w ∈ L, w.before args s = true := by
  intro w hw
  obtain ⟨a, b⟩ := h w hw
  cases hg : goodWord w with
  | true => exact h1 w (z_in a hg)
  | false =>
    rw [hg] at b
    have b : z_isN w = true := b
    exact va_Nw.use (z_tab b) (h2 w (z_inN a b))
theorem z_thr {dC : Nat → ClassId} {dI : Nat → Nat → Nat} {k : Nat → ClassId} {s : State} {A : Nat → Prop} {ws : va_W} {H : Heap} {locs : List Loc} (hP : va_P (dC, dI) classes ws H) (hK : va_K (dC, dI) classes (z_ty k) s) (hD : va_D A ws) (hS : va_S A s.heap H locs) :
    ∀ t : State, s.vm.Alike t.vm → H.size ≤ t.heap.size → (∀ q : Nat, q < H.size → t.heap[q]? = H[q]?) → z_B dC dI k A ws t ∧ va_F A s t := by
  intro t h1 h2 h3
  exact ⟨⟨hP.kept (fun j q hq => h3 q.1 (hP j q hq).lt), va_K.moved h1 hK, hD⟩, Nat.le_trans hS.1 h2, fun q h4 h5 => (h3 q (Nat.lt_of_lt_of_le h4 hS.1)).trans (hS.2.1 q h4 h5)⟩
def z_lf : Nat → Int32
  | 0 => -1
  | j + 1 => nI j
theorem z_lf_dec (j : Nat) : nI j + (-1) = z_lf j := by
  cases j with
  | zero => decide
  | succ j => exact pk_m1 j
theorem z_lf_1 {j : Nat} (h : 1 ≤ j) : nI j - 1 = z_lf j := by
  cases j with
  | zero => omega
  | succ j => exact nI_pred j
theorem z_18 {x : Int32} (h1 : ¬ x < 1) (h2 : x ≤ 8) : ∃ j : Nat, 1 ≤ j ∧ j ≤ 8 ∧ x = nI j := by
  have h0 : ¬ x < 0 := fun h => h1 (by rw [Int32.lt_iff_toInt_lt] at h ⊢; exact Int.lt_trans h (by decide))
  obtain ⟨j, hj, e⟩ := nI_of2 (M := 8) (n := 8) (by decide) h0 h2
  subst e
  refine ⟨j, ?_, hj, rfl⟩
  cases j with
  | zero => exact absurd (by decide) h1
  | succ j => omega
def z_by (b : Int64) (j : Nat) : Int32 := ((b.toUInt64 >>> ((8 * nI j).toInt64.toUInt64 &&& Int64.toUInt64 63)).toInt64).toInt32 &&& 255
def z_sg (f : Nat → Int32) (L : Nat) (b : Int64) (n : Nat) : Nat → (Nat → Int32)
  | 0 => f
  | i + 1 => upd (z_sg f L b n i) (L + i) (z_by b (n - 1 - i))
theorem th_Q_45 : ∀ w ∈ vx_atS "QuestionText" 45 "java/lang/IllegalArgumentException" ["java/lang/RuntimeException", "java/lang/Exception"], w ∈ lw_tbl ∧ (goodWord w || z_isN w) = true := by decide +kernel
theorem tg_Q_41_45 : ∀ w ∈ Cond.classLink "QuestionText" 41 "java/lang/IllegalArgumentException" :: Cond.initialized "java/lang/IllegalArgumentException" :: vx_atS "QuestionText" 45 "java/lang/IllegalArgumentException" ["java/lang/RuntimeException", "java/lang/Exception"], vx_ot w = true := by decide +kernel
theorem th_Q_55 : ∀ w ∈ vx_atS "QuestionText" 55 "java/lang/IllegalStateException" ["java/lang/RuntimeException", "java/lang/Exception"], w ∈ lw_tbl ∧ (goodWord w || z_isN w) = true := by decide +kernel
theorem tg_Q_51_55 : ∀ w ∈ Cond.classLink "QuestionText" 51 "java/lang/IllegalStateException" :: Cond.initialized "java/lang/IllegalStateException" :: vx_atS "QuestionText" 55 "java/lang/IllegalStateException" ["java/lang/RuntimeException", "java/lang/Exception"], vx_ot w = true := by decide +kernel
set_option maxHeartbeats 1000000 in
set_option maxRecDepth 100000 in
theorem c_Q_sign (l : Launch) (hlt : l.stackTraces = false) (dC : Nat → ClassId) (dI : Nat → Nat → Nat) (k : Nat → ClassId) (sz : Nat) (h0 : Nat) (tr : Nat) (a2 : Nat) (a3 : Nat) (a4 : Nat) (md : Int32) (wp : Int32) (t1 : Nat) (t2 : Nat) (t3 : Nat) (L : Nat) (f : Nat → Int32) (att : Int32) (bs : Int64) (x : Int32) (hL : L ≤ 400) : vx_Met l y_Q_sign (Cond.code y_Q_sign b_Q_sign 5 (some .int) :: z_T) (z_rm 1 1 6) (z_Pc dC dI k sz [.ref h0, .long bs, .int x] [(h0, .inr (0, [.ref tr, .ref a2, .ref a3, .ref a4, .int md, .int wp])), (tr, .inr (1, [.ref t1, .ref t2, .ref t3, .int (nI L), .int att])), (t1, .inl (k 0, 400, .inl f))]) (va_Qi (fun (r : Int32) (u : Nat) => 1 ≤ u ∧ u ≤ 8 ∧ x = nI u ∧ L + u ≤ 400 ∧ r = nI (L + u)) (fun (u : Nat) t => z_B dC dI k (va_A [(h0, .inr (0, [.ref tr, .ref a2, .ref a3, .ref a4, .int md, .int wp])), (tr, .inr (1, [.ref t1, .ref t2, .ref t3, .int (nI L), .int att])), (t1, .inl (k 0, 400, .inl f))] sz) [(h0, .inr (0, [.ref tr, .ref a2, .ref a3, .ref a4, .int md, .int wp])), (tr, .inr (1, [.ref t1, .ref t2, .ref t3, .int (nI (L + u)), .int att])), (t1, .inl (k 0, 400, .inl (z_sg f L bs u u)))] t) (va_A [(h0, .inr (0, [.ref tr, .ref a2, .ref a3, .ref a4, .int md, .int wp])), (tr, .inr (1, [.ref t1, .ref t2, .ref t3, .int (nI L), .int att])), (t1, .inl (k 0, 400, .inl f))] sz)) (vx_X (fun (_ : Unit) => True) (fun E (_ : Unit) t => ((E = "java/lang/IllegalArgumentException" ∧ (x < 1 ∨ ¬ x ≤ 8)) ∨ (E = "java/lang/IllegalStateException" ∧ ∃ i9 : Nat, 1 ≤ i9 ∧ i9 ≤ 8 ∧ x = nI i9 ∧ 400 < L + i9)) ∧ z_B dC dI k (va_A [(h0, .inr (0, [.ref tr, .ref a2, .ref a3, .ref a4, .int md, .int wp])), (tr, .inr (1, [.ref t1, .ref t2, .ref t3, .int (nI L), .int att])), (t1, .inl (k 0, 400, .inl f))] sz) [(h0, .inr (0, [.ref tr, .ref a2, .ref a3, .ref a4, .int md, .int wp])), (tr, .inr (1, [.ref t1, .ref t2, .ref t3, .int (nI L), .int att])), (t1, .inl (k 0, 400, .inl f))] t) (va_A [(h0, .inr (0, [.ref tr, .ref a2, .ref a3, .ref a4, .int md, .int wp])), (tr, .inr (1, [.ref t1, .ref t2, .ref t3, .int (nI L), .int att])), (t1, .inl (k 0, 400, .inl f))] sz)) 1 6 (va_A [(h0, .inr (0, [.ref tr, .ref a2, .ref a3, .ref a4, .int md, .int wp])), (tr, .inr (1, [.ref t1, .ref t2, .ref t3, .int (nI L), .int att])), (t1, .inl (k 0, 400, .inl f))] sz) := by
  refine vx_ofW (cc := b_Q_sign) (maxL := 5) (ret := (some .int)) (by decide) rfl ?_
  intro p e s m args below meth c s₁ B hml hno hv
  obtain ⟨rfl, hsz, hE, hP, hK, hD0⟩ := hv
  have hx := B.exec
  have hb := B.bytes
  have hr := B.returns
  have hts := atoms_spec (ws := Cond.code y_Q_sign b_Q_sign 5 (some .int) :: z_T) B.pre
  have htz : ∀ w ∈ z_T, w.before _ s = true := fun w h => hts w (z_cons w h)
  have hown : s.vm.findClass "QuestionText" = some m.cls := findClass_of_methodNamed B.named
  have hlocks := B.notSynchronized
  subst hsz
  have hD := hD0.self (sz := s.heap.size)
  generalize hAe : va_A [(h0, .inr (0, [.ref tr, .ref a2, .ref a3, .ref a4, .int md, .int wp])), (tr, .inr (1, [.ref t1, .ref t2, .ref t3, .int (nI L), .int att])), (t1, .inl (k 0, 400, .inl f))] s.heap.size = A at hD hE ⊢
  have hA : ∀ q : Nat, s.heap.size ≤ q → A q := fun q h => by rw [← hAe]; exact Or.inr h
  have hS : va_S A s.heap s.heap [] := va_S.rf
  have hP : va_P (dC, dI) classes [(h0, .inr (0, [.ref tr, .ref a2, .ref a3, .ref a4, .int md, .int wp])), (tr, .inr (1, [.ref t1, .ref t2, .ref t3, .int (nI L), .int att])), (t1, .inl (k 0, 400, .inl f))] s.heap := hP
  have hl := lv_entry ([.ref h0, .long bs, .int x]) (n := 5) (Nat.le_of_ble_eq_true rfl)
  rw [lg_entry_eq]
  generalize (lg_sl ([.ref h0, .long bs, .int x]) ++ List.replicate (5 - (lg_sl ([.ref h0, .long bs, .int x])).length) Slot.unset).toArray = ls at hl ⊢
  have hl : lv_has ls 5 [(0, .ref h0), (1, .long bs), (3, .int x)] := hl
  refine lv_iload_n hx hb d_Q_sign_0 rfl (lv_at hl 2 rfl) ?_
  refine lv_iconst (v := 1) hx hb d_Q_sign_1 (by decide) ?_
  refine lv_icmp_lt (tgt := 11) hx hb d_Q_sign_2 (by decide) (fun c_2 => ?_) (fun c_2 => ?_)
  · obtain ⟨sa, hstr⟩ := hE.2.2.1 ("QuestionText", 43, "1 to 8 bytes at once") (by decide)
    have hP9 := hP.sub (ws' := [(h0, .inr (0, [.ref tr, .ref a2, .ref a3, .ref a4, .int md, .int wp])), (tr, .inr (1, [.ref t1, .ref t2, .ref t3, .int (nI L), .int att])), (t1, .inl (k 0, 400, .inl f))]) [0, 1, 2] rfl
    have hD9 := hD.sub (ws' := [(h0, .inr (0, [.ref tr, .ref a2, .ref a3, .ref a4, .int md, .int wp])), (tr, .inr (1, [.ref t1, .ref t2, .ref t3, .int (nI L), .int att])), (t1, .inl (k 0, 400, .inl f))]) [0, 1, 2] (by decide) rfl
    have hB9 := z_thr (dC := dC) (dI := dI) (k := k) hP9 hK hD9 hS
    exact vx_throwS (own := "QuestionText") (cls := "java/lang/IllegalArgumentException") (text := "1 to 8 bytes at once") (names := ["java/lang/RuntimeException", "java/lang/Exception"]) (ik := 41) (is := 43) (ic := 45) hx hb hlt hown (by decide +kernel) (by decide +kernel) (htz _ kc_Q_41) (htz _ ini_IAE) hstr (z_hat th_Q_45 htz hE.1) tg_Q_41_45 hE.2.2.2.1 hE.2.2.2.2.1 hS (hl.1.trans hml.symm) d_Q_sign_11 d_Q_sign_14 d_Q_sign_15 d_Q_sign_17 d_Q_sign_20 (fun x hx9 => (hno x hx9).elim) (Nat.le_of_ble_eq_true rfl) (Nat.le_of_ble_eq_true rfl) (Nat.le_of_ble_eq_true rfl) (Nat.le_of_ble_eq_true rfl) hlocks (fun t h1 h2 h3 => ⟨(), trivial, ⟨Or.inl ⟨rfl, Or.inl c_2⟩, (hB9 t h1 h2 h3).1⟩, (hB9 t h1 h2 h3).2⟩) hS.2.2 (Nat.le_of_ble_eq_true rfl) (Nat.le_of_ble_eq_true rfl)
  · refine lv_iload_n hx hb d_Q_sign_5 rfl (lv_at hl 2 rfl) ?_
    refine lv_bipush (v := 8) hx hb d_Q_sign_6 (by decide) ?_
    refine lv_icmp_le (tgt := 21) hx hb d_Q_sign_8 (by decide) (fun c_8 => ?_) (fun c_8 => ?_)
    · obtain ⟨j, hj1, hj8, rfl⟩ := z_18 c_2 c_8
      refine lv_aload_n hx hb d_Q_sign_21 rfl (lv_at hl 0 rfl) ?_
      refine va_get (D := (dC, dI)) (ci := 0) (v := .ref tr) (C := R_Q) (T := F_Q) (N := 6) hx hb htz i_Q hown hK hP 0 rfl rfl 0 (by decide) (htz _ kf_Q_10) (fun _ h9 => h9) rfl d_Q_sign_22 ?_
      refine va_getN (D := (dC, dI)) (ci := 1) (v := .int (nI L)) (C := R_TR) (T := F_TR) (N := 5) hx hb htz i_TR hown hK hP 1 rfl rfl 3 (by decide) (va_Nw.use rfl (hE.1 _ kf_Q_48)) (fun _ h9 => h9) rfl d_Q_sign_25 ?_
      refine lv_iload_n hx hb d_Q_sign_28 rfl (lv_at hl 2 rfl) ?_
      refine lv_iadd hx hb d_Q_sign_29 ?_
      refine lv_topi (fun y9 e9 => ?_)
      have e9 := e9.trans (nI_add L j)
      subst e9
      refine lv_sipush (v := 400) hx hb d_Q_sign_30 (by decide) ?_
      refine lv_icmp_le (tgt := 46) hx hb d_Q_sign_33 (by decide) (fun c_33 => ?_) (fun c_33 => ?_)
      · have hLj : L + j ≤ 400 := (nI_leI (by omega) (by decide)).mp (show nI (L + j) ≤ nI 400 from c_33)
        refine lv_iload_n hx hb d_Q_sign_46 rfl (lv_at hl 2 rfl) ?_
        refine lv_iconst (v := 1) hx hb d_Q_sign_47 (by decide) ?_
        refine lv_isub hx hb d_Q_sign_48 ?_
        refine lv_topi (fun y9 e9 => ?_)
        have e9 := e9.trans (z_lf_1 hj1)
        subst e9
        refine lv_istore (lv' := [(4, .int (z_lf j)), (0, .ref h0), (1, .long bs), (3, .int (nI j))]) hx hb d_Q_sign_49 hl (by decide) rfl (fun ls hl => ?_)
        have loop : ∀ (d i : Nat) (H : Heap) (locs : List Loc) (ls : Array Slot), i + d = j → va_P (dC, dI) classes [(h0, .inr (0, [.ref tr, .ref a2, .ref a3, .ref a4, .int md, .int wp])), (tr, .inr (1, [.ref t1, .ref t2, .ref t3, .int (nI (L + i)), .int att])), (t1, .inl (k 0, 400, .inl (z_sg f L bs j i)))] H → va_D A [(h0, .inr (0, [.ref tr, .ref a2, .ref a3, .ref a4, .int md, .int wp])), (tr, .inr (1, [.ref t1, .ref t2, .ref t3, .int (nI (L + i)), .int att])), (t1, .inl (k 0, 400, .inl (z_sg f L bs j i)))] → va_S A s.heap H locs → lv_has ls 5 [(0, .ref h0), (1, .long bs), (3, .int (nI j)), (4, .int (z_lf d))] → W p l e (headSpec (Cond.code y_Q_sign b_Q_sign 5 (some .int) :: z_T) (z_rm 1 1 6)).room s m ([.ref h0, .long bs, .int (nI j)] : List Value).toArray below meth c H locs 0 0 (vx_MQ below (va_Qi (fun (r : Int32) (u : Nat) => 1 ≤ u ∧ u ≤ 8 ∧ nI j = nI u ∧ L + u ≤ 400 ∧ r = nI (L + u)) (fun (u : Nat) t => z_B dC dI k A [(h0, .inr (0, [.ref tr, .ref a2, .ref a3, .ref a4, .int md, .int wp])), (tr, .inr (1, [.ref t1, .ref t2, .ref t3, .int (nI (L + u)), .int att])), (t1, .inl (k 0, 400, .inl (z_sg f L bs u u)))] t) A) (vx_X (fun (_ : Unit) => True) (fun E (_ : Unit) t => ((E = "java/lang/IllegalArgumentException" ∧ (nI j < 1 ∨ ¬ nI j ≤ 8)) ∨ (E = "java/lang/IllegalStateException" ∧ ∃ i9 : Nat, 1 ≤ i9 ∧ i9 ≤ 8 ∧ nI j = nI i9 ∧ 400 < L + i9)) ∧ z_B dC dI k A [(h0, .inr (0, [.ref tr, .ref a2, .ref a3, .ref a4, .int md, .int wp])), (tr, .inr (1, [.ref t1, .ref t2, .ref t3, .int (nI L), .int att])), (t1, .inl (k 0, 400, .inl f))] t) A) ([.ref h0, .long bs, .int (nI j)] : List Value).toArray s 1 6 A) (F0 m 51 ls []) := by
          intro d
          induction d with
          | zero =>
            intro i H locs ls hi hP hD hS hl
            have hi : i = j := by omega
            subst hi
            refine lv_iload hx hb d_Q_sign_51 (lv_at hl 3 rfl) ?_
            refine lv_if_lt (tgt := 81) hx hb d_Q_sign_53 (by decide) (fun c_53 => ?_) (fun c_53 => ?_)
            · refine lv_aload_n hx hb d_Q_sign_81 rfl (lv_at hl 0 rfl) ?_
              refine va_get (D := (dC, dI)) (ci := 0) (v := .ref tr) (C := R_Q) (T := F_Q) (N := 6) hx hb htz i_Q hown hK hP 0 rfl rfl 0 (by decide) (htz _ kf_Q_10) (fun _ h9 => h9) rfl d_Q_sign_82 ?_
              refine va_getN (D := (dC, dI)) (ci := 1) (v := .int (nI (L + i))) (C := R_TR) (T := F_TR) (N := 5) hx hb htz i_TR hown hK hP 1 rfl rfl 3 (by decide) (va_Nw.use rfl (hE.1 _ kf_Q_48)) (fun _ h9 => h9) rfl d_Q_sign_85 ?_
              refine W.widen (k := 1) (n := 6) (Nat.le_of_ble_eq_true rfl) (Nat.le_of_ble_eq_true rfl) ?_
              refine vx_ret ?_
              have hP9 := hP.sub (ws' := [(h0, .inr (0, [.ref tr, .ref a2, .ref a3, .ref a4, .int md, .int wp])), (tr, .inr (1, [.ref t1, .ref t2, .ref t3, .int (nI (L + i)), .int att])), (t1, .inl (k 0, 400, .inl (z_sg f L bs i i)))]) [0, 1, 2] rfl
              have hD9 := hD.sub (ws' := [(h0, .inr (0, [.ref tr, .ref a2, .ref a3, .ref a4, .int md, .int wp])), (tr, .inr (1, [.ref t1, .ref t2, .ref t3, .int (nI (L + i)), .int att])), (t1, .inl (k 0, 400, .inl (z_sg f L bs i i)))]) [0, 1, 2] (by decide) rfl
              exact W.iret (v := nI (L + i)) hx hb hr (fun t ht hW => ⟨⟨nI (L + i), i, rfl, ⟨hj1, hj8, rfl, hLj, rfl⟩, by rw [ht]; exact hP9, va_K.moved hW.alike hK, hD9⟩, hS.F ht⟩) hS.2.2 d_Q_sign_88
            · exact absurd (show (-1 : Int32) < 0 by decide) c_53
          | succ d ih =>
            intro i H locs ls hi hP hD hS hl
            have hl : lv_has ls 5 [(0, .ref h0), (1, .long bs), (3, .int (nI j)), (4, .int (nI d))] := hl
            refine lv_iload hx hb d_Q_sign_51 (lv_at hl 3 rfl) ?_
            refine lv_if_lt (tgt := 81) hx hb d_Q_sign_53 (by decide) (fun c_53 => ?_) (fun c_53 => ?_)
            · exact absurd c_53 (nI_pos (by omega))
            · refine lv_aload_n hx hb d_Q_sign_56 rfl (lv_at hl 0 rfl) ?_
              refine va_get (D := (dC, dI)) (ci := 0) (v := .ref tr) (C := R_Q) (T := F_Q) (N := 6) hx hb htz i_Q hown hK hP 0 rfl rfl 0 (by decide) (htz _ kf_Q_10) (fun _ h9 => h9) rfl d_Q_sign_57 ?_
              refine lv_lload_n hx hb d_Q_sign_60 rfl (lv_at hl 1 rfl) ?_
              refine lv_bipush (v := 8) hx hb d_Q_sign_61 (by decide) ?_
              refine lv_iload hx hb d_Q_sign_63 (lv_at hl 3 rfl) ?_
              refine lv_imul hx hb d_Q_sign_65 ?_
              refine lv_lushr (v := (bs.toUInt64 >>> ((8 * (nI d)).toInt64.toUInt64 &&& Int64.toUInt64 63)).toInt64) hx hb d_Q_sign_66 rfl ?_
              refine lv_l2i (v := ((bs.toUInt64 >>> ((8 * (nI d)).toInt64.toUInt64 &&& Int64.toUInt64 63)).toInt64).toInt32) hx hb d_Q_sign_67 rfl ?_
              refine lv_sipush (v := 255) hx hb d_Q_sign_68 (by decide) ?_
              refine lv_iand hx hb d_Q_sign_71 ?_
              refine lv_topi (fun y9 e9 => ?_)
              have e9 : y9 = z_by bs (j - 1 - i) := by rw [e9, show j - 1 - i = d by omega]; rfl
              subst e9
              have hPc := hP.sub (ws' := [(tr, .inr (1, [.ref t1, .ref t2, .ref t3, .int (nI (L + i)), .int att])), (t1, .inl (k 0, 400, .inl (z_sg f L bs j i)))]) [1, 2] rfl
              have hDc := hD.sub (ws' := [(tr, .inr (1, [.ref t1, .ref t2, .ref t3, .int (nI (L + i)), .int att])), (t1, .inl (k 0, 400, .inl (z_sg f L bs j i)))]) [1, 2] (by decide) rfl
              have hFc := va_free (wc := [(tr, .inr (1, [.ref t1, .ref t2, .ref t3, .int (nI (L + i)), .int att])), (t1, .inl (k 0, 400, .inl (z_sg f L bs j i)))]) hD hS hA [1, 2] rfl
              refine va_callv (va_runV (As := [.int (z_by bs (j - 1 - i))]) (rest := []) ⟨hx, hb, hml, hown, htz⟩ (c_TR_add l dC dI k H.size tr t1 t2 t3 (L + i) (z_sg f L bs j i) att (z_by bs (j - 1 - i)) (by omega)) (cwV 1 htz (z_gV (fun _ h => h) km_Q_56 in_TR_add se_TR_add ini_TR m_TR_add) rfl rfl rfl (by decide +kernel) ⟨(Nat.le_of_ble_eq_true rfl), (Nat.le_of_ble_eq_true rfl)⟩) ⟨z_blind, va_recv hK hPc (ci := 1) (q0 := 0) rfl rfl, fun U hU hW => ⟨rfl, by rw [hU], hE.call hS hFc hU hW, by rw [hU]; exact hPc, va_K.moved hW.alike hK, hDc.weaken (fun _ _ _ _ => trivial)⟩⟩ rfl rfl hl.1 rfl (lv_room (Nat.le_of_ble_eq_true rfl)) d_Q_sign_72 ⟨(Nat.le_of_ble_eq_true rfl), (Nat.le_of_ble_eq_true rfl)⟩) hS (fun q _ h => hFc q h) hFc (fun u t H1 locs ht hvm hw hB hz1 hk1 hS => ?_)
              obtain ⟨hP1, hK1, hD1⟩ := hB
              rw [ht] at hP1
              try dsimp only at hw
              obtain ⟨hP, hD⟩ := va_join (wr := [(h0, .inr (0, [.ref tr, .ref a2, .ref a3, .ref a4, .int md, .int wp]))]) (w1 := [(tr, .inr (1, [.ref t1, .ref t2, .ref t3, .int (nI (L + i + 1)), .int att])), (t1, .inl (k 0, 400, .inl (upd (z_sg f L bs j i) (L + i) (z_by bs (j - 1 - i)))))]) hP hD [1, 2] [0] rfl rfl (by decide) (by decide) hk1 hFc hP1 hD1
              generalize H1 = H at hP hS ⊢
              have hP : va_P (dC, dI) classes [(h0, .inr (0, [.ref tr, .ref a2, .ref a3, .ref a4, .int md, .int wp])), (tr, .inr (1, [.ref t1, .ref t2, .ref t3, .int (nI (L + i + 1)), .int att])), (t1, .inl (k 0, 400, .inl (upd (z_sg f L bs j i) (L + i) (z_by bs (j - 1 - i)))))] H := hP
              have hD : va_D A [(h0, .inr (0, [.ref tr, .ref a2, .ref a3, .ref a4, .int md, .int wp])), (tr, .inr (1, [.ref t1, .ref t2, .ref t3, .int (nI (L + i + 1)), .int att])), (t1, .inl (k 0, 400, .inl (upd (z_sg f L bs j i) (L + i) (z_by bs (j - 1 - i)))))] := hD
              refine lv_iinc (v := z_lf d) (lv' := [(4, .int (z_lf d)), (0, .ref h0), (1, .long bs), (3, .int (nI j))]) hx hb d_Q_sign_75 hl (k := 3) rfl (z_lf_dec d) (by decide) rfl (fun ls hl => ?_)
              refine lv_goto (tgt := 51) hx hb d_Q_sign_78 (by decide) ?_
              exact ih (i + 1) H locs ls (by omega) (hP.sub [0, 1, 2] rfl) (hD.sub [0, 1, 2] (by decide) rfl) hS (lv_sub hl [1, 2, 3, 0] rfl)
        exact loop j 0 _ _ ls (by omega) hP hD hS (lv_sub hl [1, 2, 3, 0] rfl)
      · obtain ⟨sa, hstr⟩ := hE.2.2.1 ("QuestionText", 53, "a text has at most 400 bytes") (by decide)
        have hP9 := hP.sub (ws' := [(h0, .inr (0, [.ref tr, .ref a2, .ref a3, .ref a4, .int md, .int wp])), (tr, .inr (1, [.ref t1, .ref t2, .ref t3, .int (nI L), .int att])), (t1, .inl (k 0, 400, .inl f))]) [0, 1, 2] rfl
        have hD9 := hD.sub (ws' := [(h0, .inr (0, [.ref tr, .ref a2, .ref a3, .ref a4, .int md, .int wp])), (tr, .inr (1, [.ref t1, .ref t2, .ref t3, .int (nI L), .int att])), (t1, .inl (k 0, 400, .inl f))]) [0, 1, 2] (by decide) rfl
        have hB9 := z_thr (dC := dC) (dI := dI) (k := k) hP9 hK hD9 hS
        exact vx_throwS (own := "QuestionText") (cls := "java/lang/IllegalStateException") (text := "a text has at most 400 bytes") (names := ["java/lang/RuntimeException", "java/lang/Exception"]) (ik := 51) (is := 53) (ic := 55) hx hb hlt hown (by decide +kernel) (by decide +kernel) (htz _ kc_Q_51) (htz _ ini_ISE) hstr (z_hat th_Q_55 htz hE.1) tg_Q_51_55 hE.2.2.2.1 hE.2.2.2.2.1 hS (hl.1.trans hml.symm) d_Q_sign_36 d_Q_sign_39 d_Q_sign_40 d_Q_sign_42 d_Q_sign_45 (fun x hx9 => (hno x hx9).elim) (Nat.le_of_ble_eq_true rfl) (Nat.le_of_ble_eq_true rfl) (Nat.le_of_ble_eq_true rfl) (Nat.le_of_ble_eq_true rfl) hlocks (fun t h1 h2 h3 => ⟨(), trivial, ⟨Or.inr ⟨rfl, j, hj1, hj8, rfl, by have := mt (fun h9 : L + j ≤ 400 => show nI (L + j) ≤ nI 400 from nI_le h9 (by decide)) c_33; omega⟩, (hB9 t h1 h2 h3).1⟩, (hB9 t h1 h2 h3).2⟩) hS.2.2 (Nat.le_of_ble_eq_true rfl) (Nat.le_of_ble_eq_true rfl)
    · obtain ⟨sa, hstr⟩ := hE.2.2.1 ("QuestionText", 43, "1 to 8 bytes at once") (by decide)
      have hP9 := hP.sub (ws' := [(h0, .inr (0, [.ref tr, .ref a2, .ref a3, .ref a4, .int md, .int wp])), (tr, .inr (1, [.ref t1, .ref t2, .ref t3, .int (nI L), .int att])), (t1, .inl (k 0, 400, .inl f))]) [0, 1, 2] rfl
      have hD9 := hD.sub (ws' := [(h0, .inr (0, [.ref tr, .ref a2, .ref a3, .ref a4, .int md, .int wp])), (tr, .inr (1, [.ref t1, .ref t2, .ref t3, .int (nI L), .int att])), (t1, .inl (k 0, 400, .inl f))]) [0, 1, 2] (by decide) rfl
      have hB9 := z_thr (dC := dC) (dI := dI) (k := k) hP9 hK hD9 hS
      exact vx_throwS (own := "QuestionText") (cls := "java/lang/IllegalArgumentException") (text := "1 to 8 bytes at once") (names := ["java/lang/RuntimeException", "java/lang/Exception"]) (ik := 41) (is := 43) (ic := 45) hx hb hlt hown (by decide +kernel) (by decide +kernel) (htz _ kc_Q_41) (htz _ ini_IAE) hstr (z_hat th_Q_45 htz hE.1) tg_Q_41_45 hE.2.2.2.1 hE.2.2.2.2.1 hS (hl.1.trans hml.symm) d_Q_sign_11 d_Q_sign_14 d_Q_sign_15 d_Q_sign_17 d_Q_sign_20 (fun x hx9 => (hno x hx9).elim) (Nat.le_of_ble_eq_true rfl) (Nat.le_of_ble_eq_true rfl) (Nat.le_of_ble_eq_true rfl) (Nat.le_of_ble_eq_true rfl) hlocks (fun t h1 h2 h3 => ⟨(), trivial, ⟨Or.inl ⟨rfl, Or.inr c_8⟩, (hB9 t h1 h2 h3).1⟩, (hB9 t h1 h2 h3).2⟩) hS.2.2 (Nat.le_of_ble_eq_true rfl) (Nat.le_of_ble_eq_true rfl)
