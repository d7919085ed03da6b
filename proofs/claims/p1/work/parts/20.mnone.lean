-- the reference: what it answers of no rows
theorem z_vi {x : Int32} {n M : Nat} (e : x = nI n) (h : n < M) (hM : M < 2 ^ 31) : vp_in x M := by
  rw [e]
  exact vp_in_nI h hM
theorem z_up0 (j : Nat) : upd (fun _ => (0 : Int32)) j 0 = fun _ => 0 := by
  funext i
  unfold upd
  by_cases h : i = j
  · rw [if_pos h]
  · rw [if_neg h]
theorem z_upb (j : Nat) : upd (fun _ => (0 : Int32)) j (vp_nar .boolean 0) = fun _ => 0 := z_up0 j
theorem z_npos {x : Int32} (h : ¬ x ≤ 0) : 0 < x := by
  rw [Int32.le_iff_toInt_le] at h
  rw [Int32.lt_iff_toInt_lt]
  omega
theorem z_p61 {c q : Nat} (hc : c ≤ 9) (hq : q < 61) : vp_in (nI c * 61 + nI q) 610 :=
  z_vi (show nI c * nI 61 + nI q = nI (c * 61 + q) from by rw [pk_mul, nI_add]) (by omega) (by decide)
theorem z_p10 {c q : Nat} (hc : c ≤ 9) (hq : q < 10) : vp_in (nI c * 10 + nI q) 100 :=
  z_vi (show nI c * nI 10 + nI q = nI (c * 10 + q) from by rw [pk_mul, nI_add]) (by omega) (by decide)
theorem z_inn_1 {x : Int32} (h : z_inn x 0 0 = 1) : x = 0 := by
  unfold z_inn at h
  by_cases h1 : x < 0
  · rw [if_pos h1] at h; exact absurd h (by decide)
  · rw [if_neg h1] at h
    by_cases h2 : (0 : Int32) < x
    · rw [if_pos h2] at h; exact absurd h (by decide)
    · refine z_zero h1 ?_
      rw [Int32.lt_iff_toInt_lt] at h2
      rw [Int32.le_iff_toInt_le]
      omega
theorem z_inn_n1 {x : Int32} (h : z_inn x 0 0 = 0) : x ≠ 0 := by
  intro e
  rw [e] at h
  exact absurd h (by decide)
theorem z_inn_in {x a b : Int32} {M : Nat} (h : ¬ z_inn x a b = 0) (ha : 0 ≤ a.toInt) (hb : b.toInt < M) : 0 ≤ x.toInt ∧ a.toInt ≤ x.toInt ∧ x.toInt < M := by
  unfold z_inn at h
  by_cases h1 : x < a
  · rw [if_pos h1] at h; exact absurd rfl h
  · rw [if_neg h1] at h
    by_cases h2 : b < x
    · rw [if_pos h2] at h; exact absurd rfl h
    · rw [Int32.lt_iff_toInt_lt] at h1 h2
      omega
theorem z_ofI {x : Int32} {M : Nat} (h0 : 0 ≤ x.toInt) (h1 : x.toInt < M) : ∃ j : Nat, j < M ∧ x = nI j := by
  obtain ⟨j, hj, e⟩ := nI_of (x := x) (by rw [Int32.lt_iff_toInt_lt]; have : (0 : Int32).toInt = 0 := by decide
                                          omega)
  subst e
  rw [nI_toInt hj] at h1
  exact ⟨j, by omega, rfl⟩
set_option maxHeartbeats 1000000 in
set_option maxRecDepth 100000 in
theorem c_Mo_isThere_0 (l : Launch) (dC : Nat → ClassId) (dI : Nat → Nat → Nat) (k : Nat → ClassId) (sz : Nat) (h0 : Nat) (m1 : Nat) (m2 : Nat) (m3 : Nat) (m4 : Nat) (m5 : Nat) (m6 : Nat) (m7 : Nat) (m8 : Nat) (m9 : Nat) (m10 : Nat) (m11 : Nat) (m12 : Nat) (m13 : Nat) (m14 : Nat) (m15 : Nat) (m16 : Nat) (m17 : Nat) (m18 : Nat) (v_thrown : Int32) (v_taped : Int32) (v_place : Int32) (v_editions : Int32) (v_at : Int32) (v_wrong : Int32) (v_digits : Int32) (v_into : Int32) (v_kind : Int32) (v_now : Int32) (v_points : Int32) (v_many : Int32) (ch : Nat) (hch : ch ≤ 9) (q : Nat) (hq : q < 61) : Met l y_Mo_isThere (Cond.code y_Mo_isThere b_Mo_isThere 2 (some .boolean) :: z_T) (z_rm 0 0 0) (z_Pc dC dI k sz [.ref h0, .int (nI q)] [(h0, .inr (4, [.int v_thrown, .int v_taped, .ref m1, .int v_place, .int v_editions, .int (nI ch), .ref m2, .ref m3, .ref m4, .ref m5, .ref m6, .ref m7, .ref m8, .ref m9, .ref m10, .ref m11, .ref m12, .ref m13, .int v_at, .int v_wrong, .int v_digits, .int v_into, .ref m14, .ref m15, .int v_kind, .int v_now, .int v_points, .int v_many, .ref m16, .ref m17, .ref m18])), (m2, .inl (k 2, 610, .inl (fun _ => 0)))]) (va_Qi (fun (r : Int32) (u : Unit) => r = 0) (fun (u : Unit) t => z_B dC dI k (va_A [(h0, .inr (4, [.int v_thrown, .int v_taped, .ref m1, .int v_place, .int v_editions, .int (nI ch), .ref m2, .ref m3, .ref m4, .ref m5, .ref m6, .ref m7, .ref m8, .ref m9, .ref m10, .ref m11, .ref m12, .ref m13, .int v_at, .int v_wrong, .int v_digits, .int v_into, .ref m14, .ref m15, .int v_kind, .int v_now, .int v_points, .int v_many, .ref m16, .ref m17, .ref m18])), (m2, .inl (k 2, 610, .inl (fun _ => 0)))] sz) [(h0, .inr (4, [.int v_thrown, .int v_taped, .ref m1, .int v_place, .int v_editions, .int (nI ch), .ref m2, .ref m3, .ref m4, .ref m5, .ref m6, .ref m7, .ref m8, .ref m9, .ref m10, .ref m11, .ref m12, .ref m13, .int v_at, .int v_wrong, .int v_digits, .int v_into, .ref m14, .ref m15, .int v_kind, .int v_now, .int v_points, .int v_many, .ref m16, .ref m17, .ref m18])), (m2, .inl (k 2, 610, .inl (fun _ => 0)))] t) (va_A [(h0, .inr (4, [.int v_thrown, .int v_taped, .ref m1, .int v_place, .int v_editions, .int (nI ch), .ref m2, .ref m3, .ref m4, .ref m5, .ref m6, .ref m7, .ref m8, .ref m9, .ref m10, .ref m11, .ref m12, .ref m13, .int v_at, .int v_wrong, .int v_digits, .int v_into, .ref m14, .ref m15, .int v_kind, .int v_now, .int v_points, .int v_many, .ref m16, .ref m17, .ref m18])), (m2, .inl (k 2, 610, .inl (fun _ => 0)))] sz)) 0 0 (va_A [(h0, .inr (4, [.int v_thrown, .int v_taped, .ref m1, .int v_place, .int v_editions, .int (nI ch), .ref m2, .ref m3, .ref m4, .ref m5, .ref m6, .ref m7, .ref m8, .ref m9, .ref m10, .ref m11, .ref m12, .ref m13, .int v_at, .int v_wrong, .int v_digits, .int v_into, .ref m14, .ref m15, .int v_kind, .int v_now, .int v_points, .int v_many, .ref m16, .ref m17, .ref m18])), (m2, .inl (k 2, 610, .inl (fun _ => 0)))] sz) := by
  refine Met.ofW (cc := b_Mo_isThere) (maxL := 2) (ret := (some .boolean)) (by decide) rfl ?_
  intro p e s m args below meth c s₁ B hml hv
  obtain ⟨rfl, hsz, hE, hP, hK, hD0⟩ := hv
  have hx := B.exec
  have hb := B.bytes
  have hr := B.returns
  have hts := atoms_spec (ws := Cond.code y_Mo_isThere b_Mo_isThere 2 (some .boolean) :: z_T) B.pre
  have htz : ∀ w ∈ z_T, w.before _ s = true := fun w h => hts w (z_cons w h)
  have hown : s.vm.findClass "QuestionTextModel" = some m.cls := findClass_of_methodNamed B.named
  have hlocks := B.notSynchronized
  subst hsz
  have hD := hD0.self (sz := s.heap.size)
  generalize hAe : va_A [(h0, .inr (4, [.int v_thrown, .int v_taped, .ref m1, .int v_place, .int v_editions, .int (nI ch), .ref m2, .ref m3, .ref m4, .ref m5, .ref m6, .ref m7, .ref m8, .ref m9, .ref m10, .ref m11, .ref m12, .ref m13, .int v_at, .int v_wrong, .int v_digits, .int v_into, .ref m14, .ref m15, .int v_kind, .int v_now, .int v_points, .int v_many, .ref m16, .ref m17, .ref m18])), (m2, .inl (k 2, 610, .inl (fun _ => 0)))] s.heap.size = A at hD hE ⊢
  have hA : ∀ q : Nat, s.heap.size ≤ q → A q := fun q h => by rw [← hAe]; exact Or.inr h
  have hS : va_S A s.heap s.heap [] := va_S.rf
  have hP : va_P (dC, dI) classes [(h0, .inr (4, [.int v_thrown, .int v_taped, .ref m1, .int v_place, .int v_editions, .int (nI ch), .ref m2, .ref m3, .ref m4, .ref m5, .ref m6, .ref m7, .ref m8, .ref m9, .ref m10, .ref m11, .ref m12, .ref m13, .int v_at, .int v_wrong, .int v_digits, .int v_into, .ref m14, .ref m15, .int v_kind, .int v_now, .int v_points, .int v_many, .ref m16, .ref m17, .ref m18])), (m2, .inl (k 2, 610, .inl (fun _ => 0)))] s.heap := hP
  have hl := lv_entry ([.ref h0, .int (nI q)]) (n := 2) (Nat.le_of_ble_eq_true rfl)
  rw [lg_entry_eq]
  generalize (lg_sl ([.ref h0, .int (nI q)]) ++ List.replicate (2 - (lg_sl ([.ref h0, .int (nI q)])).length) Slot.unset).toArray = ls at hl ⊢
  have hl : lv_has ls 2 [(0, .ref h0), (1, .int (nI q))] := hl
  refine lv_iload_n hx hb d_Mo_isThere_0 rfl (lv_at hl 1 rfl) ?_
  refine lv_if_le (tgt := 25) hx hb d_Mo_isThere_1 (by decide) (fun c_1 => ?_) (fun c_1 => ?_)
  · refine lv_iconst (v := 0) hx hb d_Mo_isThere_25 (by decide) ?_
    have hP9 := hP.sub (ws' := [(h0, .inr (4, [.int v_thrown, .int v_taped, .ref m1, .int v_place, .int v_editions, .int (nI ch), .ref m2, .ref m3, .ref m4, .ref m5, .ref m6, .ref m7, .ref m8, .ref m9, .ref m10, .ref m11, .ref m12, .ref m13, .int v_at, .int v_wrong, .int v_digits, .int v_into, .ref m14, .ref m15, .int v_kind, .int v_now, .int v_points, .int v_many, .ref m16, .ref m17, .ref m18])), (m2, .inl (k 2, 610, .inl (fun _ => 0)))]) [0, 1] rfl
    have hD9 := hD.sub (ws' := [(h0, .inr (4, [.int v_thrown, .int v_taped, .ref m1, .int v_place, .int v_editions, .int (nI ch), .ref m2, .ref m3, .ref m4, .ref m5, .ref m6, .ref m7, .ref m8, .ref m9, .ref m10, .ref m11, .ref m12, .ref m13, .int v_at, .int v_wrong, .int v_digits, .int v_into, .ref m14, .ref m15, .int v_kind, .int v_now, .int v_points, .int v_many, .ref m16, .ref m17, .ref m18])), (m2, .inl (k 2, 610, .inl (fun _ => 0)))]) [0, 1] (by decide) rfl
    exact W.zret (v := 0) (ty := .boolean) hx hb hr rfl (fun t ht hW => ⟨⟨0, (), rfl, rfl, by rw [ht]; exact hP9, va_K.moved hW.alike hK, hD9⟩, hS.F ht⟩) hS.2.2 d_Mo_isThere_26
  · refine lv_aload_n hx hb d_Mo_isThere_4 rfl (lv_at hl 0 rfl) ?_
    refine va_get (D := (dC, dI)) (ci := 4) (v := .ref m2) (C := R_Mo) (T := F_Mo) (N := 31) hx hb htz i_Mo hown hK hP 0 rfl rfl 6 (by decide) (htz _ kf_Mo_17) (fun _ h9 => h9) rfl d_Mo_isThere_5 ?_
    refine lv_aload_n hx hb d_Mo_isThere_8 rfl (lv_at hl 0 rfl) ?_
    refine va_get (D := (dC, dI)) (ci := 4) (v := .int (nI ch)) (C := R_Mo) (T := F_Mo) (N := 31) hx hb htz i_Mo hown hK hP 0 rfl rfl 5 (by decide) (htz _ kf_Mo_126) (fun _ h9 => h9) rfl d_Mo_isThere_9 ?_
    refine lv_bipush (v := 61) hx hb d_Mo_isThere_12 (by decide) ?_
    refine lv_imul hx hb d_Mo_isThere_14 ?_
    refine lv_iload_n hx hb d_Mo_isThere_15 rfl (lv_at hl 1 rfl) ?_
    refine lv_iadd hx hb d_Mo_isThere_16 ?_
    refine va_zald hx hb hK hP 1 2 rfl rfl (z_p61 hch hq) d_Mo_isThere_17 ?_
    refine lv_if_eq (tgt := 25) hx hb d_Mo_isThere_18 (by decide) (fun c_18 => ?_) (fun c_18 => ?_)
    · refine lv_iconst (v := 0) hx hb d_Mo_isThere_25 (by decide) ?_
      have hP9 := hP.sub (ws' := [(h0, .inr (4, [.int v_thrown, .int v_taped, .ref m1, .int v_place, .int v_editions, .int (nI ch), .ref m2, .ref m3, .ref m4, .ref m5, .ref m6, .ref m7, .ref m8, .ref m9, .ref m10, .ref m11, .ref m12, .ref m13, .int v_at, .int v_wrong, .int v_digits, .int v_into, .ref m14, .ref m15, .int v_kind, .int v_now, .int v_points, .int v_many, .ref m16, .ref m17, .ref m18])), (m2, .inl (k 2, 610, .inl (fun _ => 0)))]) [0, 1] rfl
      have hD9 := hD.sub (ws' := [(h0, .inr (4, [.int v_thrown, .int v_taped, .ref m1, .int v_place, .int v_editions, .int (nI ch), .ref m2, .ref m3, .ref m4, .ref m5, .ref m6, .ref m7, .ref m8, .ref m9, .ref m10, .ref m11, .ref m12, .ref m13, .int v_at, .int v_wrong, .int v_digits, .int v_into, .ref m14, .ref m15, .int v_kind, .int v_now, .int v_points, .int v_many, .ref m16, .ref m17, .ref m18])), (m2, .inl (k 2, 610, .inl (fun _ => 0)))]) [0, 1] (by decide) rfl
      exact W.zret (v := 0) (ty := .boolean) hx hb hr rfl (fun t ht hW => ⟨⟨0, (), rfl, rfl, by rw [ht]; exact hP9, va_K.moved hW.alike hK, hD9⟩, hS.F ht⟩) hS.2.2 d_Mo_isThere_26
    · exact absurd (by decide) c_18
set_option maxHeartbeats 1000000 in
set_option maxRecDepth 100000 in
theorem c_Mo_questions_0 (l : Launch) (dC : Nat → ClassId) (dI : Nat → Nat → Nat) (k : Nat → ClassId) (sz : Nat) (h0 : Nat) (m1 : Nat) (m2 : Nat) (m3 : Nat) (m4 : Nat) (m5 : Nat) (m6 : Nat) (m7 : Nat) (m8 : Nat) (m9 : Nat) (m10 : Nat) (m11 : Nat) (m12 : Nat) (m13 : Nat) (m14 : Nat) (m15 : Nat) (m16 : Nat) (m17 : Nat) (m18 : Nat) (v_thrown : Int32) (v_taped : Int32) (v_place : Int32) (v_editions : Int32) (v_at : Int32) (v_wrong : Int32) (v_digits : Int32) (v_into : Int32) (v_kind : Int32) (v_now : Int32) (v_points : Int32) (v_many : Int32) (ch : Nat) (hch : ch ≤ 9) : Met l y_Mo_questions (Cond.code y_Mo_questions b_Mo_questions 3 (some .int) :: z_T) (z_rm 0 0 0) (z_Pc dC dI k sz [.ref h0] [(h0, .inr (4, [.int v_thrown, .int v_taped, .ref m1, .int v_place, .int v_editions, .int (nI ch), .ref m2, .ref m3, .ref m4, .ref m5, .ref m6, .ref m7, .ref m8, .ref m9, .ref m10, .ref m11, .ref m12, .ref m13, .int v_at, .int v_wrong, .int v_digits, .int v_into, .ref m14, .ref m15, .int v_kind, .int v_now, .int v_points, .int v_many, .ref m16, .ref m17, .ref m18])), (m2, .inl (k 2, 610, .inl (fun _ => 0)))]) (va_Qi (fun (r : Int32) (u : Unit) => r = 0) (fun (u : Unit) t => z_B dC dI k (va_A [(h0, .inr (4, [.int v_thrown, .int v_taped, .ref m1, .int v_place, .int v_editions, .int (nI ch), .ref m2, .ref m3, .ref m4, .ref m5, .ref m6, .ref m7, .ref m8, .ref m9, .ref m10, .ref m11, .ref m12, .ref m13, .int v_at, .int v_wrong, .int v_digits, .int v_into, .ref m14, .ref m15, .int v_kind, .int v_now, .int v_points, .int v_many, .ref m16, .ref m17, .ref m18])), (m2, .inl (k 2, 610, .inl (fun _ => 0)))] sz) [(h0, .inr (4, [.int v_thrown, .int v_taped, .ref m1, .int v_place, .int v_editions, .int (nI ch), .ref m2, .ref m3, .ref m4, .ref m5, .ref m6, .ref m7, .ref m8, .ref m9, .ref m10, .ref m11, .ref m12, .ref m13, .int v_at, .int v_wrong, .int v_digits, .int v_into, .ref m14, .ref m15, .int v_kind, .int v_now, .int v_points, .int v_many, .ref m16, .ref m17, .ref m18])), (m2, .inl (k 2, 610, .inl (fun _ => 0)))] t) (va_A [(h0, .inr (4, [.int v_thrown, .int v_taped, .ref m1, .int v_place, .int v_editions, .int (nI ch), .ref m2, .ref m3, .ref m4, .ref m5, .ref m6, .ref m7, .ref m8, .ref m9, .ref m10, .ref m11, .ref m12, .ref m13, .int v_at, .int v_wrong, .int v_digits, .int v_into, .ref m14, .ref m15, .int v_kind, .int v_now, .int v_points, .int v_many, .ref m16, .ref m17, .ref m18])), (m2, .inl (k 2, 610, .inl (fun _ => 0)))] sz)) 0 0 (va_A [(h0, .inr (4, [.int v_thrown, .int v_taped, .ref m1, .int v_place, .int v_editions, .int (nI ch), .ref m2, .ref m3, .ref m4, .ref m5, .ref m6, .ref m7, .ref m8, .ref m9, .ref m10, .ref m11, .ref m12, .ref m13, .int v_at, .int v_wrong, .int v_digits, .int v_into, .ref m14, .ref m15, .int v_kind, .int v_now, .int v_points, .int v_many, .ref m16, .ref m17, .ref m18])), (m2, .inl (k 2, 610, .inl (fun _ => 0)))] sz) := by
  refine Met.ofW (cc := b_Mo_questions) (maxL := 3) (ret := (some .int)) (by decide) rfl ?_
  intro p e s m args below meth c s₁ B hml hv
  obtain ⟨rfl, hsz, hE, hP, hK, hD0⟩ := hv
  have hx := B.exec
  have hb := B.bytes
  have hr := B.returns
  have hts := atoms_spec (ws := Cond.code y_Mo_questions b_Mo_questions 3 (some .int) :: z_T) B.pre
  have htz : ∀ w ∈ z_T, w.before _ s = true := fun w h => hts w (z_cons w h)
  have hown : s.vm.findClass "QuestionTextModel" = some m.cls := findClass_of_methodNamed B.named
  have hlocks := B.notSynchronized
  subst hsz
  have hD := hD0.self (sz := s.heap.size)
  generalize hAe : va_A [(h0, .inr (4, [.int v_thrown, .int v_taped, .ref m1, .int v_place, .int v_editions, .int (nI ch), .ref m2, .ref m3, .ref m4, .ref m5, .ref m6, .ref m7, .ref m8, .ref m9, .ref m10, .ref m11, .ref m12, .ref m13, .int v_at, .int v_wrong, .int v_digits, .int v_into, .ref m14, .ref m15, .int v_kind, .int v_now, .int v_points, .int v_many, .ref m16, .ref m17, .ref m18])), (m2, .inl (k 2, 610, .inl (fun _ => 0)))] s.heap.size = A at hD hE ⊢
  have hA : ∀ q : Nat, s.heap.size ≤ q → A q := fun q h => by rw [← hAe]; exact Or.inr h
  have hS : va_S A s.heap s.heap [] := va_S.rf
  have hP : va_P (dC, dI) classes [(h0, .inr (4, [.int v_thrown, .int v_taped, .ref m1, .int v_place, .int v_editions, .int (nI ch), .ref m2, .ref m3, .ref m4, .ref m5, .ref m6, .ref m7, .ref m8, .ref m9, .ref m10, .ref m11, .ref m12, .ref m13, .int v_at, .int v_wrong, .int v_digits, .int v_into, .ref m14, .ref m15, .int v_kind, .int v_now, .int v_points, .int v_many, .ref m16, .ref m17, .ref m18])), (m2, .inl (k 2, 610, .inl (fun _ => 0)))] s.heap := hP
  have hl := lv_entry ([.ref h0]) (n := 3) (Nat.le_of_ble_eq_true rfl)
  rw [lg_entry_eq]
  generalize (lg_sl ([.ref h0]) ++ List.replicate (3 - (lg_sl ([.ref h0])).length) Slot.unset).toArray = ls at hl ⊢
  have hl : lv_has ls 3 [(0, .ref h0)] := hl
  refine lv_iconst (v := 0) hx hb d_Mo_questions_0 (by decide) ?_
  refine lv_istore_n (lv' := [(1, .int 0), (0, .ref h0)]) hx hb d_Mo_questions_1 rfl hl (by decide) rfl (fun ls hl => ?_)
  refine lv_iconst (v := 1) hx hb d_Mo_questions_2 (by decide) ?_
  refine lv_istore_n (lv' := [(2, .int 1), (1, .int 0), (0, .ref h0)]) hx hb d_Mo_questions_3 rfl hl (by decide) rfl (fun ls hl => ?_)
  have loop_4 : ∀ (d_i1 i1 : Nat) (H : Heap) (locs : List Loc) (ls : Array Slot), i1 + d_i1 = 61 → va_P (dC, dI) classes [(h0, .inr (4, [.int v_thrown, .int v_taped, .ref m1, .int v_place, .int v_editions, .int (nI ch), .ref m2, .ref m3, .ref m4, .ref m5, .ref m6, .ref m7, .ref m8, .ref m9, .ref m10, .ref m11, .ref m12, .ref m13, .int v_at, .int v_wrong, .int v_digits, .int v_into, .ref m14, .ref m15, .int v_kind, .int v_now, .int v_points, .int v_many, .ref m16, .ref m17, .ref m18])), (m2, .inl (k 2, 610, .inl (fun _ => 0)))] H → va_D A [(h0, .inr (4, [.int v_thrown, .int v_taped, .ref m1, .int v_place, .int v_editions, .int (nI ch), .ref m2, .ref m3, .ref m4, .ref m5, .ref m6, .ref m7, .ref m8, .ref m9, .ref m10, .ref m11, .ref m12, .ref m13, .int v_at, .int v_wrong, .int v_digits, .int v_into, .ref m14, .ref m15, .int v_kind, .int v_now, .int v_points, .int v_many, .ref m16, .ref m17, .ref m18])), (m2, .inl (k 2, 610, .inl (fun _ => 0)))] → va_S A s.heap H locs → lv_has ls 3 [(0, .ref h0), (1, .int 0), (2, .int (nI i1))] → W p l e (headSpec (Cond.code y_Mo_questions b_Mo_questions 3 (some .int) :: z_T) (z_rm 0 0 0)).room s m ([.ref h0] : List Value).toArray below meth c H locs 0 0 (MQ below (va_Qi (fun (r : Int32) (u : Unit) => r = 0) (fun (u : Unit) t => z_B dC dI k A [(h0, .inr (4, [.int v_thrown, .int v_taped, .ref m1, .int v_place, .int v_editions, .int (nI ch), .ref m2, .ref m3, .ref m4, .ref m5, .ref m6, .ref m7, .ref m8, .ref m9, .ref m10, .ref m11, .ref m12, .ref m13, .int v_at, .int v_wrong, .int v_digits, .int v_into, .ref m14, .ref m15, .int v_kind, .int v_now, .int v_points, .int v_many, .ref m16, .ref m17, .ref m18])), (m2, .inl (k 2, 610, .inl (fun _ => 0)))] t) A) ([.ref h0] : List Value).toArray s 0 0 A) (F0 m 4 ls []) := by
    intro d_i1
    induction d_i1 with
    | zero =>
      intro i1 H locs ls hi_i1 hP hD hS hl
      refine lv_iload_n hx hb d_Mo_questions_4 rfl (lv_at hl 2 rfl) ?_
      refine lv_bipush (v := 61) hx hb d_Mo_questions_5 (by decide) ?_
      refine lv_icmp_ge (tgt := 36) hx hb d_Mo_questions_7 (by decide) (fun c_7 => ?_) (fun c_7 => ?_)
      · refine lv_iload_n hx hb d_Mo_questions_36 rfl (lv_at hl 1 rfl) ?_
        have hP9 := hP.sub (ws' := [(h0, .inr (4, [.int v_thrown, .int v_taped, .ref m1, .int v_place, .int v_editions, .int (nI ch), .ref m2, .ref m3, .ref m4, .ref m5, .ref m6, .ref m7, .ref m8, .ref m9, .ref m10, .ref m11, .ref m12, .ref m13, .int v_at, .int v_wrong, .int v_digits, .int v_into, .ref m14, .ref m15, .int v_kind, .int v_now, .int v_points, .int v_many, .ref m16, .ref m17, .ref m18])), (m2, .inl (k 2, 610, .inl (fun _ => 0)))]) [0, 1] rfl
        have hD9 := hD.sub (ws' := [(h0, .inr (4, [.int v_thrown, .int v_taped, .ref m1, .int v_place, .int v_editions, .int (nI ch), .ref m2, .ref m3, .ref m4, .ref m5, .ref m6, .ref m7, .ref m8, .ref m9, .ref m10, .ref m11, .ref m12, .ref m13, .int v_at, .int v_wrong, .int v_digits, .int v_into, .ref m14, .ref m15, .int v_kind, .int v_now, .int v_points, .int v_many, .ref m16, .ref m17, .ref m18])), (m2, .inl (k 2, 610, .inl (fun _ => 0)))]) [0, 1] (by decide) rfl
        exact W.iret (v := 0) hx hb hr (fun t ht hW => ⟨⟨0, (), rfl, rfl, by rw [ht]; exact hP9, va_K.moved hW.alike hK, hD9⟩, hS.F ht⟩) hS.2.2 d_Mo_questions_37
      · exact absurd (show nI 61 ≤ nI i1 from nI_le (by omega) (by omega)) c_7
    | succ d_i1 ih_i1 =>
      intro i1 H locs ls hi_i1 hP hD hS hl
      refine lv_iload_n hx hb d_Mo_questions_4 rfl (lv_at hl 2 rfl) ?_
      refine lv_bipush (v := 61) hx hb d_Mo_questions_5 (by decide) ?_
      refine lv_icmp_ge (tgt := 36) hx hb d_Mo_questions_7 (by decide) (fun c_7 => ?_) (fun c_7 => ?_)
      · exact absurd (show nI 61 ≤ nI i1 from c_7) (nI_ge (by omega) (by decide))
      · refine lv_aload_n hx hb d_Mo_questions_10 rfl (lv_at hl 0 rfl) ?_
        refine va_get (D := (dC, dI)) (ci := 4) (v := .ref m2) (C := R_Mo) (T := F_Mo) (N := 31) hx hb htz i_Mo hown hK hP 0 rfl rfl 6 (by decide) (htz _ kf_Mo_17) (fun _ h9 => h9) rfl d_Mo_questions_11 ?_
        refine lv_aload_n hx hb d_Mo_questions_14 rfl (lv_at hl 0 rfl) ?_
        refine va_get (D := (dC, dI)) (ci := 4) (v := .int (nI ch)) (C := R_Mo) (T := F_Mo) (N := 31) hx hb htz i_Mo hown hK hP 0 rfl rfl 5 (by decide) (htz _ kf_Mo_126) (fun _ h9 => h9) rfl d_Mo_questions_15 ?_
        refine lv_bipush (v := 61) hx hb d_Mo_questions_18 (by decide) ?_
        refine lv_imul hx hb d_Mo_questions_20 ?_
        refine lv_iload_n hx hb d_Mo_questions_21 rfl (lv_at hl 2 rfl) ?_
        refine lv_iadd hx hb d_Mo_questions_22 ?_
        refine va_zald hx hb hK hP 1 2 rfl rfl (z_p61 hch (by omega)) d_Mo_questions_23 ?_
        refine lv_if_eq (tgt := 30) hx hb d_Mo_questions_24 (by decide) (fun c_24 => ?_) (fun c_24 => ?_)
        · refine lv_iinc (v := nI (i1 + 1)) (lv' := [(2, .int (nI (i1 + 1))), (0, .ref h0), (1, .int 0)]) hx hb d_Mo_questions_30 hl (k := 2) rfl (nI_1 i1) (by decide) rfl (fun ls hl => ?_)
          refine lv_goto (tgt := 4) hx hb d_Mo_questions_33 (by decide) ?_
          exact ih_i1 (i1 + 1) H locs ls (by omega) (hP.sub [0, 1] rfl) (hD.sub [0, 1] (by decide) rfl) hS (lv_sub hl [1, 2, 0] rfl)
        · exact absurd (by decide) c_24
  exact loop_4 60 1 _ _ ls (by omega) hP hD hS (lv_sub hl [2, 1, 0] rfl)
set_option maxHeartbeats 1000000 in
set_option maxRecDepth 100000 in
theorem c_Mo_edition_0 (l : Launch) (dC : Nat → ClassId) (dI : Nat → Nat → Nat) (k : Nat → ClassId) (sz : Nat) (h0 : Nat) (m1 : Nat) (m2 : Nat) (m3 : Nat) (m4 : Nat) (m5 : Nat) (m6 : Nat) (m7 : Nat) (m8 : Nat) (m9 : Nat) (m10 : Nat) (m11 : Nat) (m12 : Nat) (m13 : Nat) (m14 : Nat) (m15 : Nat) (m16 : Nat) (m17 : Nat) (m18 : Nat) (x : Int32) : Met l y_Mo_edition (Cond.code y_Mo_edition b_Mo_edition 2 (some .int) :: z_T) (z_rm 2 0 0) (z_Pc dC dI k sz [.ref h0, .int x] [(h0, .inr (4, [.int 0, .int 0, .ref m1, .int (-1), .int 0, .int (nI 0), .ref m2, .ref m3, .ref m4, .ref m5, .ref m6, .ref m7, .ref m8, .ref m9, .ref m10, .ref m11, .ref m12, .ref m13, .int 0, .int 0, .int 0, .int 0, .ref m14, .ref m15, .int 0, .int 0, .int 0, .int 0, .ref m16, .ref m17, .ref m18])), (m2, .inl (k 2, 610, .inl (fun _ => 0)))]) (va_Qi (fun (r : Int32) (u : Int32) => r = 0 ∧ ((x = 0 ∧ u = 0) ∨ (x ≠ 0 ∧ u = 1))) (fun (u : Int32) t => z_B dC dI k (va_A [(h0, .inr (4, [.int 0, .int 0, .ref m1, .int (-1), .int 0, .int (nI 0), .ref m2, .ref m3, .ref m4, .ref m5, .ref m6, .ref m7, .ref m8, .ref m9, .ref m10, .ref m11, .ref m12, .ref m13, .int 0, .int 0, .int 0, .int 0, .ref m14, .ref m15, .int 0, .int 0, .int 0, .int 0, .ref m16, .ref m17, .ref m18])), (m2, .inl (k 2, 610, .inl (fun _ => 0)))] sz) [(h0, .inr (4, [.int u, .int 0, .ref m1, .int (-1), .int 0, .int (nI 0), .ref m2, .ref m3, .ref m4, .ref m5, .ref m6, .ref m7, .ref m8, .ref m9, .ref m10, .ref m11, .ref m12, .ref m13, .int 0, .int 0, .int 0, .int 0, .ref m14, .ref m15, .int 0, .int 0, .int 0, .int 0, .ref m16, .ref m17, .ref m18]))] t) (va_A [(h0, .inr (4, [.int 0, .int 0, .ref m1, .int (-1), .int 0, .int (nI 0), .ref m2, .ref m3, .ref m4, .ref m5, .ref m6, .ref m7, .ref m8, .ref m9, .ref m10, .ref m11, .ref m12, .ref m13, .int 0, .int 0, .int 0, .int 0, .ref m14, .ref m15, .int 0, .int 0, .int 0, .int 0, .ref m16, .ref m17, .ref m18])), (m2, .inl (k 2, 610, .inl (fun _ => 0)))] sz)) 0 0 (va_A [(h0, .inr (4, [.int 0, .int 0, .ref m1, .int (-1), .int 0, .int (nI 0), .ref m2, .ref m3, .ref m4, .ref m5, .ref m6, .ref m7, .ref m8, .ref m9, .ref m10, .ref m11, .ref m12, .ref m13, .int 0, .int 0, .int 0, .int 0, .ref m14, .ref m15, .int 0, .int 0, .int 0, .int 0, .ref m16, .ref m17, .ref m18])), (m2, .inl (k 2, 610, .inl (fun _ => 0)))] sz) := by
  refine Met.ofW (cc := b_Mo_edition) (maxL := 2) (ret := (some .int)) (by decide) rfl ?_
  intro p e s m args below meth c s₁ B hml hv
  obtain ⟨rfl, hsz, hE, hP, hK, hD0⟩ := hv
  have hx := B.exec
  have hb := B.bytes
  have hr := B.returns
  have hts := atoms_spec (ws := Cond.code y_Mo_edition b_Mo_edition 2 (some .int) :: z_T) B.pre
  have htz : ∀ w ∈ z_T, w.before _ s = true := fun w h => hts w (z_cons w h)
  have hown : s.vm.findClass "QuestionTextModel" = some m.cls := findClass_of_methodNamed B.named
  have hlocks := B.notSynchronized
  subst hsz
  have hD := hD0.self (sz := s.heap.size)
  generalize hAe : va_A [(h0, .inr (4, [.int 0, .int 0, .ref m1, .int (-1), .int 0, .int (nI 0), .ref m2, .ref m3, .ref m4, .ref m5, .ref m6, .ref m7, .ref m8, .ref m9, .ref m10, .ref m11, .ref m12, .ref m13, .int 0, .int 0, .int 0, .int 0, .ref m14, .ref m15, .int 0, .int 0, .int 0, .int 0, .ref m16, .ref m17, .ref m18])), (m2, .inl (k 2, 610, .inl (fun _ => 0)))] s.heap.size = A at hD hE ⊢
  have hA : ∀ q : Nat, s.heap.size ≤ q → A q := fun q h => by rw [← hAe]; exact Or.inr h
  have hS : va_S A s.heap s.heap [] := va_S.rf
  have hP : va_P (dC, dI) classes [(h0, .inr (4, [.int 0, .int 0, .ref m1, .int (-1), .int 0, .int (nI 0), .ref m2, .ref m3, .ref m4, .ref m5, .ref m6, .ref m7, .ref m8, .ref m9, .ref m10, .ref m11, .ref m12, .ref m13, .int 0, .int 0, .int 0, .int 0, .ref m14, .ref m15, .int 0, .int 0, .int 0, .int 0, .ref m16, .ref m17, .ref m18])), (m2, .inl (k 2, 610, .inl (fun _ => 0)))] s.heap := hP
  have hl := lv_entry ([.ref h0, .int x]) (n := 2) (Nat.le_of_ble_eq_true rfl)
  rw [lg_entry_eq]
  generalize (lg_sl ([.ref h0, .int x]) ++ List.replicate (2 - (lg_sl ([.ref h0, .int x])).length) Slot.unset).toArray = ls at hl ⊢
  have hl : lv_has ls 2 [(0, .ref h0), (1, .int x)] := hl
  refine lv_aload_n hx hb d_Mo_edition_0 rfl (lv_at hl 0 rfl) ?_
  refine lv_iload_n hx hb d_Mo_edition_1 rfl (lv_at hl 1 rfl) ?_
  refine lv_iconst (v := 0) hx hb d_Mo_edition_2 (by decide) ?_
  refine lv_aload_n hx hb d_Mo_edition_3 rfl (lv_at hl 0 rfl) ?_
  refine va_get (D := (dC, dI)) (ci := 4) (v := .int 0) (C := R_Mo) (T := F_Mo) (N := 31) hx hb htz i_Mo hown hK hP 0 rfl rfl 4 (by decide) (htz _ kf_Mo_129) (fun _ h9 => h9) rfl d_Mo_edition_4 ?_
  have hPc := hP.sub (ws' := []) [] rfl
  have hDc := hD.sub (ws' := []) [] (by decide) rfl
  have hFc := va_free (wc := []) hD hS hA [] rfl
  refine va_calli (va_runS (As := [.int x, .int 0, .int 0]) (rest := [.ref h0]) ⟨hx, hb, hml, hown, htz⟩ (c_Mo_in l dC dI k s.heap.size x 0 0) (va_cwS 3 htz (z_gS (fun _ h => h) km_Mo_72 st_Mo_in ini_Mo m_Mo_in) rfl rfl rfl (by decide +kernel) ⟨(Nat.le_of_ble_eq_true rfl), (Nat.le_of_ble_eq_true rfl)⟩) ⟨z_blind, fun U hU hW => ⟨rfl, by rw [hU], hE.call hS hFc hU hW, by rw [hU]; exact hPc, va_K.moved hW.alike hK, hDc.weaken (fun _ _ _ _ => trivial)⟩⟩ rfl rfl hl.1 rfl (lv_room (Nat.le_of_ble_eq_true rfl)) d_Mo_edition_7 ⟨(Nat.le_of_ble_eq_true rfl), (Nat.le_of_ble_eq_true rfl)⟩) hS (fun q _ h => hFc q h) hFc (fun r0 u t H1 locs ht hvm hw hB hz1 hk1 hS => ?_)
  obtain ⟨hP1, hK1, hD1⟩ := hB
  rw [ht] at hP1
  try dsimp only at hw
  obtain ⟨hP, hD⟩ := va_join (wr := [(h0, .inr (4, [.int 0, .int 0, .ref m1, .int (-1), .int 0, .int (nI 0), .ref m2, .ref m3, .ref m4, .ref m5, .ref m6, .ref m7, .ref m8, .ref m9, .ref m10, .ref m11, .ref m12, .ref m13, .int 0, .int 0, .int 0, .int 0, .ref m14, .ref m15, .int 0, .int 0, .int 0, .int 0, .ref m16, .ref m17, .ref m18])), (m2, .inl (k 2, 610, .inl (fun _ => 0)))]) (w1 := []) hP hD [] [0, 1] rfl rfl (by decide) (by decide) hk1 hFc hP1 hD1
  generalize H1 = H at hP hS ⊢
  have hP : va_P (dC, dI) classes [(h0, .inr (4, [.int 0, .int 0, .ref m1, .int (-1), .int 0, .int (nI 0), .ref m2, .ref m3, .ref m4, .ref m5, .ref m6, .ref m7, .ref m8, .ref m9, .ref m10, .ref m11, .ref m12, .ref m13, .int 0, .int 0, .int 0, .int 0, .ref m14, .ref m15, .int 0, .int 0, .int 0, .int 0, .ref m16, .ref m17, .ref m18])), (m2, .inl (k 2, 610, .inl (fun _ => 0)))] H := hP
  have hD : va_D A [(h0, .inr (4, [.int 0, .int 0, .ref m1, .int (-1), .int 0, .int (nI 0), .ref m2, .ref m3, .ref m4, .ref m5, .ref m6, .ref m7, .ref m8, .ref m9, .ref m10, .ref m11, .ref m12, .ref m13, .int 0, .int 0, .int 0, .int 0, .ref m14, .ref m15, .int 0, .int 0, .int 0, .int 0, .ref m16, .ref m17, .ref m18])), (m2, .inl (k 2, 610, .inl (fun _ => 0)))] := hD
  rcases z_inn01 x 0 0 with h9 | h9
  · rw [h9] at hw
    subst hw
    have hPc := hP.sub (ws' := [(h0, .inr (4, [.int 0, .int 0, .ref m1, .int (-1), .int 0, .int (nI 0), .ref m2, .ref m3, .ref m4, .ref m5, .ref m6, .ref m7, .ref m8, .ref m9, .ref m10, .ref m11, .ref m12, .ref m13, .int 0, .int 0, .int 0, .int 0, .ref m14, .ref m15, .int 0, .int 0, .int 0, .int 0, .ref m16, .ref m17, .ref m18]))]) [0] rfl
    have hDc := hD.sub (ws' := [(h0, .inr (4, [.int 0, .int 0, .ref m1, .int (-1), .int 0, .int (nI 0), .ref m2, .ref m3, .ref m4, .ref m5, .ref m6, .ref m7, .ref m8, .ref m9, .ref m10, .ref m11, .ref m12, .ref m13, .int 0, .int 0, .int 0, .int 0, .ref m14, .ref m15, .int 0, .int 0, .int 0, .int 0, .ref m16, .ref m17, .ref m18]))]) [0] (by decide) rfl
    have hFc := va_free (wc := [(h0, .inr (4, [.int 0, .int 0, .ref m1, .int (-1), .int 0, .int (nI 0), .ref m2, .ref m3, .ref m4, .ref m5, .ref m6, .ref m7, .ref m8, .ref m9, .ref m10, .ref m11, .ref m12, .ref m13, .int 0, .int 0, .int 0, .int 0, .ref m14, .ref m15, .int 0, .int 0, .int 0, .int 0, .ref m16, .ref m17, .ref m18]))]) hD hS hA [0] rfl
    refine va_calli (va_runV (As := [.int 0]) (rest := []) ⟨hx, hb, hml, hown, htz⟩ (c_Mo_says l dC dI k H.size h0 m1 m2 m3 m4 m5 m6 m7 m8 m9 m10 m11 m12 m13 m14 m15 m16 m17 m18 0 0 (-1) 0 (nI 0) 0 0 0 0 0 0 0 0 0 (by decide)) (cwV 1 htz (z_gV (fun _ h => h) km_Mo_147 in_Mo_says se_Mo_says ini_Mo m_Mo_says) rfl rfl rfl (by decide +kernel) ⟨(Nat.le_of_ble_eq_true rfl), (Nat.le_of_ble_eq_true rfl)⟩) ⟨z_blind, va_recv hK hPc (ci := 4) (q0 := 0) rfl rfl, fun U hU hW => ⟨rfl, by rw [hU], hE.call hS hFc hU hW, by rw [hU]; exact hPc, va_K.moved hW.alike hK, hDc.weaken (fun _ _ _ _ => trivial)⟩⟩ rfl rfl hl.1 rfl (lv_room (Nat.le_of_ble_eq_true rfl)) d_Mo_edition_10 ⟨(Nat.le_of_ble_eq_true rfl), (Nat.le_of_ble_eq_true rfl)⟩) hS (fun q _ h => hFc q h) hFc (fun r1 u t H1 locs ht hvm hw hB hz1 hk1 hS => ?_)
    obtain ⟨hP1, hK1, hD1⟩ := hB
    rw [ht] at hP1
    try dsimp only at hw
    obtain ⟨hP, hD⟩ := va_join (wr := [(m2, .inl (k 2, 610, .inl (fun _ => 0)))]) (w1 := [(h0, .inr (4, [.int (z_sa 0), .int 0, .ref m1, .int (-1), .int 0, .int (nI 0), .ref m2, .ref m3, .ref m4, .ref m5, .ref m6, .ref m7, .ref m8, .ref m9, .ref m10, .ref m11, .ref m12, .ref m13, .int 0, .int 0, .int 0, .int 0, .ref m14, .ref m15, .int 0, .int 0, .int 0, .int 0, .ref m16, .ref m17, .ref m18]))]) hP hD [0] [1] rfl rfl (by decide) (by decide) hk1 hFc hP1 hD1
    generalize H1 = H at hP hS ⊢
    have hP : va_P (dC, dI) classes [(m2, .inl (k 2, 610, .inl (fun _ => 0))), (h0, .inr (4, [.int (z_sa 0), .int 0, .ref m1, .int (-1), .int 0, .int (nI 0), .ref m2, .ref m3, .ref m4, .ref m5, .ref m6, .ref m7, .ref m8, .ref m9, .ref m10, .ref m11, .ref m12, .ref m13, .int 0, .int 0, .int 0, .int 0, .ref m14, .ref m15, .int 0, .int 0, .int 0, .int 0, .ref m16, .ref m17, .ref m18]))] H := hP
    have hD : va_D A [(m2, .inl (k 2, 610, .inl (fun _ => 0))), (h0, .inr (4, [.int (z_sa 0), .int 0, .ref m1, .int (-1), .int 0, .int (nI 0), .ref m2, .ref m3, .ref m4, .ref m5, .ref m6, .ref m7, .ref m8, .ref m9, .ref m10, .ref m11, .ref m12, .ref m13, .int 0, .int 0, .int 0, .int 0, .ref m14, .ref m15, .int 0, .int 0, .int 0, .int 0, .ref m16, .ref m17, .ref m18]))] := hD
    subst hw
    have hP : va_P (dC, dI) classes [(m2, .inl (k 2, 610, .inl (fun _ => 0))), (h0, .inr (4, [.int 1, .int 0, .ref m1, .int (-1), .int 0, .int (nI 0), .ref m2, .ref m3, .ref m4, .ref m5, .ref m6, .ref m7, .ref m8, .ref m9, .ref m10, .ref m11, .ref m12, .ref m13, .int 0, .int 0, .int 0, .int 0, .ref m14, .ref m15, .int 0, .int 0, .int 0, .int 0, .ref m16, .ref m17, .ref m18]))] H := hP
    have hD : va_D A [(m2, .inl (k 2, 610, .inl (fun _ => 0))), (h0, .inr (4, [.int 1, .int 0, .ref m1, .int (-1), .int 0, .int (nI 0), .ref m2, .ref m3, .ref m4, .ref m5, .ref m6, .ref m7, .ref m8, .ref m9, .ref m10, .ref m11, .ref m12, .ref m13, .int 0, .int 0, .int 0, .int 0, .ref m14, .ref m15, .int 0, .int 0, .int 0, .int 0, .ref m16, .ref m17, .ref m18]))] := hD
    refine lv_if_ne (tgt := 18) hx hb d_Mo_edition_13 (by decide) (fun c_13 => ?_) (fun c_13 => ?_)
    · exact absurd (by decide) c_13
    · refine lv_iconst (v := 0) hx hb d_Mo_edition_16 (by decide) ?_
      have hP9 := hP.sub (ws' := [(h0, .inr (4, [.int 1, .int 0, .ref m1, .int (-1), .int 0, .int (nI 0), .ref m2, .ref m3, .ref m4, .ref m5, .ref m6, .ref m7, .ref m8, .ref m9, .ref m10, .ref m11, .ref m12, .ref m13, .int 0, .int 0, .int 0, .int 0, .ref m14, .ref m15, .int 0, .int 0, .int 0, .int 0, .ref m16, .ref m17, .ref m18]))]) [1] rfl
      have hD9 := hD.sub (ws' := [(h0, .inr (4, [.int 1, .int 0, .ref m1, .int (-1), .int 0, .int (nI 0), .ref m2, .ref m3, .ref m4, .ref m5, .ref m6, .ref m7, .ref m8, .ref m9, .ref m10, .ref m11, .ref m12, .ref m13, .int 0, .int 0, .int 0, .int 0, .ref m14, .ref m15, .int 0, .int 0, .int 0, .int 0, .ref m16, .ref m17, .ref m18]))]) [1] (by decide) rfl
      exact W.iret (v := 0) hx hb hr (fun t ht hW => ⟨⟨0, 1, rfl, ⟨rfl, Or.inr ⟨z_inn_n1 h9, rfl⟩⟩, by rw [ht]; exact hP9, va_K.moved hW.alike hK, hD9⟩, hS.F ht⟩) hS.2.2 d_Mo_edition_17
  · rw [h9] at hw
    subst hw
    obtain rfl := z_inn_1 h9
    have hPc := hP.sub (ws' := [(h0, .inr (4, [.int 0, .int 0, .ref m1, .int (-1), .int 0, .int (nI 0), .ref m2, .ref m3, .ref m4, .ref m5, .ref m6, .ref m7, .ref m8, .ref m9, .ref m10, .ref m11, .ref m12, .ref m13, .int 0, .int 0, .int 0, .int 0, .ref m14, .ref m15, .int 0, .int 0, .int 0, .int 0, .ref m16, .ref m17, .ref m18]))]) [0] rfl
    have hDc := hD.sub (ws' := [(h0, .inr (4, [.int 0, .int 0, .ref m1, .int (-1), .int 0, .int (nI 0), .ref m2, .ref m3, .ref m4, .ref m5, .ref m6, .ref m7, .ref m8, .ref m9, .ref m10, .ref m11, .ref m12, .ref m13, .int 0, .int 0, .int 0, .int 0, .ref m14, .ref m15, .int 0, .int 0, .int 0, .int 0, .ref m16, .ref m17, .ref m18]))]) [0] (by decide) rfl
    have hFc := va_free (wc := [(h0, .inr (4, [.int 0, .int 0, .ref m1, .int (-1), .int 0, .int (nI 0), .ref m2, .ref m3, .ref m4, .ref m5, .ref m6, .ref m7, .ref m8, .ref m9, .ref m10, .ref m11, .ref m12, .ref m13, .int 0, .int 0, .int 0, .int 0, .ref m14, .ref m15, .int 0, .int 0, .int 0, .int 0, .ref m16, .ref m17, .ref m18]))]) hD hS hA [0] rfl
    refine va_calli (va_runV (As := [.int 1]) (rest := []) ⟨hx, hb, hml, hown, htz⟩ (c_Mo_says l dC dI k H.size h0 m1 m2 m3 m4 m5 m6 m7 m8 m9 m10 m11 m12 m13 m14 m15 m16 m17 m18 0 0 (-1) 0 (nI 0) 0 0 0 0 0 0 0 0 1 (by decide)) (cwV 1 htz (z_gV (fun _ h => h) km_Mo_147 in_Mo_says se_Mo_says ini_Mo m_Mo_says) rfl rfl rfl (by decide +kernel) ⟨(Nat.le_of_ble_eq_true rfl), (Nat.le_of_ble_eq_true rfl)⟩) ⟨z_blind, va_recv hK hPc (ci := 4) (q0 := 0) rfl rfl, fun U hU hW => ⟨rfl, by rw [hU], hE.call hS hFc hU hW, by rw [hU]; exact hPc, va_K.moved hW.alike hK, hDc.weaken (fun _ _ _ _ => trivial)⟩⟩ rfl rfl hl.1 rfl (lv_room (Nat.le_of_ble_eq_true rfl)) d_Mo_edition_10 ⟨(Nat.le_of_ble_eq_true rfl), (Nat.le_of_ble_eq_true rfl)⟩) hS (fun q _ h => hFc q h) hFc (fun r1 u t H1 locs ht hvm hw hB hz1 hk1 hS => ?_)
    obtain ⟨hP1, hK1, hD1⟩ := hB
    rw [ht] at hP1
    try dsimp only at hw
    obtain ⟨hP, hD⟩ := va_join (wr := [(m2, .inl (k 2, 610, .inl (fun _ => 0)))]) (w1 := [(h0, .inr (4, [.int (z_sa 1), .int 0, .ref m1, .int (-1), .int 0, .int (nI 0), .ref m2, .ref m3, .ref m4, .ref m5, .ref m6, .ref m7, .ref m8, .ref m9, .ref m10, .ref m11, .ref m12, .ref m13, .int 0, .int 0, .int 0, .int 0, .ref m14, .ref m15, .int 0, .int 0, .int 0, .int 0, .ref m16, .ref m17, .ref m18]))]) hP hD [0] [1] rfl rfl (by decide) (by decide) hk1 hFc hP1 hD1
    generalize H1 = H at hP hS ⊢
    have hP : va_P (dC, dI) classes [(m2, .inl (k 2, 610, .inl (fun _ => 0))), (h0, .inr (4, [.int (z_sa 1), .int 0, .ref m1, .int (-1), .int 0, .int (nI 0), .ref m2, .ref m3, .ref m4, .ref m5, .ref m6, .ref m7, .ref m8, .ref m9, .ref m10, .ref m11, .ref m12, .ref m13, .int 0, .int 0, .int 0, .int 0, .ref m14, .ref m15, .int 0, .int 0, .int 0, .int 0, .ref m16, .ref m17, .ref m18]))] H := hP
    have hD : va_D A [(m2, .inl (k 2, 610, .inl (fun _ => 0))), (h0, .inr (4, [.int (z_sa 1), .int 0, .ref m1, .int (-1), .int 0, .int (nI 0), .ref m2, .ref m3, .ref m4, .ref m5, .ref m6, .ref m7, .ref m8, .ref m9, .ref m10, .ref m11, .ref m12, .ref m13, .int 0, .int 0, .int 0, .int 0, .ref m14, .ref m15, .int 0, .int 0, .int 0, .int 0, .ref m16, .ref m17, .ref m18]))] := hD
    subst hw
    have hP : va_P (dC, dI) classes [(m2, .inl (k 2, 610, .inl (fun _ => 0))), (h0, .inr (4, [.int 0, .int 0, .ref m1, .int (-1), .int 0, .int (nI 0), .ref m2, .ref m3, .ref m4, .ref m5, .ref m6, .ref m7, .ref m8, .ref m9, .ref m10, .ref m11, .ref m12, .ref m13, .int 0, .int 0, .int 0, .int 0, .ref m14, .ref m15, .int 0, .int 0, .int 0, .int 0, .ref m16, .ref m17, .ref m18]))] H := hP
    have hD : va_D A [(m2, .inl (k 2, 610, .inl (fun _ => 0))), (h0, .inr (4, [.int 0, .int 0, .ref m1, .int (-1), .int 0, .int (nI 0), .ref m2, .ref m3, .ref m4, .ref m5, .ref m6, .ref m7, .ref m8, .ref m9, .ref m10, .ref m11, .ref m12, .ref m13, .int 0, .int 0, .int 0, .int 0, .ref m14, .ref m15, .int 0, .int 0, .int 0, .int 0, .ref m16, .ref m17, .ref m18]))] := hD
    refine lv_if_ne (tgt := 18) hx hb d_Mo_edition_13 (by decide) (fun c_13 => ?_) (fun c_13 => ?_)
    · refine lv_aload_n hx hb d_Mo_edition_18 rfl (lv_at hl 0 rfl) ?_
      refine lv_iload_n hx hb d_Mo_edition_19 rfl (lv_at hl 1 rfl) ?_
      refine va_put (D := (dC, dI)) (ci := 4) (v := .int 0) (ty := .int) (C := R_Mo) (T := F_Mo) (N := 31) hx hb htz i_Mo t_Mo o_Mo n_Mo hown hK hP hD hS 1 rfl rfl 5 (by decide) (htz _ kf_Mo_126) (fun _ h9 => h9) rfl (by decide +kernel) rfl rfl (Nat.le_of_ble_eq_true rfl) d_Mo_edition_20 (fun H locs hP hD hS => ?_)
      have hP : va_P (dC, dI) classes [(m2, .inl (k 2, 610, .inl (fun _ => 0))), (h0, .inr (4, [.int 0, .int 0, .ref m1, .int (-1), .int 0, .int 0, .ref m2, .ref m3, .ref m4, .ref m5, .ref m6, .ref m7, .ref m8, .ref m9, .ref m10, .ref m11, .ref m12, .ref m13, .int 0, .int 0, .int 0, .int 0, .ref m14, .ref m15, .int 0, .int 0, .int 0, .int 0, .ref m16, .ref m17, .ref m18]))] H := hP
      have hD : va_D A [(m2, .inl (k 2, 610, .inl (fun _ => 0))), (h0, .inr (4, [.int 0, .int 0, .ref m1, .int (-1), .int 0, .int 0, .ref m2, .ref m3, .ref m4, .ref m5, .ref m6, .ref m7, .ref m8, .ref m9, .ref m10, .ref m11, .ref m12, .ref m13, .int 0, .int 0, .int 0, .int 0, .ref m14, .ref m15, .int 0, .int 0, .int 0, .int 0, .ref m16, .ref m17, .ref m18]))] := hD
      refine lv_aload_n hx hb d_Mo_edition_23 rfl (lv_at hl 0 rfl) ?_
      refine lv_iconst (v := 0) hx hb d_Mo_edition_24 (by decide) ?_
      refine va_put (D := (dC, dI)) (ci := 4) (v := .int 0) (ty := .int) (C := R_Mo) (T := F_Mo) (N := 31) hx hb htz i_Mo t_Mo o_Mo n_Mo hown hK hP hD hS 1 rfl rfl 24 (by decide) (htz _ kf_Mo_141) (fun _ h9 => h9) rfl (by decide +kernel) rfl rfl (Nat.le_of_ble_eq_true rfl) d_Mo_edition_25 (fun H locs hP hD hS => ?_)
      have hP : va_P (dC, dI) classes [(m2, .inl (k 2, 610, .inl (fun _ => 0))), (h0, .inr (4, [.int 0, .int 0, .ref m1, .int (-1), .int 0, .int 0, .ref m2, .ref m3, .ref m4, .ref m5, .ref m6, .ref m7, .ref m8, .ref m9, .ref m10, .ref m11, .ref m12, .ref m13, .int 0, .int 0, .int 0, .int 0, .ref m14, .ref m15, .int 0, .int 0, .int 0, .int 0, .ref m16, .ref m17, .ref m18]))] H := hP
      have hD : va_D A [(m2, .inl (k 2, 610, .inl (fun _ => 0))), (h0, .inr (4, [.int 0, .int 0, .ref m1, .int (-1), .int 0, .int 0, .ref m2, .ref m3, .ref m4, .ref m5, .ref m6, .ref m7, .ref m8, .ref m9, .ref m10, .ref m11, .ref m12, .ref m13, .int 0, .int 0, .int 0, .int 0, .ref m14, .ref m15, .int 0, .int 0, .int 0, .int 0, .ref m16, .ref m17, .ref m18]))] := hD
      refine lv_aload_n hx hb d_Mo_edition_28 rfl (lv_at hl 0 rfl) ?_
      have hP : va_P (dC, dI) classes [(m2, .inl (k 2, 610, .inl (fun _ => 0))), (h0, .inr (4, [.int 0, .int 0, .ref m1, .int (-1), .int 0, .int (nI 0), .ref m2, .ref m3, .ref m4, .ref m5, .ref m6, .ref m7, .ref m8, .ref m9, .ref m10, .ref m11, .ref m12, .ref m13, .int 0, .int 0, .int 0, .int 0, .ref m14, .ref m15, .int 0, .int 0, .int 0, .int 0, .ref m16, .ref m17, .ref m18]))] H := hP
      have hD : va_D A [(m2, .inl (k 2, 610, .inl (fun _ => 0))), (h0, .inr (4, [.int 0, .int 0, .ref m1, .int (-1), .int 0, .int (nI 0), .ref m2, .ref m3, .ref m4, .ref m5, .ref m6, .ref m7, .ref m8, .ref m9, .ref m10, .ref m11, .ref m12, .ref m13, .int 0, .int 0, .int 0, .int 0, .ref m14, .ref m15, .int 0, .int 0, .int 0, .int 0, .ref m16, .ref m17, .ref m18]))] := hD
      have hPc := hP.sub (ws' := [(h0, .inr (4, [.int 0, .int 0, .ref m1, .int (-1), .int 0, .int (nI 0), .ref m2, .ref m3, .ref m4, .ref m5, .ref m6, .ref m7, .ref m8, .ref m9, .ref m10, .ref m11, .ref m12, .ref m13, .int 0, .int 0, .int 0, .int 0, .ref m14, .ref m15, .int 0, .int 0, .int 0, .int 0, .ref m16, .ref m17, .ref m18])), (m2, .inl (k 2, 610, .inl (fun _ => 0)))]) [1, 0] rfl
      have hDc := hD.sub (ws' := [(h0, .inr (4, [.int 0, .int 0, .ref m1, .int (-1), .int 0, .int (nI 0), .ref m2, .ref m3, .ref m4, .ref m5, .ref m6, .ref m7, .ref m8, .ref m9, .ref m10, .ref m11, .ref m12, .ref m13, .int 0, .int 0, .int 0, .int 0, .ref m14, .ref m15, .int 0, .int 0, .int 0, .int 0, .ref m16, .ref m17, .ref m18])), (m2, .inl (k 2, 610, .inl (fun _ => 0)))]) [1, 0] (by decide) rfl
      have hFc := va_free (wc := [(h0, .inr (4, [.int 0, .int 0, .ref m1, .int (-1), .int 0, .int (nI 0), .ref m2, .ref m3, .ref m4, .ref m5, .ref m6, .ref m7, .ref m8, .ref m9, .ref m10, .ref m11, .ref m12, .ref m13, .int 0, .int 0, .int 0, .int 0, .ref m14, .ref m15, .int 0, .int 0, .int 0, .int 0, .ref m16, .ref m17, .ref m18])), (m2, .inl (k 2, 610, .inl (fun _ => 0)))]) hD hS hA [1, 0] rfl
      refine va_calli (va_runV (As := []) (rest := []) ⟨hx, hb, hml, hown, htz⟩ (c_Mo_questions_0 l dC dI k H.size h0 m1 m2 m3 m4 m5 m6 m7 m8 m9 m10 m11 m12 m13 m14 m15 m16 m17 m18 0 0 (-1) 0 0 0 0 0 0 0 0 0 0 (by decide)) (cwV 0 htz (z_gV (fun _ h => h) km_Mo_144 in_Mo_questions se_Mo_questions ini_Mo m_Mo_questions) rfl rfl rfl (by decide +kernel) ⟨(Nat.le_of_ble_eq_true rfl), (Nat.le_of_ble_eq_true rfl)⟩) ⟨z_blind, va_recv hK hPc (ci := 4) (q0 := 0) rfl rfl, fun U hU hW => ⟨rfl, by rw [hU], hE.call hS hFc hU hW, by rw [hU]; exact hPc, va_K.moved hW.alike hK, hDc.weaken (fun _ _ _ _ => trivial)⟩⟩ rfl rfl hl.1 rfl (lv_room (Nat.le_of_ble_eq_true rfl)) d_Mo_edition_29 ⟨(Nat.le_of_ble_eq_true rfl), (Nat.le_of_ble_eq_true rfl)⟩) hS (fun q _ h => hFc q h) hFc (fun r2 u t H1 locs ht hvm hw hB hz1 hk1 hS => ?_)
      obtain ⟨hP1, hK1, hD1⟩ := hB
      rw [ht] at hP1
      try dsimp only at hw
      obtain ⟨hP, hD⟩ := va_join (wr := []) (w1 := [(h0, .inr (4, [.int 0, .int 0, .ref m1, .int (-1), .int 0, .int (nI 0), .ref m2, .ref m3, .ref m4, .ref m5, .ref m6, .ref m7, .ref m8, .ref m9, .ref m10, .ref m11, .ref m12, .ref m13, .int 0, .int 0, .int 0, .int 0, .ref m14, .ref m15, .int 0, .int 0, .int 0, .int 0, .ref m16, .ref m17, .ref m18])), (m2, .inl (k 2, 610, .inl (fun _ => 0)))]) hP hD [1, 0] [] rfl rfl (by decide) (by decide) hk1 hFc hP1 hD1
      generalize H1 = H at hP hS ⊢
      have hP : va_P (dC, dI) classes [(h0, .inr (4, [.int 0, .int 0, .ref m1, .int (-1), .int 0, .int (nI 0), .ref m2, .ref m3, .ref m4, .ref m5, .ref m6, .ref m7, .ref m8, .ref m9, .ref m10, .ref m11, .ref m12, .ref m13, .int 0, .int 0, .int 0, .int 0, .ref m14, .ref m15, .int 0, .int 0, .int 0, .int 0, .ref m16, .ref m17, .ref m18])), (m2, .inl (k 2, 610, .inl (fun _ => 0)))] H := hP
      have hD : va_D A [(h0, .inr (4, [.int 0, .int 0, .ref m1, .int (-1), .int 0, .int (nI 0), .ref m2, .ref m3, .ref m4, .ref m5, .ref m6, .ref m7, .ref m8, .ref m9, .ref m10, .ref m11, .ref m12, .ref m13, .int 0, .int 0, .int 0, .int 0, .ref m14, .ref m15, .int 0, .int 0, .int 0, .int 0, .ref m16, .ref m17, .ref m18])), (m2, .inl (k 2, 610, .inl (fun _ => 0)))] := hD
      subst hw
      have hP9 := hP.sub (ws' := [(h0, .inr (4, [.int 0, .int 0, .ref m1, .int (-1), .int 0, .int (nI 0), .ref m2, .ref m3, .ref m4, .ref m5, .ref m6, .ref m7, .ref m8, .ref m9, .ref m10, .ref m11, .ref m12, .ref m13, .int 0, .int 0, .int 0, .int 0, .ref m14, .ref m15, .int 0, .int 0, .int 0, .int 0, .ref m16, .ref m17, .ref m18]))]) [0] rfl
      have hD9 := hD.sub (ws' := [(h0, .inr (4, [.int 0, .int 0, .ref m1, .int (-1), .int 0, .int (nI 0), .ref m2, .ref m3, .ref m4, .ref m5, .ref m6, .ref m7, .ref m8, .ref m9, .ref m10, .ref m11, .ref m12, .ref m13, .int 0, .int 0, .int 0, .int 0, .ref m14, .ref m15, .int 0, .int 0, .int 0, .int 0, .ref m16, .ref m17, .ref m18]))]) [0] (by decide) rfl
      exact W.iret (v := 0) hx hb hr (fun t ht hW => ⟨⟨0, 0, rfl, ⟨rfl, Or.inl ⟨rfl, rfl⟩⟩, by rw [ht]; exact hP9, va_K.moved hW.alike hK, hD9⟩, hS.F ht⟩) hS.2.2 d_Mo_edition_32
    · exact absurd c_13 (by decide)
set_option maxHeartbeats 1000000 in
set_option maxRecDepth 100000 in
theorem c_Mo_first_0 (l : Launch) (dC : Nat → ClassId) (dI : Nat → Nat → Nat) (k : Nat → ClassId) (sz : Nat) (h0 : Nat) (m1 : Nat) (m2 : Nat) (m3 : Nat) (m4 : Nat) (m5 : Nat) (m6 : Nat) (m7 : Nat) (m8 : Nat) (m9 : Nat) (m10 : Nat) (m11 : Nat) (m12 : Nat) (m13 : Nat) (m14 : Nat) (m15 : Nat) (m16 : Nat) (m17 : Nat) (m18 : Nat) (x : Int32) : Met l y_Mo_first (Cond.code y_Mo_first b_Mo_first 3 (some .int) :: z_T) (z_rm 1 0 0) (z_Pc dC dI k sz [.ref h0, .int x] [(h0, .inr (4, [.int 0, .int 0, .ref m1, .int (-1), .int 0, .int (nI 0), .ref m2, .ref m3, .ref m4, .ref m5, .ref m6, .ref m7, .ref m8, .ref m9, .ref m10, .ref m11, .ref m12, .ref m13, .int 0, .int 0, .int 0, .int 0, .ref m14, .ref m15, .int 0, .int 0, .int 0, .int 0, .ref m16, .ref m17, .ref m18])), (m10, .inl (k 0, 100, .inl (fun _ => 0)))]) (va_Qi (fun (r : Int32) (u : Unit) => r = 0) (fun (u : Unit) t => z_B dC dI k (va_A [(h0, .inr (4, [.int 0, .int 0, .ref m1, .int (-1), .int 0, .int (nI 0), .ref m2, .ref m3, .ref m4, .ref m5, .ref m6, .ref m7, .ref m8, .ref m9, .ref m10, .ref m11, .ref m12, .ref m13, .int 0, .int 0, .int 0, .int 0, .ref m14, .ref m15, .int 0, .int 0, .int 0, .int 0, .ref m16, .ref m17, .ref m18])), (m10, .inl (k 0, 100, .inl (fun _ => 0)))] sz) [(h0, .inr (4, [.int 1, .int 0, .ref m1, .int (-1), .int 0, .int (nI 0), .ref m2, .ref m3, .ref m4, .ref m5, .ref m6, .ref m7, .ref m8, .ref m9, .ref m10, .ref m11, .ref m12, .ref m13, .int 0, .int 0, .int 0, .int 0, .ref m14, .ref m15, .int 0, .int 0, .int 0, .int 0, .ref m16, .ref m17, .ref m18]))] t) (va_A [(h0, .inr (4, [.int 0, .int 0, .ref m1, .int (-1), .int 0, .int (nI 0), .ref m2, .ref m3, .ref m4, .ref m5, .ref m6, .ref m7, .ref m8, .ref m9, .ref m10, .ref m11, .ref m12, .ref m13, .int 0, .int 0, .int 0, .int 0, .ref m14, .ref m15, .int 0, .int 0, .int 0, .int 0, .ref m16, .ref m17, .ref m18])), (m10, .inl (k 0, 100, .inl (fun _ => 0)))] sz)) 0 0 (va_A [(h0, .inr (4, [.int 0, .int 0, .ref m1, .int (-1), .int 0, .int (nI 0), .ref m2, .ref m3, .ref m4, .ref m5, .ref m6, .ref m7, .ref m8, .ref m9, .ref m10, .ref m11, .ref m12, .ref m13, .int 0, .int 0, .int 0, .int 0, .ref m14, .ref m15, .int 0, .int 0, .int 0, .int 0, .ref m16, .ref m17, .ref m18])), (m10, .inl (k 0, 100, .inl (fun _ => 0)))] sz) := by
  refine Met.ofW (cc := b_Mo_first) (maxL := 3) (ret := (some .int)) (by decide) rfl ?_
  intro p e s m args below meth c s₁ B hml hv
  obtain ⟨rfl, hsz, hE, hP, hK, hD0⟩ := hv
  have hx := B.exec
  have hb := B.bytes
  have hr := B.returns
  have hts := atoms_spec (ws := Cond.code y_Mo_first b_Mo_first 3 (some .int) :: z_T) B.pre
  have htz : ∀ w ∈ z_T, w.before _ s = true := fun w h => hts w (z_cons w h)
  have hown : s.vm.findClass "QuestionTextModel" = some m.cls := findClass_of_methodNamed B.named
  have hlocks := B.notSynchronized
  subst hsz
  have hD := hD0.self (sz := s.heap.size)
  generalize hAe : va_A [(h0, .inr (4, [.int 0, .int 0, .ref m1, .int (-1), .int 0, .int (nI 0), .ref m2, .ref m3, .ref m4, .ref m5, .ref m6, .ref m7, .ref m8, .ref m9, .ref m10, .ref m11, .ref m12, .ref m13, .int 0, .int 0, .int 0, .int 0, .ref m14, .ref m15, .int 0, .int 0, .int 0, .int 0, .ref m16, .ref m17, .ref m18])), (m10, .inl (k 0, 100, .inl (fun _ => 0)))] s.heap.size = A at hD hE ⊢
  have hA : ∀ q : Nat, s.heap.size ≤ q → A q := fun q h => by rw [← hAe]; exact Or.inr h
  have hS : va_S A s.heap s.heap [] := va_S.rf
  have hP : va_P (dC, dI) classes [(h0, .inr (4, [.int 0, .int 0, .ref m1, .int (-1), .int 0, .int (nI 0), .ref m2, .ref m3, .ref m4, .ref m5, .ref m6, .ref m7, .ref m8, .ref m9, .ref m10, .ref m11, .ref m12, .ref m13, .int 0, .int 0, .int 0, .int 0, .ref m14, .ref m15, .int 0, .int 0, .int 0, .int 0, .ref m16, .ref m17, .ref m18])), (m10, .inl (k 0, 100, .inl (fun _ => 0)))] s.heap := hP
  have hl := lv_entry ([.ref h0, .int x]) (n := 3) (Nat.le_of_ble_eq_true rfl)
  rw [lg_entry_eq]
  generalize (lg_sl ([.ref h0, .int x]) ++ List.replicate (3 - (lg_sl ([.ref h0, .int x])).length) Slot.unset).toArray = ls at hl ⊢
  have hl : lv_has ls 3 [(0, .ref h0), (1, .int x)] := hl
  refine lv_aload_n hx hb d_Mo_first_0 rfl (lv_at hl 0 rfl) ?_
  refine lv_iload_n hx hb d_Mo_first_1 rfl (lv_at hl 1 rfl) ?_
  refine lv_iconst (v := 1) hx hb d_Mo_first_2 (by decide) ?_
  refine lv_bipush (v := 9) hx hb d_Mo_first_3 (by decide) ?_
  have hPc := hP.sub (ws' := []) [] rfl
  have hDc := hD.sub (ws' := []) [] (by decide) rfl
  have hFc := va_free (wc := []) hD hS hA [] rfl
  refine va_calli (va_runS (As := [.int x, .int 1, .int 9]) (rest := [.ref h0]) ⟨hx, hb, hml, hown, htz⟩ (c_Mo_in l dC dI k s.heap.size x 1 9) (va_cwS 3 htz (z_gS (fun _ h => h) km_Mo_72 st_Mo_in ini_Mo m_Mo_in) rfl rfl rfl (by decide +kernel) ⟨(Nat.le_of_ble_eq_true rfl), (Nat.le_of_ble_eq_true rfl)⟩) ⟨z_blind, fun U hU hW => ⟨rfl, by rw [hU], hE.call hS hFc hU hW, by rw [hU]; exact hPc, va_K.moved hW.alike hK, hDc.weaken (fun _ _ _ _ => trivial)⟩⟩ rfl rfl hl.1 rfl (lv_room (Nat.le_of_ble_eq_true rfl)) d_Mo_first_5 ⟨(Nat.le_of_ble_eq_true rfl), (Nat.le_of_ble_eq_true rfl)⟩) hS (fun q _ h => hFc q h) hFc (fun r0 u t H1 locs ht hvm hw hB hz1 hk1 hS => ?_)
  obtain ⟨hP1, hK1, hD1⟩ := hB
  rw [ht] at hP1
  try dsimp only at hw
  obtain ⟨hP, hD⟩ := va_join (wr := [(h0, .inr (4, [.int 0, .int 0, .ref m1, .int (-1), .int 0, .int (nI 0), .ref m2, .ref m3, .ref m4, .ref m5, .ref m6, .ref m7, .ref m8, .ref m9, .ref m10, .ref m11, .ref m12, .ref m13, .int 0, .int 0, .int 0, .int 0, .ref m14, .ref m15, .int 0, .int 0, .int 0, .int 0, .ref m16, .ref m17, .ref m18])), (m10, .inl (k 0, 100, .inl (fun _ => 0)))]) (w1 := []) hP hD [] [0, 1] rfl rfl (by decide) (by decide) hk1 hFc hP1 hD1
  generalize H1 = H at hP hS ⊢
  have hP : va_P (dC, dI) classes [(h0, .inr (4, [.int 0, .int 0, .ref m1, .int (-1), .int 0, .int (nI 0), .ref m2, .ref m3, .ref m4, .ref m5, .ref m6, .ref m7, .ref m8, .ref m9, .ref m10, .ref m11, .ref m12, .ref m13, .int 0, .int 0, .int 0, .int 0, .ref m14, .ref m15, .int 0, .int 0, .int 0, .int 0, .ref m16, .ref m17, .ref m18])), (m10, .inl (k 0, 100, .inl (fun _ => 0)))] H := hP
  have hD : va_D A [(h0, .inr (4, [.int 0, .int 0, .ref m1, .int (-1), .int 0, .int (nI 0), .ref m2, .ref m3, .ref m4, .ref m5, .ref m6, .ref m7, .ref m8, .ref m9, .ref m10, .ref m11, .ref m12, .ref m13, .int 0, .int 0, .int 0, .int 0, .ref m14, .ref m15, .int 0, .int 0, .int 0, .int 0, .ref m16, .ref m17, .ref m18])), (m10, .inl (k 0, 100, .inl (fun _ => 0)))] := hD
  refine lv_if_eq (tgt := 46) hx hb d_Mo_first_8 (by decide) (fun c_8 => ?_) (fun c_8 => ?_)
  · refine lv_iconst (v := 0) hx hb d_Mo_first_46 (by decide) ?_
    have hPc := hP.sub (ws' := [(h0, .inr (4, [.int 0, .int 0, .ref m1, .int (-1), .int 0, .int (nI 0), .ref m2, .ref m3, .ref m4, .ref m5, .ref m6, .ref m7, .ref m8, .ref m9, .ref m10, .ref m11, .ref m12, .ref m13, .int 0, .int 0, .int 0, .int 0, .ref m14, .ref m15, .int 0, .int 0, .int 0, .int 0, .ref m16, .ref m17, .ref m18]))]) [0] rfl
    have hDc := hD.sub (ws' := [(h0, .inr (4, [.int 0, .int 0, .ref m1, .int (-1), .int 0, .int (nI 0), .ref m2, .ref m3, .ref m4, .ref m5, .ref m6, .ref m7, .ref m8, .ref m9, .ref m10, .ref m11, .ref m12, .ref m13, .int 0, .int 0, .int 0, .int 0, .ref m14, .ref m15, .int 0, .int 0, .int 0, .int 0, .ref m16, .ref m17, .ref m18]))]) [0] (by decide) rfl
    have hFc := va_free (wc := [(h0, .inr (4, [.int 0, .int 0, .ref m1, .int (-1), .int 0, .int (nI 0), .ref m2, .ref m3, .ref m4, .ref m5, .ref m6, .ref m7, .ref m8, .ref m9, .ref m10, .ref m11, .ref m12, .ref m13, .int 0, .int 0, .int 0, .int 0, .ref m14, .ref m15, .int 0, .int 0, .int 0, .int 0, .ref m16, .ref m17, .ref m18]))]) hD hS hA [0] rfl
    refine va_calli (va_runV (As := [.int 0]) (rest := []) ⟨hx, hb, hml, hown, htz⟩ (c_Mo_says l dC dI k H.size h0 m1 m2 m3 m4 m5 m6 m7 m8 m9 m10 m11 m12 m13 m14 m15 m16 m17 m18 0 0 (-1) 0 (nI 0) 0 0 0 0 0 0 0 0 0 (by decide)) (cwV 1 htz (z_gV (fun _ h => h) km_Mo_147 in_Mo_says se_Mo_says ini_Mo m_Mo_says) rfl rfl rfl (by decide +kernel) ⟨(Nat.le_of_ble_eq_true rfl), (Nat.le_of_ble_eq_true rfl)⟩) ⟨z_blind, va_recv hK hPc (ci := 4) (q0 := 0) rfl rfl, fun U hU hW => ⟨rfl, by rw [hU], hE.call hS hFc hU hW, by rw [hU]; exact hPc, va_K.moved hW.alike hK, hDc.weaken (fun _ _ _ _ => trivial)⟩⟩ rfl rfl hl.1 rfl (lv_room (Nat.le_of_ble_eq_true rfl)) d_Mo_first_47 ⟨(Nat.le_of_ble_eq_true rfl), (Nat.le_of_ble_eq_true rfl)⟩) hS (fun q _ h => hFc q h) hFc (fun r1 u t H1 locs ht hvm hw hB hz1 hk1 hS => ?_)
    obtain ⟨hP1, hK1, hD1⟩ := hB
    rw [ht] at hP1
    try dsimp only at hw
    obtain ⟨hP, hD⟩ := va_join (wr := [(m10, .inl (k 0, 100, .inl (fun _ => 0)))]) (w1 := [(h0, .inr (4, [.int (z_sa 0), .int 0, .ref m1, .int (-1), .int 0, .int (nI 0), .ref m2, .ref m3, .ref m4, .ref m5, .ref m6, .ref m7, .ref m8, .ref m9, .ref m10, .ref m11, .ref m12, .ref m13, .int 0, .int 0, .int 0, .int 0, .ref m14, .ref m15, .int 0, .int 0, .int 0, .int 0, .ref m16, .ref m17, .ref m18]))]) hP hD [0] [1] rfl rfl (by decide) (by decide) hk1 hFc hP1 hD1
    generalize H1 = H at hP hS ⊢
    have hP : va_P (dC, dI) classes [(m10, .inl (k 0, 100, .inl (fun _ => 0))), (h0, .inr (4, [.int (z_sa 0), .int 0, .ref m1, .int (-1), .int 0, .int (nI 0), .ref m2, .ref m3, .ref m4, .ref m5, .ref m6, .ref m7, .ref m8, .ref m9, .ref m10, .ref m11, .ref m12, .ref m13, .int 0, .int 0, .int 0, .int 0, .ref m14, .ref m15, .int 0, .int 0, .int 0, .int 0, .ref m16, .ref m17, .ref m18]))] H := hP
    have hD : va_D A [(m10, .inl (k 0, 100, .inl (fun _ => 0))), (h0, .inr (4, [.int (z_sa 0), .int 0, .ref m1, .int (-1), .int 0, .int (nI 0), .ref m2, .ref m3, .ref m4, .ref m5, .ref m6, .ref m7, .ref m8, .ref m9, .ref m10, .ref m11, .ref m12, .ref m13, .int 0, .int 0, .int 0, .int 0, .ref m14, .ref m15, .int 0, .int 0, .int 0, .int 0, .ref m16, .ref m17, .ref m18]))] := hD
    subst hw
    have hP : va_P (dC, dI) classes [(m10, .inl (k 0, 100, .inl (fun _ => 0))), (h0, .inr (4, [.int 1, .int 0, .ref m1, .int (-1), .int 0, .int (nI 0), .ref m2, .ref m3, .ref m4, .ref m5, .ref m6, .ref m7, .ref m8, .ref m9, .ref m10, .ref m11, .ref m12, .ref m13, .int 0, .int 0, .int 0, .int 0, .ref m14, .ref m15, .int 0, .int 0, .int 0, .int 0, .ref m16, .ref m17, .ref m18]))] H := hP
    have hD : va_D A [(m10, .inl (k 0, 100, .inl (fun _ => 0))), (h0, .inr (4, [.int 1, .int 0, .ref m1, .int (-1), .int 0, .int (nI 0), .ref m2, .ref m3, .ref m4, .ref m5, .ref m6, .ref m7, .ref m8, .ref m9, .ref m10, .ref m11, .ref m12, .ref m13, .int 0, .int 0, .int 0, .int 0, .ref m14, .ref m15, .int 0, .int 0, .int 0, .int 0, .ref m16, .ref m17, .ref m18]))] := hD
    refine lv_if_ne (tgt := 55) hx hb d_Mo_first_50 (by decide) (fun c_50 => ?_) (fun c_50 => ?_)
    · exact absurd (by decide) c_50
    · refine lv_iconst (v := 0) hx hb d_Mo_first_53 (by decide) ?_
      have hP9 := hP.sub (ws' := [(h0, .inr (4, [.int 1, .int 0, .ref m1, .int (-1), .int 0, .int (nI 0), .ref m2, .ref m3, .ref m4, .ref m5, .ref m6, .ref m7, .ref m8, .ref m9, .ref m10, .ref m11, .ref m12, .ref m13, .int 0, .int 0, .int 0, .int 0, .ref m14, .ref m15, .int 0, .int 0, .int 0, .int 0, .ref m16, .ref m17, .ref m18]))]) [1] rfl
      have hD9 := hD.sub (ws' := [(h0, .inr (4, [.int 1, .int 0, .ref m1, .int (-1), .int 0, .int (nI 0), .ref m2, .ref m3, .ref m4, .ref m5, .ref m6, .ref m7, .ref m8, .ref m9, .ref m10, .ref m11, .ref m12, .ref m13, .int 0, .int 0, .int 0, .int 0, .ref m14, .ref m15, .int 0, .int 0, .int 0, .int 0, .ref m16, .ref m17, .ref m18]))]) [1] (by decide) rfl
      exact W.iret (v := 0) hx hb hr (fun t ht hW => ⟨⟨0, (), rfl, rfl, by rw [ht]; exact hP9, va_K.moved hW.alike hK, hD9⟩, hS.F ht⟩) hS.2.2 d_Mo_first_54
  · have h7 := hw
    refine lv_aload_n hx hb d_Mo_first_11 rfl (lv_at hl 0 rfl) ?_
    refine va_get (D := (dC, dI)) (ci := 4) (v := .ref m10) (C := R_Mo) (T := F_Mo) (N := 31) hx hb htz i_Mo hown hK hP 0 rfl rfl 14 (by decide) (htz _ kf_Mo_42) (fun _ h9 => h9) rfl d_Mo_first_12 ?_
    refine lv_aload_n hx hb d_Mo_first_15 rfl (lv_at hl 0 rfl) ?_
    refine va_get (D := (dC, dI)) (ci := 4) (v := .int (nI 0)) (C := R_Mo) (T := F_Mo) (N := 31) hx hb htz i_Mo hown hK hP 0 rfl rfl 5 (by decide) (htz _ kf_Mo_126) (fun _ h9 => h9) rfl d_Mo_first_16 ?_
    refine lv_bipush (v := 10) hx hb d_Mo_first_19 (by decide) ?_
    refine lv_imul hx hb d_Mo_first_21 ?_
    refine lv_iload_n hx hb d_Mo_first_22 rfl (lv_at hl 1 rfl) ?_
    refine lv_iconst (v := 1) hx hb d_Mo_first_23 (by decide) ?_
    refine lv_bipush (v := 9) hx hb d_Mo_first_24 (by decide) ?_
    have hPc := hP.sub (ws' := []) [] rfl
    have hDc := hD.sub (ws' := []) [] (by decide) rfl
    have hFc := va_free (wc := []) hD hS hA [] rfl
    refine va_calli (va_runS (As := [.int x, .int 1, .int 9]) (rest := [.int ((nI 0) * 10), .ref m10, .ref h0]) ⟨hx, hb, hml, hown, htz⟩ (c_Mo_in l dC dI k H.size x 1 9) (va_cwS 3 htz (z_gS (fun _ h => h) km_Mo_72 st_Mo_in ini_Mo m_Mo_in) rfl rfl rfl (by decide +kernel) ⟨(Nat.le_of_ble_eq_true rfl), (Nat.le_of_ble_eq_true rfl)⟩) ⟨z_blind, fun U hU hW => ⟨rfl, by rw [hU], hE.call hS hFc hU hW, by rw [hU]; exact hPc, va_K.moved hW.alike hK, hDc.weaken (fun _ _ _ _ => trivial)⟩⟩ rfl rfl hl.1 rfl (lv_room (Nat.le_of_ble_eq_true rfl)) d_Mo_first_26 ⟨(Nat.le_of_ble_eq_true rfl), (Nat.le_of_ble_eq_true rfl)⟩) hS (fun q _ h => hFc q h) hFc (fun r2 u t H1 locs ht hvm hw hB hz1 hk1 hS => ?_)
    obtain ⟨hP1, hK1, hD1⟩ := hB
    rw [ht] at hP1
    try dsimp only at hw
    obtain ⟨hP, hD⟩ := va_join (wr := [(h0, .inr (4, [.int 0, .int 0, .ref m1, .int (-1), .int 0, .int (nI 0), .ref m2, .ref m3, .ref m4, .ref m5, .ref m6, .ref m7, .ref m8, .ref m9, .ref m10, .ref m11, .ref m12, .ref m13, .int 0, .int 0, .int 0, .int 0, .ref m14, .ref m15, .int 0, .int 0, .int 0, .int 0, .ref m16, .ref m17, .ref m18])), (m10, .inl (k 0, 100, .inl (fun _ => 0)))]) (w1 := []) hP hD [] [0, 1] rfl rfl (by decide) (by decide) hk1 hFc hP1 hD1
    generalize H1 = H at hP hS ⊢
    have hP : va_P (dC, dI) classes [(h0, .inr (4, [.int 0, .int 0, .ref m1, .int (-1), .int 0, .int (nI 0), .ref m2, .ref m3, .ref m4, .ref m5, .ref m6, .ref m7, .ref m8, .ref m9, .ref m10, .ref m11, .ref m12, .ref m13, .int 0, .int 0, .int 0, .int 0, .ref m14, .ref m15, .int 0, .int 0, .int 0, .int 0, .ref m16, .ref m17, .ref m18])), (m10, .inl (k 0, 100, .inl (fun _ => 0)))] H := hP
    have hD : va_D A [(h0, .inr (4, [.int 0, .int 0, .ref m1, .int (-1), .int 0, .int (nI 0), .ref m2, .ref m3, .ref m4, .ref m5, .ref m6, .ref m7, .ref m8, .ref m9, .ref m10, .ref m11, .ref m12, .ref m13, .int 0, .int 0, .int 0, .int 0, .ref m14, .ref m15, .int 0, .int 0, .int 0, .int 0, .ref m16, .ref m17, .ref m18])), (m10, .inl (k 0, 100, .inl (fun _ => 0)))] := hD
    refine lv_if_eq (tgt := 36) hx hb d_Mo_first_29 (by decide) (fun c_29 => ?_) (fun c_29 => ?_)
    · exact absurd (h7.trans (hw.symm.trans c_29)) c_8
    · obtain ⟨hx0, hx1, hx2⟩ := z_inn_in (M := 10) (by rw [← h7]; exact c_8) (by decide) (by decide)
      obtain ⟨j, hj, rfl⟩ := z_ofI hx0 hx2
      refine lv_iload_n hx hb d_Mo_first_32 rfl (lv_at hl 1 rfl) ?_
      refine lv_goto (tgt := 37) hx hb d_Mo_first_33 (by decide) ?_
      refine lv_iadd hx hb d_Mo_first_37 ?_
      refine va_iald hx hb hK hP 1 0 rfl rfl (z_p10 (c := 0) (by decide) hj) d_Mo_first_38 ?_
      refine lv_if_le (tgt := 46) hx hb d_Mo_first_39 (by decide) (fun c_39 => ?_) (fun c_39 => ?_)
      · refine lv_iconst (v := 0) hx hb d_Mo_first_46 (by decide) ?_
        have hPc := hP.sub (ws' := [(h0, .inr (4, [.int 0, .int 0, .ref m1, .int (-1), .int 0, .int (nI 0), .ref m2, .ref m3, .ref m4, .ref m5, .ref m6, .ref m7, .ref m8, .ref m9, .ref m10, .ref m11, .ref m12, .ref m13, .int 0, .int 0, .int 0, .int 0, .ref m14, .ref m15, .int 0, .int 0, .int 0, .int 0, .ref m16, .ref m17, .ref m18]))]) [0] rfl
        have hDc := hD.sub (ws' := [(h0, .inr (4, [.int 0, .int 0, .ref m1, .int (-1), .int 0, .int (nI 0), .ref m2, .ref m3, .ref m4, .ref m5, .ref m6, .ref m7, .ref m8, .ref m9, .ref m10, .ref m11, .ref m12, .ref m13, .int 0, .int 0, .int 0, .int 0, .ref m14, .ref m15, .int 0, .int 0, .int 0, .int 0, .ref m16, .ref m17, .ref m18]))]) [0] (by decide) rfl
        have hFc := va_free (wc := [(h0, .inr (4, [.int 0, .int 0, .ref m1, .int (-1), .int 0, .int (nI 0), .ref m2, .ref m3, .ref m4, .ref m5, .ref m6, .ref m7, .ref m8, .ref m9, .ref m10, .ref m11, .ref m12, .ref m13, .int 0, .int 0, .int 0, .int 0, .ref m14, .ref m15, .int 0, .int 0, .int 0, .int 0, .ref m16, .ref m17, .ref m18]))]) hD hS hA [0] rfl
        refine va_calli (va_runV (As := [.int 0]) (rest := []) ⟨hx, hb, hml, hown, htz⟩ (c_Mo_says l dC dI k H.size h0 m1 m2 m3 m4 m5 m6 m7 m8 m9 m10 m11 m12 m13 m14 m15 m16 m17 m18 0 0 (-1) 0 (nI 0) 0 0 0 0 0 0 0 0 0 (by decide)) (cwV 1 htz (z_gV (fun _ h => h) km_Mo_147 in_Mo_says se_Mo_says ini_Mo m_Mo_says) rfl rfl rfl (by decide +kernel) ⟨(Nat.le_of_ble_eq_true rfl), (Nat.le_of_ble_eq_true rfl)⟩) ⟨z_blind, va_recv hK hPc (ci := 4) (q0 := 0) rfl rfl, fun U hU hW => ⟨rfl, by rw [hU], hE.call hS hFc hU hW, by rw [hU]; exact hPc, va_K.moved hW.alike hK, hDc.weaken (fun _ _ _ _ => trivial)⟩⟩ rfl rfl hl.1 rfl (lv_room (Nat.le_of_ble_eq_true rfl)) d_Mo_first_47 ⟨(Nat.le_of_ble_eq_true rfl), (Nat.le_of_ble_eq_true rfl)⟩) hS (fun q _ h => hFc q h) hFc (fun r1 u t H1 locs ht hvm hw hB hz1 hk1 hS => ?_)
        obtain ⟨hP1, hK1, hD1⟩ := hB
        rw [ht] at hP1
        try dsimp only at hw
        obtain ⟨hP, hD⟩ := va_join (wr := [(m10, .inl (k 0, 100, .inl (fun _ => 0)))]) (w1 := [(h0, .inr (4, [.int (z_sa 0), .int 0, .ref m1, .int (-1), .int 0, .int (nI 0), .ref m2, .ref m3, .ref m4, .ref m5, .ref m6, .ref m7, .ref m8, .ref m9, .ref m10, .ref m11, .ref m12, .ref m13, .int 0, .int 0, .int 0, .int 0, .ref m14, .ref m15, .int 0, .int 0, .int 0, .int 0, .ref m16, .ref m17, .ref m18]))]) hP hD [0] [1] rfl rfl (by decide) (by decide) hk1 hFc hP1 hD1
        generalize H1 = H at hP hS ⊢
        have hP : va_P (dC, dI) classes [(m10, .inl (k 0, 100, .inl (fun _ => 0))), (h0, .inr (4, [.int (z_sa 0), .int 0, .ref m1, .int (-1), .int 0, .int (nI 0), .ref m2, .ref m3, .ref m4, .ref m5, .ref m6, .ref m7, .ref m8, .ref m9, .ref m10, .ref m11, .ref m12, .ref m13, .int 0, .int 0, .int 0, .int 0, .ref m14, .ref m15, .int 0, .int 0, .int 0, .int 0, .ref m16, .ref m17, .ref m18]))] H := hP
        have hD : va_D A [(m10, .inl (k 0, 100, .inl (fun _ => 0))), (h0, .inr (4, [.int (z_sa 0), .int 0, .ref m1, .int (-1), .int 0, .int (nI 0), .ref m2, .ref m3, .ref m4, .ref m5, .ref m6, .ref m7, .ref m8, .ref m9, .ref m10, .ref m11, .ref m12, .ref m13, .int 0, .int 0, .int 0, .int 0, .ref m14, .ref m15, .int 0, .int 0, .int 0, .int 0, .ref m16, .ref m17, .ref m18]))] := hD
        subst hw
        have hP : va_P (dC, dI) classes [(m10, .inl (k 0, 100, .inl (fun _ => 0))), (h0, .inr (4, [.int 1, .int 0, .ref m1, .int (-1), .int 0, .int (nI 0), .ref m2, .ref m3, .ref m4, .ref m5, .ref m6, .ref m7, .ref m8, .ref m9, .ref m10, .ref m11, .ref m12, .ref m13, .int 0, .int 0, .int 0, .int 0, .ref m14, .ref m15, .int 0, .int 0, .int 0, .int 0, .ref m16, .ref m17, .ref m18]))] H := hP
        have hD : va_D A [(m10, .inl (k 0, 100, .inl (fun _ => 0))), (h0, .inr (4, [.int 1, .int 0, .ref m1, .int (-1), .int 0, .int (nI 0), .ref m2, .ref m3, .ref m4, .ref m5, .ref m6, .ref m7, .ref m8, .ref m9, .ref m10, .ref m11, .ref m12, .ref m13, .int 0, .int 0, .int 0, .int 0, .ref m14, .ref m15, .int 0, .int 0, .int 0, .int 0, .ref m16, .ref m17, .ref m18]))] := hD
        refine lv_if_ne (tgt := 55) hx hb d_Mo_first_50 (by decide) (fun c_50 => ?_) (fun c_50 => ?_)
        · exact absurd (by decide) c_50
        · refine lv_iconst (v := 0) hx hb d_Mo_first_53 (by decide) ?_
          have hP9 := hP.sub (ws' := [(h0, .inr (4, [.int 1, .int 0, .ref m1, .int (-1), .int 0, .int (nI 0), .ref m2, .ref m3, .ref m4, .ref m5, .ref m6, .ref m7, .ref m8, .ref m9, .ref m10, .ref m11, .ref m12, .ref m13, .int 0, .int 0, .int 0, .int 0, .ref m14, .ref m15, .int 0, .int 0, .int 0, .int 0, .ref m16, .ref m17, .ref m18]))]) [1] rfl
          have hD9 := hD.sub (ws' := [(h0, .inr (4, [.int 1, .int 0, .ref m1, .int (-1), .int 0, .int (nI 0), .ref m2, .ref m3, .ref m4, .ref m5, .ref m6, .ref m7, .ref m8, .ref m9, .ref m10, .ref m11, .ref m12, .ref m13, .int 0, .int 0, .int 0, .int 0, .ref m14, .ref m15, .int 0, .int 0, .int 0, .int 0, .ref m16, .ref m17, .ref m18]))]) [1] (by decide) rfl
          exact W.iret (v := 0) hx hb hr (fun t ht hW => ⟨⟨0, (), rfl, rfl, by rw [ht]; exact hP9, va_K.moved hW.alike hK, hD9⟩, hS.F ht⟩) hS.2.2 d_Mo_first_54
      · exact absurd (by decide) c_39
set_option maxHeartbeats 1000000 in
set_option maxRecDepth 100000 in
theorem c_Mo_word_0 (l : Launch) (dC : Nat → ClassId) (dI : Nat → Nat → Nat) (k : Nat → ClassId) (sz : Nat) (h0 : Nat) (m1 : Nat) (m2 : Nat) (m3 : Nat) (m4 : Nat) (m5 : Nat) (m6 : Nat) (m7 : Nat) (m8 : Nat) (m9 : Nat) (m10 : Nat) (m11 : Nat) (m12 : Nat) (m13 : Nat) (m14 : Nat) (m15 : Nat) (m16 : Nat) (m17 : Nat) (m18 : Nat) (x : Int32) (la : Int32) (ix : Int32) : Met l y_Mo_word (Cond.code y_Mo_word b_Mo_word 5 (some .int) :: z_T) (z_rm 1 0 0) (z_Pc dC dI k sz [.ref h0, .int x, .int la, .int ix] [(h0, .inr (4, [.int 0, .int 0, .ref m1, .int (-1), .int 0, .int (nI 0), .ref m2, .ref m3, .ref m4, .ref m5, .ref m6, .ref m7, .ref m8, .ref m9, .ref m10, .ref m11, .ref m12, .ref m13, .int 0, .int 0, .int 0, .int 0, .ref m14, .ref m15, .int 0, .int 0, .int 0, .int 0, .ref m16, .ref m17, .ref m18])), (m2, .inl (k 2, 610, .inl (fun _ => 0)))]) (va_Qi (fun (r : Int32) (u : Unit) => r = 0) (fun (u : Unit) t => z_B dC dI k (va_A [(h0, .inr (4, [.int 0, .int 0, .ref m1, .int (-1), .int 0, .int (nI 0), .ref m2, .ref m3, .ref m4, .ref m5, .ref m6, .ref m7, .ref m8, .ref m9, .ref m10, .ref m11, .ref m12, .ref m13, .int 0, .int 0, .int 0, .int 0, .ref m14, .ref m15, .int 0, .int 0, .int 0, .int 0, .ref m16, .ref m17, .ref m18])), (m2, .inl (k 2, 610, .inl (fun _ => 0)))] sz) [(h0, .inr (4, [.int 1, .int 0, .ref m1, .int (-1), .int 0, .int (nI 0), .ref m2, .ref m3, .ref m4, .ref m5, .ref m6, .ref m7, .ref m8, .ref m9, .ref m10, .ref m11, .ref m12, .ref m13, .int 0, .int 0, .int 0, .int 0, .ref m14, .ref m15, .int 0, .int 0, .int 0, .int 0, .ref m16, .ref m17, .ref m18]))] t) (va_A [(h0, .inr (4, [.int 0, .int 0, .ref m1, .int (-1), .int 0, .int (nI 0), .ref m2, .ref m3, .ref m4, .ref m5, .ref m6, .ref m7, .ref m8, .ref m9, .ref m10, .ref m11, .ref m12, .ref m13, .int 0, .int 0, .int 0, .int 0, .ref m14, .ref m15, .int 0, .int 0, .int 0, .int 0, .ref m16, .ref m17, .ref m18])), (m2, .inl (k 2, 610, .inl (fun _ => 0)))] sz)) 0 0 (va_A [(h0, .inr (4, [.int 0, .int 0, .ref m1, .int (-1), .int 0, .int (nI 0), .ref m2, .ref m3, .ref m4, .ref m5, .ref m6, .ref m7, .ref m8, .ref m9, .ref m10, .ref m11, .ref m12, .ref m13, .int 0, .int 0, .int 0, .int 0, .ref m14, .ref m15, .int 0, .int 0, .int 0, .int 0, .ref m16, .ref m17, .ref m18])), (m2, .inl (k 2, 610, .inl (fun _ => 0)))] sz) := by
  refine Met.ofW (cc := b_Mo_word) (maxL := 5) (ret := (some .int)) (by decide) rfl ?_
  intro p e s m args below meth c s₁ B hml hv
  obtain ⟨rfl, hsz, hE, hP, hK, hD0⟩ := hv
  have hx := B.exec
  have hb := B.bytes
  have hr := B.returns
  have hts := atoms_spec (ws := Cond.code y_Mo_word b_Mo_word 5 (some .int) :: z_T) B.pre
  have htz : ∀ w ∈ z_T, w.before _ s = true := fun w h => hts w (z_cons w h)
  have hown : s.vm.findClass "QuestionTextModel" = some m.cls := findClass_of_methodNamed B.named
  have hlocks := B.notSynchronized
  subst hsz
  have hD := hD0.self (sz := s.heap.size)
  generalize hAe : va_A [(h0, .inr (4, [.int 0, .int 0, .ref m1, .int (-1), .int 0, .int (nI 0), .ref m2, .ref m3, .ref m4, .ref m5, .ref m6, .ref m7, .ref m8, .ref m9, .ref m10, .ref m11, .ref m12, .ref m13, .int 0, .int 0, .int 0, .int 0, .ref m14, .ref m15, .int 0, .int 0, .int 0, .int 0, .ref m16, .ref m17, .ref m18])), (m2, .inl (k 2, 610, .inl (fun _ => 0)))] s.heap.size = A at hD hE ⊢
  have hA : ∀ q : Nat, s.heap.size ≤ q → A q := fun q h => by rw [← hAe]; exact Or.inr h
  have hS : va_S A s.heap s.heap [] := va_S.rf
  have hP : va_P (dC, dI) classes [(h0, .inr (4, [.int 0, .int 0, .ref m1, .int (-1), .int 0, .int (nI 0), .ref m2, .ref m3, .ref m4, .ref m5, .ref m6, .ref m7, .ref m8, .ref m9, .ref m10, .ref m11, .ref m12, .ref m13, .int 0, .int 0, .int 0, .int 0, .ref m14, .ref m15, .int 0, .int 0, .int 0, .int 0, .ref m16, .ref m17, .ref m18])), (m2, .inl (k 2, 610, .inl (fun _ => 0)))] s.heap := hP
  have hl := lv_entry ([.ref h0, .int x, .int la, .int ix]) (n := 5) (Nat.le_of_ble_eq_true rfl)
  rw [lg_entry_eq]
  generalize (lg_sl ([.ref h0, .int x, .int la, .int ix]) ++ List.replicate (5 - (lg_sl ([.ref h0, .int x, .int la, .int ix])).length) Slot.unset).toArray = ls at hl ⊢
  have hl : lv_has ls 5 [(0, .ref h0), (1, .int x), (2, .int la), (3, .int ix)] := hl
  refine lv_aload_n hx hb d_Mo_word_0 rfl (lv_at hl 0 rfl) ?_
  refine lv_iload_n hx hb d_Mo_word_1 rfl (lv_at hl 1 rfl) ?_
  refine lv_iconst (v := 1) hx hb d_Mo_word_2 (by decide) ?_
  refine lv_bipush (v := 60) hx hb d_Mo_word_3 (by decide) ?_
  have hPc := hP.sub (ws' := []) [] rfl
  have hDc := hD.sub (ws' := []) [] (by decide) rfl
  have hFc := va_free (wc := []) hD hS hA [] rfl
  refine va_calli (va_runS (As := [.int x, .int 1, .int 60]) (rest := [.ref h0]) ⟨hx, hb, hml, hown, htz⟩ (c_Mo_in l dC dI k s.heap.size x 1 60) (va_cwS 3 htz (z_gS (fun _ h => h) km_Mo_72 st_Mo_in ini_Mo m_Mo_in) rfl rfl rfl (by decide +kernel) ⟨(Nat.le_of_ble_eq_true rfl), (Nat.le_of_ble_eq_true rfl)⟩) ⟨z_blind, fun U hU hW => ⟨rfl, by rw [hU], hE.call hS hFc hU hW, by rw [hU]; exact hPc, va_K.moved hW.alike hK, hDc.weaken (fun _ _ _ _ => trivial)⟩⟩ rfl rfl hl.1 rfl (lv_room (Nat.le_of_ble_eq_true rfl)) d_Mo_word_5 ⟨(Nat.le_of_ble_eq_true rfl), (Nat.le_of_ble_eq_true rfl)⟩) hS (fun q _ h => hFc q h) hFc (fun r0 u t H1 locs ht hvm hw hB hz1 hk1 hS => ?_)
  obtain ⟨hP1, hK1, hD1⟩ := hB
  rw [ht] at hP1
  try dsimp only at hw
  obtain ⟨hP, hD⟩ := va_join (wr := [(h0, .inr (4, [.int 0, .int 0, .ref m1, .int (-1), .int 0, .int (nI 0), .ref m2, .ref m3, .ref m4, .ref m5, .ref m6, .ref m7, .ref m8, .ref m9, .ref m10, .ref m11, .ref m12, .ref m13, .int 0, .int 0, .int 0, .int 0, .ref m14, .ref m15, .int 0, .int 0, .int 0, .int 0, .ref m16, .ref m17, .ref m18])), (m2, .inl (k 2, 610, .inl (fun _ => 0)))]) (w1 := []) hP hD [] [0, 1] rfl rfl (by decide) (by decide) hk1 hFc hP1 hD1
  generalize H1 = H at hP hS ⊢
  have hP : va_P (dC, dI) classes [(h0, .inr (4, [.int 0, .int 0, .ref m1, .int (-1), .int 0, .int (nI 0), .ref m2, .ref m3, .ref m4, .ref m5, .ref m6, .ref m7, .ref m8, .ref m9, .ref m10, .ref m11, .ref m12, .ref m13, .int 0, .int 0, .int 0, .int 0, .ref m14, .ref m15, .int 0, .int 0, .int 0, .int 0, .ref m16, .ref m17, .ref m18])), (m2, .inl (k 2, 610, .inl (fun _ => 0)))] H := hP
  have hD : va_D A [(h0, .inr (4, [.int 0, .int 0, .ref m1, .int (-1), .int 0, .int (nI 0), .ref m2, .ref m3, .ref m4, .ref m5, .ref m6, .ref m7, .ref m8, .ref m9, .ref m10, .ref m11, .ref m12, .ref m13, .int 0, .int 0, .int 0, .int 0, .ref m14, .ref m15, .int 0, .int 0, .int 0, .int 0, .ref m16, .ref m17, .ref m18])), (m2, .inl (k 2, 610, .inl (fun _ => 0)))] := hD
  refine lv_if_eq (tgt := 50) hx hb d_Mo_word_8 (by decide) (fun c_8 => ?_) (fun c_8 => ?_)
  · refine lv_iconst (v := 0) hx hb d_Mo_word_50 (by decide) ?_
    have hPc := hP.sub (ws' := [(h0, .inr (4, [.int 0, .int 0, .ref m1, .int (-1), .int 0, .int (nI 0), .ref m2, .ref m3, .ref m4, .ref m5, .ref m6, .ref m7, .ref m8, .ref m9, .ref m10, .ref m11, .ref m12, .ref m13, .int 0, .int 0, .int 0, .int 0, .ref m14, .ref m15, .int 0, .int 0, .int 0, .int 0, .ref m16, .ref m17, .ref m18]))]) [0] rfl
    have hDc := hD.sub (ws' := [(h0, .inr (4, [.int 0, .int 0, .ref m1, .int (-1), .int 0, .int (nI 0), .ref m2, .ref m3, .ref m4, .ref m5, .ref m6, .ref m7, .ref m8, .ref m9, .ref m10, .ref m11, .ref m12, .ref m13, .int 0, .int 0, .int 0, .int 0, .ref m14, .ref m15, .int 0, .int 0, .int 0, .int 0, .ref m16, .ref m17, .ref m18]))]) [0] (by decide) rfl
    have hFc := va_free (wc := [(h0, .inr (4, [.int 0, .int 0, .ref m1, .int (-1), .int 0, .int (nI 0), .ref m2, .ref m3, .ref m4, .ref m5, .ref m6, .ref m7, .ref m8, .ref m9, .ref m10, .ref m11, .ref m12, .ref m13, .int 0, .int 0, .int 0, .int 0, .ref m14, .ref m15, .int 0, .int 0, .int 0, .int 0, .ref m16, .ref m17, .ref m18]))]) hD hS hA [0] rfl
    refine va_calli (va_runV (As := [.int 0]) (rest := []) ⟨hx, hb, hml, hown, htz⟩ (c_Mo_says l dC dI k H.size h0 m1 m2 m3 m4 m5 m6 m7 m8 m9 m10 m11 m12 m13 m14 m15 m16 m17 m18 0 0 (-1) 0 (nI 0) 0 0 0 0 0 0 0 0 0 (by decide)) (cwV 1 htz (z_gV (fun _ h => h) km_Mo_147 in_Mo_says se_Mo_says ini_Mo m_Mo_says) rfl rfl rfl (by decide +kernel) ⟨(Nat.le_of_ble_eq_true rfl), (Nat.le_of_ble_eq_true rfl)⟩) ⟨z_blind, va_recv hK hPc (ci := 4) (q0 := 0) rfl rfl, fun U hU hW => ⟨rfl, by rw [hU], hE.call hS hFc hU hW, by rw [hU]; exact hPc, va_K.moved hW.alike hK, hDc.weaken (fun _ _ _ _ => trivial)⟩⟩ rfl rfl hl.1 rfl (lv_room (Nat.le_of_ble_eq_true rfl)) d_Mo_word_51 ⟨(Nat.le_of_ble_eq_true rfl), (Nat.le_of_ble_eq_true rfl)⟩) hS (fun q _ h => hFc q h) hFc (fun r1 u t H1 locs ht hvm hw hB hz1 hk1 hS => ?_)
    obtain ⟨hP1, hK1, hD1⟩ := hB
    rw [ht] at hP1
    try dsimp only at hw
    obtain ⟨hP, hD⟩ := va_join (wr := [(m2, .inl (k 2, 610, .inl (fun _ => 0)))]) (w1 := [(h0, .inr (4, [.int (z_sa 0), .int 0, .ref m1, .int (-1), .int 0, .int (nI 0), .ref m2, .ref m3, .ref m4, .ref m5, .ref m6, .ref m7, .ref m8, .ref m9, .ref m10, .ref m11, .ref m12, .ref m13, .int 0, .int 0, .int 0, .int 0, .ref m14, .ref m15, .int 0, .int 0, .int 0, .int 0, .ref m16, .ref m17, .ref m18]))]) hP hD [0] [1] rfl rfl (by decide) (by decide) hk1 hFc hP1 hD1
    generalize H1 = H at hP hS ⊢
    have hP : va_P (dC, dI) classes [(m2, .inl (k 2, 610, .inl (fun _ => 0))), (h0, .inr (4, [.int (z_sa 0), .int 0, .ref m1, .int (-1), .int 0, .int (nI 0), .ref m2, .ref m3, .ref m4, .ref m5, .ref m6, .ref m7, .ref m8, .ref m9, .ref m10, .ref m11, .ref m12, .ref m13, .int 0, .int 0, .int 0, .int 0, .ref m14, .ref m15, .int 0, .int 0, .int 0, .int 0, .ref m16, .ref m17, .ref m18]))] H := hP
    have hD : va_D A [(m2, .inl (k 2, 610, .inl (fun _ => 0))), (h0, .inr (4, [.int (z_sa 0), .int 0, .ref m1, .int (-1), .int 0, .int (nI 0), .ref m2, .ref m3, .ref m4, .ref m5, .ref m6, .ref m7, .ref m8, .ref m9, .ref m10, .ref m11, .ref m12, .ref m13, .int 0, .int 0, .int 0, .int 0, .ref m14, .ref m15, .int 0, .int 0, .int 0, .int 0, .ref m16, .ref m17, .ref m18]))] := hD
    subst hw
    have hP : va_P (dC, dI) classes [(m2, .inl (k 2, 610, .inl (fun _ => 0))), (h0, .inr (4, [.int 1, .int 0, .ref m1, .int (-1), .int 0, .int (nI 0), .ref m2, .ref m3, .ref m4, .ref m5, .ref m6, .ref m7, .ref m8, .ref m9, .ref m10, .ref m11, .ref m12, .ref m13, .int 0, .int 0, .int 0, .int 0, .ref m14, .ref m15, .int 0, .int 0, .int 0, .int 0, .ref m16, .ref m17, .ref m18]))] H := hP
    have hD : va_D A [(m2, .inl (k 2, 610, .inl (fun _ => 0))), (h0, .inr (4, [.int 1, .int 0, .ref m1, .int (-1), .int 0, .int (nI 0), .ref m2, .ref m3, .ref m4, .ref m5, .ref m6, .ref m7, .ref m8, .ref m9, .ref m10, .ref m11, .ref m12, .ref m13, .int 0, .int 0, .int 0, .int 0, .ref m14, .ref m15, .int 0, .int 0, .int 0, .int 0, .ref m16, .ref m17, .ref m18]))] := hD
    refine lv_if_ne (tgt := 59) hx hb d_Mo_word_54 (by decide) (fun c_54 => ?_) (fun c_54 => ?_)
    · exact absurd (by decide) c_54
    · refine lv_iconst (v := 0) hx hb d_Mo_word_57 (by decide) ?_
      have hP9 := hP.sub (ws' := [(h0, .inr (4, [.int 1, .int 0, .ref m1, .int (-1), .int 0, .int (nI 0), .ref m2, .ref m3, .ref m4, .ref m5, .ref m6, .ref m7, .ref m8, .ref m9, .ref m10, .ref m11, .ref m12, .ref m13, .int 0, .int 0, .int 0, .int 0, .ref m14, .ref m15, .int 0, .int 0, .int 0, .int 0, .ref m16, .ref m17, .ref m18]))]) [1] rfl
      have hD9 := hD.sub (ws' := [(h0, .inr (4, [.int 1, .int 0, .ref m1, .int (-1), .int 0, .int (nI 0), .ref m2, .ref m3, .ref m4, .ref m5, .ref m6, .ref m7, .ref m8, .ref m9, .ref m10, .ref m11, .ref m12, .ref m13, .int 0, .int 0, .int 0, .int 0, .ref m14, .ref m15, .int 0, .int 0, .int 0, .int 0, .ref m16, .ref m17, .ref m18]))]) [1] (by decide) rfl
      exact W.iret (v := 0) hx hb hr (fun t ht hW => ⟨⟨0, (), rfl, rfl, by rw [ht]; exact hP9, va_K.moved hW.alike hK, hD9⟩, hS.F ht⟩) hS.2.2 d_Mo_word_58
  · have h7 := hw
    refine lv_aload_n hx hb d_Mo_word_11 rfl (lv_at hl 0 rfl) ?_
    refine lv_iload_n hx hb d_Mo_word_12 rfl (lv_at hl 1 rfl) ?_
    refine lv_iconst (v := 1) hx hb d_Mo_word_13 (by decide) ?_
    refine lv_bipush (v := 60) hx hb d_Mo_word_14 (by decide) ?_
    have hPc := hP.sub (ws' := []) [] rfl
    have hDc := hD.sub (ws' := []) [] (by decide) rfl
    have hFc := va_free (wc := []) hD hS hA [] rfl
    refine va_calli (va_runS (As := [.int x, .int 1, .int 60]) (rest := [.ref h0, .ref h0]) ⟨hx, hb, hml, hown, htz⟩ (c_Mo_in l dC dI k H.size x 1 60) (va_cwS 3 htz (z_gS (fun _ h => h) km_Mo_72 st_Mo_in ini_Mo m_Mo_in) rfl rfl rfl (by decide +kernel) ⟨(Nat.le_of_ble_eq_true rfl), (Nat.le_of_ble_eq_true rfl)⟩) ⟨z_blind, fun U hU hW => ⟨rfl, by rw [hU], hE.call hS hFc hU hW, by rw [hU]; exact hPc, va_K.moved hW.alike hK, hDc.weaken (fun _ _ _ _ => trivial)⟩⟩ rfl rfl hl.1 rfl (lv_room (Nat.le_of_ble_eq_true rfl)) d_Mo_word_16 ⟨(Nat.le_of_ble_eq_true rfl), (Nat.le_of_ble_eq_true rfl)⟩) hS (fun q _ h => hFc q h) hFc (fun r2 u t H1 locs ht hvm hw hB hz1 hk1 hS => ?_)
    obtain ⟨hP1, hK1, hD1⟩ := hB
    rw [ht] at hP1
    try dsimp only at hw
    obtain ⟨hP, hD⟩ := va_join (wr := [(h0, .inr (4, [.int 0, .int 0, .ref m1, .int (-1), .int 0, .int (nI 0), .ref m2, .ref m3, .ref m4, .ref m5, .ref m6, .ref m7, .ref m8, .ref m9, .ref m10, .ref m11, .ref m12, .ref m13, .int 0, .int 0, .int 0, .int 0, .ref m14, .ref m15, .int 0, .int 0, .int 0, .int 0, .ref m16, .ref m17, .ref m18])), (m2, .inl (k 2, 610, .inl (fun _ => 0)))]) (w1 := []) hP hD [] [0, 1] rfl rfl (by decide) (by decide) hk1 hFc hP1 hD1
    generalize H1 = H at hP hS ⊢
    have hP : va_P (dC, dI) classes [(h0, .inr (4, [.int 0, .int 0, .ref m1, .int (-1), .int 0, .int (nI 0), .ref m2, .ref m3, .ref m4, .ref m5, .ref m6, .ref m7, .ref m8, .ref m9, .ref m10, .ref m11, .ref m12, .ref m13, .int 0, .int 0, .int 0, .int 0, .ref m14, .ref m15, .int 0, .int 0, .int 0, .int 0, .ref m16, .ref m17, .ref m18])), (m2, .inl (k 2, 610, .inl (fun _ => 0)))] H := hP
    have hD : va_D A [(h0, .inr (4, [.int 0, .int 0, .ref m1, .int (-1), .int 0, .int (nI 0), .ref m2, .ref m3, .ref m4, .ref m5, .ref m6, .ref m7, .ref m8, .ref m9, .ref m10, .ref m11, .ref m12, .ref m13, .int 0, .int 0, .int 0, .int 0, .ref m14, .ref m15, .int 0, .int 0, .int 0, .int 0, .ref m16, .ref m17, .ref m18])), (m2, .inl (k 2, 610, .inl (fun _ => 0)))] := hD
    refine lv_if_eq (tgt := 26) hx hb d_Mo_word_19 (by decide) (fun c_19 => ?_) (fun c_19 => ?_)
    · exact absurd (h7.trans (hw.symm.trans c_19)) c_8
    · obtain ⟨hx0, hx1, hx2⟩ := z_inn_in (M := 61) (by rw [← h7]; exact c_8) (by decide) (by decide)
      obtain ⟨j, hj, rfl⟩ := z_ofI hx0 hx2
      refine lv_iload_n hx hb d_Mo_word_22 rfl (lv_at hl 1 rfl) ?_
      refine lv_goto (tgt := 27) hx hb d_Mo_word_23 (by decide) ?_
      have hPc := hP.sub (ws' := [(h0, .inr (4, [.int 0, .int 0, .ref m1, .int (-1), .int 0, .int (nI 0), .ref m2, .ref m3, .ref m4, .ref m5, .ref m6, .ref m7, .ref m8, .ref m9, .ref m10, .ref m11, .ref m12, .ref m13, .int 0, .int 0, .int 0, .int 0, .ref m14, .ref m15, .int 0, .int 0, .int 0, .int 0, .ref m16, .ref m17, .ref m18])), (m2, .inl (k 2, 610, .inl (fun _ => 0)))]) [0, 1] rfl
      have hDc := hD.sub (ws' := [(h0, .inr (4, [.int 0, .int 0, .ref m1, .int (-1), .int 0, .int (nI 0), .ref m2, .ref m3, .ref m4, .ref m5, .ref m6, .ref m7, .ref m8, .ref m9, .ref m10, .ref m11, .ref m12, .ref m13, .int 0, .int 0, .int 0, .int 0, .ref m14, .ref m15, .int 0, .int 0, .int 0, .int 0, .ref m16, .ref m17, .ref m18])), (m2, .inl (k 2, 610, .inl (fun _ => 0)))]) [0, 1] (by decide) rfl
      have hFc := va_free (wc := [(h0, .inr (4, [.int 0, .int 0, .ref m1, .int (-1), .int 0, .int (nI 0), .ref m2, .ref m3, .ref m4, .ref m5, .ref m6, .ref m7, .ref m8, .ref m9, .ref m10, .ref m11, .ref m12, .ref m13, .int 0, .int 0, .int 0, .int 0, .ref m14, .ref m15, .int 0, .int 0, .int 0, .int 0, .ref m16, .ref m17, .ref m18])), (m2, .inl (k 2, 610, .inl (fun _ => 0)))]) hD hS hA [0, 1] rfl
      refine va_calli (va_runV (As := [.int (nI j)]) (rest := [.ref h0]) ⟨hx, hb, hml, hown, htz⟩ (c_Mo_isThere_0 l dC dI k H.size h0 m1 m2 m3 m4 m5 m6 m7 m8 m9 m10 m11 m12 m13 m14 m15 m16 m17 m18 0 0 (-1) 0 0 0 0 0 0 0 0 0 0 (by decide) j hj) (cwV 1 htz (z_gV (fun _ h => h) km_Mo_151 in_Mo_isThere se_Mo_isThere ini_Mo m_Mo_isThere) rfl rfl rfl (by decide +kernel) ⟨(Nat.le_of_ble_eq_true rfl), (Nat.le_of_ble_eq_true rfl)⟩) ⟨z_blind, va_recv hK hPc (ci := 4) (q0 := 0) rfl rfl, fun U hU hW => ⟨rfl, by rw [hU], hE.call hS hFc hU hW, by rw [hU]; exact hPc, va_K.moved hW.alike hK, hDc.weaken (fun _ _ _ _ => trivial)⟩⟩ rfl rfl hl.1 rfl (lv_room (Nat.le_of_ble_eq_true rfl)) d_Mo_word_27 ⟨(Nat.le_of_ble_eq_true rfl), (Nat.le_of_ble_eq_true rfl)⟩) hS (fun q _ h => hFc q h) hFc (fun r3 u t H1 locs ht hvm hw hB hz1 hk1 hS => ?_)
      obtain ⟨hP1, hK1, hD1⟩ := hB
      rw [ht] at hP1
      try dsimp only at hw
      obtain ⟨hP, hD⟩ := va_join (wr := []) (w1 := [(h0, .inr (4, [.int 0, .int 0, .ref m1, .int (-1), .int 0, .int (nI 0), .ref m2, .ref m3, .ref m4, .ref m5, .ref m6, .ref m7, .ref m8, .ref m9, .ref m10, .ref m11, .ref m12, .ref m13, .int 0, .int 0, .int 0, .int 0, .ref m14, .ref m15, .int 0, .int 0, .int 0, .int 0, .ref m16, .ref m17, .ref m18])), (m2, .inl (k 2, 610, .inl (fun _ => 0)))]) hP hD [0, 1] [] rfl rfl (by decide) (by decide) hk1 hFc hP1 hD1
      generalize H1 = H at hP hS ⊢
      have hP : va_P (dC, dI) classes [(h0, .inr (4, [.int 0, .int 0, .ref m1, .int (-1), .int 0, .int (nI 0), .ref m2, .ref m3, .ref m4, .ref m5, .ref m6, .ref m7, .ref m8, .ref m9, .ref m10, .ref m11, .ref m12, .ref m13, .int 0, .int 0, .int 0, .int 0, .ref m14, .ref m15, .int 0, .int 0, .int 0, .int 0, .ref m16, .ref m17, .ref m18])), (m2, .inl (k 2, 610, .inl (fun _ => 0)))] H := hP
      have hD : va_D A [(h0, .inr (4, [.int 0, .int 0, .ref m1, .int (-1), .int 0, .int (nI 0), .ref m2, .ref m3, .ref m4, .ref m5, .ref m6, .ref m7, .ref m8, .ref m9, .ref m10, .ref m11, .ref m12, .ref m13, .int 0, .int 0, .int 0, .int 0, .ref m14, .ref m15, .int 0, .int 0, .int 0, .int 0, .ref m16, .ref m17, .ref m18])), (m2, .inl (k 2, 610, .inl (fun _ => 0)))] := hD
      subst hw
      refine lv_if_eq (tgt := 50) hx hb d_Mo_word_30 (by decide) (fun c_30 => ?_) (fun c_30 => ?_)
      · refine lv_iconst (v := 0) hx hb d_Mo_word_50 (by decide) ?_
        have hPc := hP.sub (ws' := [(h0, .inr (4, [.int 0, .int 0, .ref m1, .int (-1), .int 0, .int (nI 0), .ref m2, .ref m3, .ref m4, .ref m5, .ref m6, .ref m7, .ref m8, .ref m9, .ref m10, .ref m11, .ref m12, .ref m13, .int 0, .int 0, .int 0, .int 0, .ref m14, .ref m15, .int 0, .int 0, .int 0, .int 0, .ref m16, .ref m17, .ref m18]))]) [0] rfl
        have hDc := hD.sub (ws' := [(h0, .inr (4, [.int 0, .int 0, .ref m1, .int (-1), .int 0, .int (nI 0), .ref m2, .ref m3, .ref m4, .ref m5, .ref m6, .ref m7, .ref m8, .ref m9, .ref m10, .ref m11, .ref m12, .ref m13, .int 0, .int 0, .int 0, .int 0, .ref m14, .ref m15, .int 0, .int 0, .int 0, .int 0, .ref m16, .ref m17, .ref m18]))]) [0] (by decide) rfl
        have hFc := va_free (wc := [(h0, .inr (4, [.int 0, .int 0, .ref m1, .int (-1), .int 0, .int (nI 0), .ref m2, .ref m3, .ref m4, .ref m5, .ref m6, .ref m7, .ref m8, .ref m9, .ref m10, .ref m11, .ref m12, .ref m13, .int 0, .int 0, .int 0, .int 0, .ref m14, .ref m15, .int 0, .int 0, .int 0, .int 0, .ref m16, .ref m17, .ref m18]))]) hD hS hA [0] rfl
        refine va_calli (va_runV (As := [.int 0]) (rest := []) ⟨hx, hb, hml, hown, htz⟩ (c_Mo_says l dC dI k H.size h0 m1 m2 m3 m4 m5 m6 m7 m8 m9 m10 m11 m12 m13 m14 m15 m16 m17 m18 0 0 (-1) 0 (nI 0) 0 0 0 0 0 0 0 0 0 (by decide)) (cwV 1 htz (z_gV (fun _ h => h) km_Mo_147 in_Mo_says se_Mo_says ini_Mo m_Mo_says) rfl rfl rfl (by decide +kernel) ⟨(Nat.le_of_ble_eq_true rfl), (Nat.le_of_ble_eq_true rfl)⟩) ⟨z_blind, va_recv hK hPc (ci := 4) (q0 := 0) rfl rfl, fun U hU hW => ⟨rfl, by rw [hU], hE.call hS hFc hU hW, by rw [hU]; exact hPc, va_K.moved hW.alike hK, hDc.weaken (fun _ _ _ _ => trivial)⟩⟩ rfl rfl hl.1 rfl (lv_room (Nat.le_of_ble_eq_true rfl)) d_Mo_word_51 ⟨(Nat.le_of_ble_eq_true rfl), (Nat.le_of_ble_eq_true rfl)⟩) hS (fun q _ h => hFc q h) hFc (fun r1 u t H1 locs ht hvm hw hB hz1 hk1 hS => ?_)
        obtain ⟨hP1, hK1, hD1⟩ := hB
        rw [ht] at hP1
        try dsimp only at hw
        obtain ⟨hP, hD⟩ := va_join (wr := [(m2, .inl (k 2, 610, .inl (fun _ => 0)))]) (w1 := [(h0, .inr (4, [.int (z_sa 0), .int 0, .ref m1, .int (-1), .int 0, .int (nI 0), .ref m2, .ref m3, .ref m4, .ref m5, .ref m6, .ref m7, .ref m8, .ref m9, .ref m10, .ref m11, .ref m12, .ref m13, .int 0, .int 0, .int 0, .int 0, .ref m14, .ref m15, .int 0, .int 0, .int 0, .int 0, .ref m16, .ref m17, .ref m18]))]) hP hD [0] [1] rfl rfl (by decide) (by decide) hk1 hFc hP1 hD1
        generalize H1 = H at hP hS ⊢
        have hP : va_P (dC, dI) classes [(m2, .inl (k 2, 610, .inl (fun _ => 0))), (h0, .inr (4, [.int (z_sa 0), .int 0, .ref m1, .int (-1), .int 0, .int (nI 0), .ref m2, .ref m3, .ref m4, .ref m5, .ref m6, .ref m7, .ref m8, .ref m9, .ref m10, .ref m11, .ref m12, .ref m13, .int 0, .int 0, .int 0, .int 0, .ref m14, .ref m15, .int 0, .int 0, .int 0, .int 0, .ref m16, .ref m17, .ref m18]))] H := hP
        have hD : va_D A [(m2, .inl (k 2, 610, .inl (fun _ => 0))), (h0, .inr (4, [.int (z_sa 0), .int 0, .ref m1, .int (-1), .int 0, .int (nI 0), .ref m2, .ref m3, .ref m4, .ref m5, .ref m6, .ref m7, .ref m8, .ref m9, .ref m10, .ref m11, .ref m12, .ref m13, .int 0, .int 0, .int 0, .int 0, .ref m14, .ref m15, .int 0, .int 0, .int 0, .int 0, .ref m16, .ref m17, .ref m18]))] := hD
        subst hw
        have hP : va_P (dC, dI) classes [(m2, .inl (k 2, 610, .inl (fun _ => 0))), (h0, .inr (4, [.int 1, .int 0, .ref m1, .int (-1), .int 0, .int (nI 0), .ref m2, .ref m3, .ref m4, .ref m5, .ref m6, .ref m7, .ref m8, .ref m9, .ref m10, .ref m11, .ref m12, .ref m13, .int 0, .int 0, .int 0, .int 0, .ref m14, .ref m15, .int 0, .int 0, .int 0, .int 0, .ref m16, .ref m17, .ref m18]))] H := hP
        have hD : va_D A [(m2, .inl (k 2, 610, .inl (fun _ => 0))), (h0, .inr (4, [.int 1, .int 0, .ref m1, .int (-1), .int 0, .int (nI 0), .ref m2, .ref m3, .ref m4, .ref m5, .ref m6, .ref m7, .ref m8, .ref m9, .ref m10, .ref m11, .ref m12, .ref m13, .int 0, .int 0, .int 0, .int 0, .ref m14, .ref m15, .int 0, .int 0, .int 0, .int 0, .ref m16, .ref m17, .ref m18]))] := hD
        refine lv_if_ne (tgt := 59) hx hb d_Mo_word_54 (by decide) (fun c_54 => ?_) (fun c_54 => ?_)
        · exact absurd (by decide) c_54
        · refine lv_iconst (v := 0) hx hb d_Mo_word_57 (by decide) ?_
          have hP9 := hP.sub (ws' := [(h0, .inr (4, [.int 1, .int 0, .ref m1, .int (-1), .int 0, .int (nI 0), .ref m2, .ref m3, .ref m4, .ref m5, .ref m6, .ref m7, .ref m8, .ref m9, .ref m10, .ref m11, .ref m12, .ref m13, .int 0, .int 0, .int 0, .int 0, .ref m14, .ref m15, .int 0, .int 0, .int 0, .int 0, .ref m16, .ref m17, .ref m18]))]) [1] rfl
          have hD9 := hD.sub (ws' := [(h0, .inr (4, [.int 1, .int 0, .ref m1, .int (-1), .int 0, .int (nI 0), .ref m2, .ref m3, .ref m4, .ref m5, .ref m6, .ref m7, .ref m8, .ref m9, .ref m10, .ref m11, .ref m12, .ref m13, .int 0, .int 0, .int 0, .int 0, .ref m14, .ref m15, .int 0, .int 0, .int 0, .int 0, .ref m16, .ref m17, .ref m18]))]) [1] (by decide) rfl
          exact W.iret (v := 0) hx hb hr (fun t ht hW => ⟨⟨0, (), rfl, rfl, by rw [ht]; exact hP9, va_K.moved hW.alike hK, hD9⟩, hS.F ht⟩) hS.2.2 d_Mo_word_58
      · exact absurd (by decide) c_30
set_option maxHeartbeats 1000000 in
set_option maxRecDepth 100000 in
theorem c_Mo_loop_0 (l : Launch) (dC : Nat → ClassId) (dI : Nat → Nat → Nat) (k : Nat → ClassId) (sz : Nat) (h0 : Nat) (m1 : Nat) (m2 : Nat) (m3 : Nat) (m4 : Nat) (m5 : Nat) (m6 : Nat) (m7 : Nat) (m8 : Nat) (m9 : Nat) (m10 : Nat) (m11 : Nat) (m12 : Nat) (m13 : Nat) (m14 : Nat) (m15 : Nat) (m16 : Nat) (m17 : Nat) (m18 : Nat) (x : Int32) : Met l y_Mo_loop (Cond.code y_Mo_loop b_Mo_loop 4 (some .int) :: z_T) (z_rm 1 0 0) (z_Pc dC dI k sz [.ref h0, .int x] [(h0, .inr (4, [.int 0, .int 0, .ref m1, .int (-1), .int 0, .int (nI 0), .ref m2, .ref m3, .ref m4, .ref m5, .ref m6, .ref m7, .ref m8, .ref m9, .ref m10, .ref m11, .ref m12, .ref m13, .int 0, .int 0, .int 0, .int 0, .ref m14, .ref m15, .int 0, .int 0, .int 0, .int 0, .ref m16, .ref m17, .ref m18])), (m2, .inl (k 2, 610, .inl (fun _ => 0)))]) (va_Qi (fun (r : Int32) (u : Int32) => r = 0 ∧ ((0 ≤ x ∧ u = 0) ∨ (¬ 0 ≤ x ∧ u = 1))) (fun (u : Int32) t => z_B dC dI k (va_A [(h0, .inr (4, [.int 0, .int 0, .ref m1, .int (-1), .int 0, .int (nI 0), .ref m2, .ref m3, .ref m4, .ref m5, .ref m6, .ref m7, .ref m8, .ref m9, .ref m10, .ref m11, .ref m12, .ref m13, .int 0, .int 0, .int 0, .int 0, .ref m14, .ref m15, .int 0, .int 0, .int 0, .int 0, .ref m16, .ref m17, .ref m18])), (m2, .inl (k 2, 610, .inl (fun _ => 0)))] sz) [(h0, .inr (4, [.int u, .int 0, .ref m1, .int (-1), .int 0, .int (nI 0), .ref m2, .ref m3, .ref m4, .ref m5, .ref m6, .ref m7, .ref m8, .ref m9, .ref m10, .ref m11, .ref m12, .ref m13, .int 0, .int 0, .int 0, .int 0, .ref m14, .ref m15, .int 0, .int 0, .int 0, .int 0, .ref m16, .ref m17, .ref m18]))] t) (va_A [(h0, .inr (4, [.int 0, .int 0, .ref m1, .int (-1), .int 0, .int (nI 0), .ref m2, .ref m3, .ref m4, .ref m5, .ref m6, .ref m7, .ref m8, .ref m9, .ref m10, .ref m11, .ref m12, .ref m13, .int 0, .int 0, .int 0, .int 0, .ref m14, .ref m15, .int 0, .int 0, .int 0, .int 0, .ref m16, .ref m17, .ref m18])), (m2, .inl (k 2, 610, .inl (fun _ => 0)))] sz)) 0 0 (va_A [(h0, .inr (4, [.int 0, .int 0, .ref m1, .int (-1), .int 0, .int (nI 0), .ref m2, .ref m3, .ref m4, .ref m5, .ref m6, .ref m7, .ref m8, .ref m9, .ref m10, .ref m11, .ref m12, .ref m13, .int 0, .int 0, .int 0, .int 0, .ref m14, .ref m15, .int 0, .int 0, .int 0, .int 0, .ref m16, .ref m17, .ref m18])), (m2, .inl (k 2, 610, .inl (fun _ => 0)))] sz) := by
  refine Met.ofW (cc := b_Mo_loop) (maxL := 4) (ret := (some .int)) (by decide) rfl ?_
  intro p e s m args below meth c s₁ B hml hv
  obtain ⟨rfl, hsz, hE, hP, hK, hD0⟩ := hv
  have hx := B.exec
  have hb := B.bytes
  have hr := B.returns
  have hts := atoms_spec (ws := Cond.code y_Mo_loop b_Mo_loop 4 (some .int) :: z_T) B.pre
  have htz : ∀ w ∈ z_T, w.before _ s = true := fun w h => hts w (z_cons w h)
  have hown : s.vm.findClass "QuestionTextModel" = some m.cls := findClass_of_methodNamed B.named
  have hlocks := B.notSynchronized
  subst hsz
  have hD := hD0.self (sz := s.heap.size)
  generalize hAe : va_A [(h0, .inr (4, [.int 0, .int 0, .ref m1, .int (-1), .int 0, .int (nI 0), .ref m2, .ref m3, .ref m4, .ref m5, .ref m6, .ref m7, .ref m8, .ref m9, .ref m10, .ref m11, .ref m12, .ref m13, .int 0, .int 0, .int 0, .int 0, .ref m14, .ref m15, .int 0, .int 0, .int 0, .int 0, .ref m16, .ref m17, .ref m18])), (m2, .inl (k 2, 610, .inl (fun _ => 0)))] s.heap.size = A at hD hE ⊢
  have hA : ∀ q : Nat, s.heap.size ≤ q → A q := fun q h => by rw [← hAe]; exact Or.inr h
  have hS : va_S A s.heap s.heap [] := va_S.rf
  have hP : va_P (dC, dI) classes [(h0, .inr (4, [.int 0, .int 0, .ref m1, .int (-1), .int 0, .int (nI 0), .ref m2, .ref m3, .ref m4, .ref m5, .ref m6, .ref m7, .ref m8, .ref m9, .ref m10, .ref m11, .ref m12, .ref m13, .int 0, .int 0, .int 0, .int 0, .ref m14, .ref m15, .int 0, .int 0, .int 0, .int 0, .ref m16, .ref m17, .ref m18])), (m2, .inl (k 2, 610, .inl (fun _ => 0)))] s.heap := hP
  have hl := lv_entry ([.ref h0, .int x]) (n := 4) (Nat.le_of_ble_eq_true rfl)
  rw [lg_entry_eq]
  generalize (lg_sl ([.ref h0, .int x]) ++ List.replicate (4 - (lg_sl ([.ref h0, .int x])).length) Slot.unset).toArray = ls at hl ⊢
  have hl : lv_has ls 4 [(0, .ref h0), (1, .int x)] := hl
  refine lv_aload_n hx hb d_Mo_loop_0 rfl (lv_at hl 0 rfl) ?_
  refine lv_iload_n hx hb d_Mo_loop_1 rfl (lv_at hl 1 rfl) ?_
  refine lv_if_lt (tgt := 9) hx hb d_Mo_loop_2 (by decide) (fun c_2 => ?_) (fun c_2 => ?_)
  · refine lv_iconst (v := 0) hx hb d_Mo_loop_9 (by decide) ?_
    have hPc := hP.sub (ws' := [(h0, .inr (4, [.int 0, .int 0, .ref m1, .int (-1), .int 0, .int (nI 0), .ref m2, .ref m3, .ref m4, .ref m5, .ref m6, .ref m7, .ref m8, .ref m9, .ref m10, .ref m11, .ref m12, .ref m13, .int 0, .int 0, .int 0, .int 0, .ref m14, .ref m15, .int 0, .int 0, .int 0, .int 0, .ref m16, .ref m17, .ref m18]))]) [0] rfl
    have hDc := hD.sub (ws' := [(h0, .inr (4, [.int 0, .int 0, .ref m1, .int (-1), .int 0, .int (nI 0), .ref m2, .ref m3, .ref m4, .ref m5, .ref m6, .ref m7, .ref m8, .ref m9, .ref m10, .ref m11, .ref m12, .ref m13, .int 0, .int 0, .int 0, .int 0, .ref m14, .ref m15, .int 0, .int 0, .int 0, .int 0, .ref m16, .ref m17, .ref m18]))]) [0] (by decide) rfl
    have hFc := va_free (wc := [(h0, .inr (4, [.int 0, .int 0, .ref m1, .int (-1), .int 0, .int (nI 0), .ref m2, .ref m3, .ref m4, .ref m5, .ref m6, .ref m7, .ref m8, .ref m9, .ref m10, .ref m11, .ref m12, .ref m13, .int 0, .int 0, .int 0, .int 0, .ref m14, .ref m15, .int 0, .int 0, .int 0, .int 0, .ref m16, .ref m17, .ref m18]))]) hD hS hA [0] rfl
    refine va_calli (va_runV (As := [.int 0]) (rest := []) ⟨hx, hb, hml, hown, htz⟩ (c_Mo_says l dC dI k s.heap.size h0 m1 m2 m3 m4 m5 m6 m7 m8 m9 m10 m11 m12 m13 m14 m15 m16 m17 m18 0 0 (-1) 0 (nI 0) 0 0 0 0 0 0 0 0 0 (by decide)) (cwV 1 htz (z_gV (fun _ h => h) km_Mo_147 in_Mo_says se_Mo_says ini_Mo m_Mo_says) rfl rfl rfl (by decide +kernel) ⟨(Nat.le_of_ble_eq_true rfl), (Nat.le_of_ble_eq_true rfl)⟩) ⟨z_blind, va_recv hK hPc (ci := 4) (q0 := 0) rfl rfl, fun U hU hW => ⟨rfl, by rw [hU], hE.call hS hFc hU hW, by rw [hU]; exact hPc, va_K.moved hW.alike hK, hDc.weaken (fun _ _ _ _ => trivial)⟩⟩ rfl rfl hl.1 rfl (lv_room (Nat.le_of_ble_eq_true rfl)) d_Mo_loop_10 ⟨(Nat.le_of_ble_eq_true rfl), (Nat.le_of_ble_eq_true rfl)⟩) hS (fun q _ h => hFc q h) hFc (fun r1 u t H1 locs ht hvm hw hB hz1 hk1 hS => ?_)
    obtain ⟨hP1, hK1, hD1⟩ := hB
    rw [ht] at hP1
    try dsimp only at hw
    obtain ⟨hP, hD⟩ := va_join (wr := [(m2, .inl (k 2, 610, .inl (fun _ => 0)))]) (w1 := [(h0, .inr (4, [.int (z_sa 0), .int 0, .ref m1, .int (-1), .int 0, .int (nI 0), .ref m2, .ref m3, .ref m4, .ref m5, .ref m6, .ref m7, .ref m8, .ref m9, .ref m10, .ref m11, .ref m12, .ref m13, .int 0, .int 0, .int 0, .int 0, .ref m14, .ref m15, .int 0, .int 0, .int 0, .int 0, .ref m16, .ref m17, .ref m18]))]) hP hD [0] [1] rfl rfl (by decide) (by decide) hk1 hFc hP1 hD1
    generalize H1 = H at hP hS ⊢
    have hP : va_P (dC, dI) classes [(m2, .inl (k 2, 610, .inl (fun _ => 0))), (h0, .inr (4, [.int (z_sa 0), .int 0, .ref m1, .int (-1), .int 0, .int (nI 0), .ref m2, .ref m3, .ref m4, .ref m5, .ref m6, .ref m7, .ref m8, .ref m9, .ref m10, .ref m11, .ref m12, .ref m13, .int 0, .int 0, .int 0, .int 0, .ref m14, .ref m15, .int 0, .int 0, .int 0, .int 0, .ref m16, .ref m17, .ref m18]))] H := hP
    have hD : va_D A [(m2, .inl (k 2, 610, .inl (fun _ => 0))), (h0, .inr (4, [.int (z_sa 0), .int 0, .ref m1, .int (-1), .int 0, .int (nI 0), .ref m2, .ref m3, .ref m4, .ref m5, .ref m6, .ref m7, .ref m8, .ref m9, .ref m10, .ref m11, .ref m12, .ref m13, .int 0, .int 0, .int 0, .int 0, .ref m14, .ref m15, .int 0, .int 0, .int 0, .int 0, .ref m16, .ref m17, .ref m18]))] := hD
    subst hw
    have hP : va_P (dC, dI) classes [(m2, .inl (k 2, 610, .inl (fun _ => 0))), (h0, .inr (4, [.int 1, .int 0, .ref m1, .int (-1), .int 0, .int (nI 0), .ref m2, .ref m3, .ref m4, .ref m5, .ref m6, .ref m7, .ref m8, .ref m9, .ref m10, .ref m11, .ref m12, .ref m13, .int 0, .int 0, .int 0, .int 0, .ref m14, .ref m15, .int 0, .int 0, .int 0, .int 0, .ref m16, .ref m17, .ref m18]))] H := hP
    have hD : va_D A [(m2, .inl (k 2, 610, .inl (fun _ => 0))), (h0, .inr (4, [.int 1, .int 0, .ref m1, .int (-1), .int 0, .int (nI 0), .ref m2, .ref m3, .ref m4, .ref m5, .ref m6, .ref m7, .ref m8, .ref m9, .ref m10, .ref m11, .ref m12, .ref m13, .int 0, .int 0, .int 0, .int 0, .ref m14, .ref m15, .int 0, .int 0, .int 0, .int 0, .ref m16, .ref m17, .ref m18]))] := hD
    refine lv_if_ne (tgt := 18) hx hb d_Mo_loop_13 (by decide) (fun c_13 => ?_) (fun c_13 => ?_)
    · exact absurd (by decide) c_13
    · refine lv_iconst (v := 0) hx hb d_Mo_loop_16 (by decide) ?_
      have hP9 := hP.sub (ws' := [(h0, .inr (4, [.int 1, .int 0, .ref m1, .int (-1), .int 0, .int (nI 0), .ref m2, .ref m3, .ref m4, .ref m5, .ref m6, .ref m7, .ref m8, .ref m9, .ref m10, .ref m11, .ref m12, .ref m13, .int 0, .int 0, .int 0, .int 0, .ref m14, .ref m15, .int 0, .int 0, .int 0, .int 0, .ref m16, .ref m17, .ref m18]))]) [1] rfl
      have hD9 := hD.sub (ws' := [(h0, .inr (4, [.int 1, .int 0, .ref m1, .int (-1), .int 0, .int (nI 0), .ref m2, .ref m3, .ref m4, .ref m5, .ref m6, .ref m7, .ref m8, .ref m9, .ref m10, .ref m11, .ref m12, .ref m13, .int 0, .int 0, .int 0, .int 0, .ref m14, .ref m15, .int 0, .int 0, .int 0, .int 0, .ref m16, .ref m17, .ref m18]))]) [1] (by decide) rfl
      exact W.iret (v := 0) hx hb hr (fun t ht hW => ⟨⟨0, 1, rfl, ⟨rfl, Or.inr ⟨z_nle c_2, rfl⟩⟩, by rw [ht]; exact hP9, va_K.moved hW.alike hK, hD9⟩, hS.F ht⟩) hS.2.2 d_Mo_loop_17
  · refine lv_iconst (v := 1) hx hb d_Mo_loop_5 (by decide) ?_
    refine lv_goto (tgt := 10) hx hb d_Mo_loop_6 (by decide) ?_
    have hPc := hP.sub (ws' := [(h0, .inr (4, [.int 0, .int 0, .ref m1, .int (-1), .int 0, .int (nI 0), .ref m2, .ref m3, .ref m4, .ref m5, .ref m6, .ref m7, .ref m8, .ref m9, .ref m10, .ref m11, .ref m12, .ref m13, .int 0, .int 0, .int 0, .int 0, .ref m14, .ref m15, .int 0, .int 0, .int 0, .int 0, .ref m16, .ref m17, .ref m18]))]) [0] rfl
    have hDc := hD.sub (ws' := [(h0, .inr (4, [.int 0, .int 0, .ref m1, .int (-1), .int 0, .int (nI 0), .ref m2, .ref m3, .ref m4, .ref m5, .ref m6, .ref m7, .ref m8, .ref m9, .ref m10, .ref m11, .ref m12, .ref m13, .int 0, .int 0, .int 0, .int 0, .ref m14, .ref m15, .int 0, .int 0, .int 0, .int 0, .ref m16, .ref m17, .ref m18]))]) [0] (by decide) rfl
    have hFc := va_free (wc := [(h0, .inr (4, [.int 0, .int 0, .ref m1, .int (-1), .int 0, .int (nI 0), .ref m2, .ref m3, .ref m4, .ref m5, .ref m6, .ref m7, .ref m8, .ref m9, .ref m10, .ref m11, .ref m12, .ref m13, .int 0, .int 0, .int 0, .int 0, .ref m14, .ref m15, .int 0, .int 0, .int 0, .int 0, .ref m16, .ref m17, .ref m18]))]) hD hS hA [0] rfl
    refine va_calli (va_runV (As := [.int 1]) (rest := []) ⟨hx, hb, hml, hown, htz⟩ (c_Mo_says l dC dI k s.heap.size h0 m1 m2 m3 m4 m5 m6 m7 m8 m9 m10 m11 m12 m13 m14 m15 m16 m17 m18 0 0 (-1) 0 (nI 0) 0 0 0 0 0 0 0 0 1 (by decide)) (cwV 1 htz (z_gV (fun _ h => h) km_Mo_147 in_Mo_says se_Mo_says ini_Mo m_Mo_says) rfl rfl rfl (by decide +kernel) ⟨(Nat.le_of_ble_eq_true rfl), (Nat.le_of_ble_eq_true rfl)⟩) ⟨z_blind, va_recv hK hPc (ci := 4) (q0 := 0) rfl rfl, fun U hU hW => ⟨rfl, by rw [hU], hE.call hS hFc hU hW, by rw [hU]; exact hPc, va_K.moved hW.alike hK, hDc.weaken (fun _ _ _ _ => trivial)⟩⟩ rfl rfl hl.1 rfl (lv_room (Nat.le_of_ble_eq_true rfl)) d_Mo_loop_10 ⟨(Nat.le_of_ble_eq_true rfl), (Nat.le_of_ble_eq_true rfl)⟩) hS (fun q _ h => hFc q h) hFc (fun r1 u t H1 locs ht hvm hw hB hz1 hk1 hS => ?_)
    obtain ⟨hP1, hK1, hD1⟩ := hB
    rw [ht] at hP1
    try dsimp only at hw
    obtain ⟨hP, hD⟩ := va_join (wr := [(m2, .inl (k 2, 610, .inl (fun _ => 0)))]) (w1 := [(h0, .inr (4, [.int (z_sa 1), .int 0, .ref m1, .int (-1), .int 0, .int (nI 0), .ref m2, .ref m3, .ref m4, .ref m5, .ref m6, .ref m7, .ref m8, .ref m9, .ref m10, .ref m11, .ref m12, .ref m13, .int 0, .int 0, .int 0, .int 0, .ref m14, .ref m15, .int 0, .int 0, .int 0, .int 0, .ref m16, .ref m17, .ref m18]))]) hP hD [0] [1] rfl rfl (by decide) (by decide) hk1 hFc hP1 hD1
    generalize H1 = H at hP hS ⊢
    have hP : va_P (dC, dI) classes [(m2, .inl (k 2, 610, .inl (fun _ => 0))), (h0, .inr (4, [.int (z_sa 1), .int 0, .ref m1, .int (-1), .int 0, .int (nI 0), .ref m2, .ref m3, .ref m4, .ref m5, .ref m6, .ref m7, .ref m8, .ref m9, .ref m10, .ref m11, .ref m12, .ref m13, .int 0, .int 0, .int 0, .int 0, .ref m14, .ref m15, .int 0, .int 0, .int 0, .int 0, .ref m16, .ref m17, .ref m18]))] H := hP
    have hD : va_D A [(m2, .inl (k 2, 610, .inl (fun _ => 0))), (h0, .inr (4, [.int (z_sa 1), .int 0, .ref m1, .int (-1), .int 0, .int (nI 0), .ref m2, .ref m3, .ref m4, .ref m5, .ref m6, .ref m7, .ref m8, .ref m9, .ref m10, .ref m11, .ref m12, .ref m13, .int 0, .int 0, .int 0, .int 0, .ref m14, .ref m15, .int 0, .int 0, .int 0, .int 0, .ref m16, .ref m17, .ref m18]))] := hD
    subst hw
    have hP : va_P (dC, dI) classes [(m2, .inl (k 2, 610, .inl (fun _ => 0))), (h0, .inr (4, [.int 0, .int 0, .ref m1, .int (-1), .int 0, .int (nI 0), .ref m2, .ref m3, .ref m4, .ref m5, .ref m6, .ref m7, .ref m8, .ref m9, .ref m10, .ref m11, .ref m12, .ref m13, .int 0, .int 0, .int 0, .int 0, .ref m14, .ref m15, .int 0, .int 0, .int 0, .int 0, .ref m16, .ref m17, .ref m18]))] H := hP
    have hD : va_D A [(m2, .inl (k 2, 610, .inl (fun _ => 0))), (h0, .inr (4, [.int 0, .int 0, .ref m1, .int (-1), .int 0, .int (nI 0), .ref m2, .ref m3, .ref m4, .ref m5, .ref m6, .ref m7, .ref m8, .ref m9, .ref m10, .ref m11, .ref m12, .ref m13, .int 0, .int 0, .int 0, .int 0, .ref m14, .ref m15, .int 0, .int 0, .int 0, .int 0, .ref m16, .ref m17, .ref m18]))] := hD
    refine lv_if_ne (tgt := 18) hx hb d_Mo_loop_13 (by decide) (fun c_13 => ?_) (fun c_13 => ?_)
    · refine lv_iload_n hx hb d_Mo_loop_18 rfl (lv_at hl 1 rfl) ?_
      refine lv_istore_n (lv' := [(2, .int x), (0, .ref h0), (1, .int x)]) hx hb d_Mo_loop_19 rfl hl (by decide) rfl (fun ls hl => ?_)
      refine lv_iconst (v := 1) hx hb d_Mo_loop_20 (by decide) ?_
      refine lv_istore_n (lv' := [(3, .int 1), (2, .int x), (0, .ref h0), (1, .int x)]) hx hb d_Mo_loop_21 rfl hl (by decide) rfl (fun ls hl => ?_)
      have loop_22 : ∀ (d_i1 i1 : Nat) (H : Heap) (locs : List Loc) (ls : Array Slot), i1 + d_i1 = 61 → va_P (dC, dI) classes [(m2, .inl (k 2, 610, .inl (fun _ => 0))), (h0, .inr (4, [.int 0, .int 0, .ref m1, .int (-1), .int 0, .int (nI 0), .ref m2, .ref m3, .ref m4, .ref m5, .ref m6, .ref m7, .ref m8, .ref m9, .ref m10, .ref m11, .ref m12, .ref m13, .int 0, .int 0, .int 0, .int 0, .ref m14, .ref m15, .int 0, .int 0, .int 0, .int 0, .ref m16, .ref m17, .ref m18]))] H → va_D A [(m2, .inl (k 2, 610, .inl (fun _ => 0))), (h0, .inr (4, [.int 0, .int 0, .ref m1, .int (-1), .int 0, .int (nI 0), .ref m2, .ref m3, .ref m4, .ref m5, .ref m6, .ref m7, .ref m8, .ref m9, .ref m10, .ref m11, .ref m12, .ref m13, .int 0, .int 0, .int 0, .int 0, .ref m14, .ref m15, .int 0, .int 0, .int 0, .int 0, .ref m16, .ref m17, .ref m18]))] → va_S A s.heap H locs → lv_has ls 4 [(0, .ref h0), (1, .int x), (2, .int x), (3, .int (nI i1))] → W p l e (headSpec (Cond.code y_Mo_loop b_Mo_loop 4 (some .int) :: z_T) (z_rm 1 0 0)).room s m ([.ref h0, .int x] : List Value).toArray below meth c H locs 0 0 (MQ below (va_Qi (fun (r : Int32) (u : Int32) => r = 0 ∧ ((0 ≤ x ∧ u = 0) ∨ (¬ 0 ≤ x ∧ u = 1))) (fun (u : Int32) t => z_B dC dI k A [(h0, .inr (4, [.int u, .int 0, .ref m1, .int (-1), .int 0, .int (nI 0), .ref m2, .ref m3, .ref m4, .ref m5, .ref m6, .ref m7, .ref m8, .ref m9, .ref m10, .ref m11, .ref m12, .ref m13, .int 0, .int 0, .int 0, .int 0, .ref m14, .ref m15, .int 0, .int 0, .int 0, .int 0, .ref m16, .ref m17, .ref m18]))] t) A) ([.ref h0, .int x] : List Value).toArray s 0 0 A) (F0 m 22 ls []) := by
        intro d_i1
        induction d_i1 with
        | zero =>
          intro i1 H locs ls hi_i1 hP hD hS hl
          refine lv_iload_n hx hb d_Mo_loop_22 rfl (lv_at hl 3 rfl) ?_
          refine lv_bipush (v := 61) hx hb d_Mo_loop_23 (by decide) ?_
          refine lv_icmp_ge (tgt := 62) hx hb d_Mo_loop_25 (by decide) (fun c_25 => ?_) (fun c_25 => ?_)
          · refine lv_iconst (v := 0) hx hb d_Mo_loop_62 (by decide) ?_
            have hP9 := hP.sub (ws' := [(h0, .inr (4, [.int 0, .int 0, .ref m1, .int (-1), .int 0, .int (nI 0), .ref m2, .ref m3, .ref m4, .ref m5, .ref m6, .ref m7, .ref m8, .ref m9, .ref m10, .ref m11, .ref m12, .ref m13, .int 0, .int 0, .int 0, .int 0, .ref m14, .ref m15, .int 0, .int 0, .int 0, .int 0, .ref m16, .ref m17, .ref m18]))]) [1] rfl
            have hD9 := hD.sub (ws' := [(h0, .inr (4, [.int 0, .int 0, .ref m1, .int (-1), .int 0, .int (nI 0), .ref m2, .ref m3, .ref m4, .ref m5, .ref m6, .ref m7, .ref m8, .ref m9, .ref m10, .ref m11, .ref m12, .ref m13, .int 0, .int 0, .int 0, .int 0, .ref m14, .ref m15, .int 0, .int 0, .int 0, .int 0, .ref m16, .ref m17, .ref m18]))]) [1] (by decide) rfl
            exact W.iret (v := 0) hx hb hr (fun t ht hW => ⟨⟨0, 0, rfl, ⟨rfl, Or.inl ⟨z_nlt c_2, rfl⟩⟩, by rw [ht]; exact hP9, va_K.moved hW.alike hK, hD9⟩, hS.F ht⟩) hS.2.2 d_Mo_loop_63
          · exact absurd (show nI 61 ≤ nI i1 from nI_le (by omega) (by omega)) c_25
        | succ d_i1 ih_i1 =>
          intro i1 H locs ls hi_i1 hP hD hS hl
          refine lv_iload_n hx hb d_Mo_loop_22 rfl (lv_at hl 3 rfl) ?_
          refine lv_bipush (v := 61) hx hb d_Mo_loop_23 (by decide) ?_
          refine lv_icmp_ge (tgt := 62) hx hb d_Mo_loop_25 (by decide) (fun c_25 => ?_) (fun c_25 => ?_)
          · exact absurd (show nI 61 ≤ nI i1 from c_25) (nI_ge (by omega) (by decide))
          · refine lv_aload_n hx hb d_Mo_loop_28 rfl (lv_at hl 0 rfl) ?_
            refine lv_iload_n hx hb d_Mo_loop_29 rfl (lv_at hl 3 rfl) ?_
            have hPc := hP.sub (ws' := [(h0, .inr (4, [.int 0, .int 0, .ref m1, .int (-1), .int 0, .int (nI 0), .ref m2, .ref m3, .ref m4, .ref m5, .ref m6, .ref m7, .ref m8, .ref m9, .ref m10, .ref m11, .ref m12, .ref m13, .int 0, .int 0, .int 0, .int 0, .ref m14, .ref m15, .int 0, .int 0, .int 0, .int 0, .ref m16, .ref m17, .ref m18])), (m2, .inl (k 2, 610, .inl (fun _ => 0)))]) [1, 0] rfl
            have hDc := hD.sub (ws' := [(h0, .inr (4, [.int 0, .int 0, .ref m1, .int (-1), .int 0, .int (nI 0), .ref m2, .ref m3, .ref m4, .ref m5, .ref m6, .ref m7, .ref m8, .ref m9, .ref m10, .ref m11, .ref m12, .ref m13, .int 0, .int 0, .int 0, .int 0, .ref m14, .ref m15, .int 0, .int 0, .int 0, .int 0, .ref m16, .ref m17, .ref m18])), (m2, .inl (k 2, 610, .inl (fun _ => 0)))]) [1, 0] (by decide) rfl
            have hFc := va_free (wc := [(h0, .inr (4, [.int 0, .int 0, .ref m1, .int (-1), .int 0, .int (nI 0), .ref m2, .ref m3, .ref m4, .ref m5, .ref m6, .ref m7, .ref m8, .ref m9, .ref m10, .ref m11, .ref m12, .ref m13, .int 0, .int 0, .int 0, .int 0, .ref m14, .ref m15, .int 0, .int 0, .int 0, .int 0, .ref m16, .ref m17, .ref m18])), (m2, .inl (k 2, 610, .inl (fun _ => 0)))]) hD hS hA [1, 0] rfl
            refine va_calli (va_runV (As := [.int (nI i1)]) (rest := []) ⟨hx, hb, hml, hown, htz⟩ (c_Mo_isThere_0 l dC dI k H.size h0 m1 m2 m3 m4 m5 m6 m7 m8 m9 m10 m11 m12 m13 m14 m15 m16 m17 m18 0 0 (-1) 0 0 0 0 0 0 0 0 0 0 (by decide) i1 (by omega)) (cwV 1 htz (z_gV (fun _ h => h) km_Mo_151 in_Mo_isThere se_Mo_isThere ini_Mo m_Mo_isThere) rfl rfl rfl (by decide +kernel) ⟨(Nat.le_of_ble_eq_true rfl), (Nat.le_of_ble_eq_true rfl)⟩) ⟨z_blind, va_recv hK hPc (ci := 4) (q0 := 0) rfl rfl, fun U hU hW => ⟨rfl, by rw [hU], hE.call hS hFc hU hW, by rw [hU]; exact hPc, va_K.moved hW.alike hK, hDc.weaken (fun _ _ _ _ => trivial)⟩⟩ rfl rfl hl.1 rfl (lv_room (Nat.le_of_ble_eq_true rfl)) d_Mo_loop_30 ⟨(Nat.le_of_ble_eq_true rfl), (Nat.le_of_ble_eq_true rfl)⟩) hS (fun q _ h => hFc q h) hFc (fun r3 u t H1 locs ht hvm hw hB hz1 hk1 hS => ?_)
            obtain ⟨hP1, hK1, hD1⟩ := hB
            rw [ht] at hP1
            try dsimp only at hw
            obtain ⟨hP, hD⟩ := va_join (wr := []) (w1 := [(h0, .inr (4, [.int 0, .int 0, .ref m1, .int (-1), .int 0, .int (nI 0), .ref m2, .ref m3, .ref m4, .ref m5, .ref m6, .ref m7, .ref m8, .ref m9, .ref m10, .ref m11, .ref m12, .ref m13, .int 0, .int 0, .int 0, .int 0, .ref m14, .ref m15, .int 0, .int 0, .int 0, .int 0, .ref m16, .ref m17, .ref m18])), (m2, .inl (k 2, 610, .inl (fun _ => 0)))]) hP hD [1, 0] [] rfl rfl (by decide) (by decide) hk1 hFc hP1 hD1
            generalize H1 = H at hP hS ⊢
            have hP : va_P (dC, dI) classes [(h0, .inr (4, [.int 0, .int 0, .ref m1, .int (-1), .int 0, .int (nI 0), .ref m2, .ref m3, .ref m4, .ref m5, .ref m6, .ref m7, .ref m8, .ref m9, .ref m10, .ref m11, .ref m12, .ref m13, .int 0, .int 0, .int 0, .int 0, .ref m14, .ref m15, .int 0, .int 0, .int 0, .int 0, .ref m16, .ref m17, .ref m18])), (m2, .inl (k 2, 610, .inl (fun _ => 0)))] H := hP
            have hD : va_D A [(h0, .inr (4, [.int 0, .int 0, .ref m1, .int (-1), .int 0, .int (nI 0), .ref m2, .ref m3, .ref m4, .ref m5, .ref m6, .ref m7, .ref m8, .ref m9, .ref m10, .ref m11, .ref m12, .ref m13, .int 0, .int 0, .int 0, .int 0, .ref m14, .ref m15, .int 0, .int 0, .int 0, .int 0, .ref m16, .ref m17, .ref m18])), (m2, .inl (k 2, 610, .inl (fun _ => 0)))] := hD
            subst hw
            refine lv_if_eq (tgt := 56) hx hb d_Mo_loop_33 (by decide) (fun c_33 => ?_) (fun c_33 => ?_)
            · refine lv_iinc (v := nI (i1 + 1)) (lv' := [(3, .int (nI (i1 + 1))), (0, .ref h0), (1, .int x), (2, .int x)]) hx hb d_Mo_loop_56 hl (k := 3) rfl (nI_1 i1) (by decide) rfl (fun ls hl => ?_)
              refine lv_goto (tgt := 22) hx hb d_Mo_loop_59 (by decide) ?_
              exact ih_i1 (i1 + 1) H locs ls (by omega) (hP.sub [1, 0] rfl) (hD.sub [1, 0] (by decide) rfl) hS (lv_sub hl [1, 2, 3, 0] rfl)
            · exact absurd (by decide) c_33
      exact loop_22 60 1 _ _ ls (by omega) hP hD hS (lv_sub hl [2, 3, 1, 0] rfl)
    · exact absurd c_13 (by decide)
