-- the reference: short methods
def z_inn (x a b : Int32) : Int32 := if x < a then 0 else if b < x then 0 else 1
theorem z_inn01 (x a b : Int32) : z_inn x a b = 0 ∨ z_inn x a b = 1 := by
  unfold z_inn
  split
  · exact Or.inl rfl
  · split
    · exact Or.inl rfl
    · exact Or.inr rfl
def z_sa (g : Int32) : Int32 := if g = 0 then 1 else 0
set_option maxHeartbeats 1000000 in
set_option maxRecDepth 100000 in
theorem c_Mo_in (l : Launch) (dC : Nat → ClassId) (dI : Nat → Nat → Nat) (k : Nat → ClassId) (sz : Nat) (x : Int32) (a : Int32) (b : Int32) : Met l y_Mo_in (Cond.code y_Mo_in b_Mo_in 3 (some .boolean) :: z_T) (z_rm 0 0 0) (z_Pc dC dI k sz [.int x, .int a, .int b] []) (va_Qi (fun (r : Int32) (u : Unit) => r = z_inn x a b) (fun (u : Unit) t => z_B dC dI k (va_A [] sz) [] t) (va_A [] sz)) 0 0 (va_A [] sz) := by
  refine Met.ofW (cc := b_Mo_in) (maxL := 3) (ret := (some .boolean)) (by decide) rfl ?_
  intro p e s m args below meth c s₁ B hml hv
  obtain ⟨rfl, hsz, hE, hP, hK, hD0⟩ := hv
  have hx := B.exec
  have hb := B.bytes
  have hr := B.returns
  have hts := atoms_spec (ws := Cond.code y_Mo_in b_Mo_in 3 (some .boolean) :: z_T) B.pre
  have htz : ∀ w ∈ z_T, w.before _ s = true := fun w h => hts w (z_cons w h)
  have hown : s.vm.findClass "QuestionTextModel" = some m.cls := findClass_of_methodNamed B.named
  have hlocks := B.notSynchronized
  subst hsz
  have hD := hD0.self (sz := s.heap.size)
  generalize hAe : va_A [] s.heap.size = A at hD hE ⊢
  have hA : ∀ q : Nat, s.heap.size ≤ q → A q := fun q h => by rw [← hAe]; exact Or.inr h
  have hS : va_S A s.heap s.heap [] := va_S.rf
  have hP : va_P (dC, dI) classes [] s.heap := hP
  have hl := lv_entry ([.int x, .int a, .int b]) (n := 3) (Nat.le_of_ble_eq_true rfl)
  rw [lg_entry_eq]
  generalize (lg_sl ([.int x, .int a, .int b]) ++ List.replicate (3 - (lg_sl ([.int x, .int a, .int b])).length) Slot.unset).toArray = ls at hl ⊢
  have hl : lv_has ls 3 [(0, .int x), (1, .int a), (2, .int b)] := hl
  refine lv_iload_n hx hb d_Mo_in_0 rfl (lv_at hl 0 rfl) ?_
  refine lv_iload_n hx hb d_Mo_in_1 rfl (lv_at hl 1 rfl) ?_
  refine lv_icmp_lt (tgt := 14) hx hb d_Mo_in_2 (by decide) (fun c_2 => ?_) (fun c_2 => ?_)
  · refine lv_iconst (v := 0) hx hb d_Mo_in_14 (by decide) ?_
    have hP9 := hP.sub (ws' := []) [] rfl
    have hD9 := hD.sub (ws' := []) [] (by decide) rfl
    exact W.zret (v := 0) (ty := .boolean) hx hb hr rfl (fun t ht hW => ⟨⟨0, (), rfl, by unfold z_inn; rw [if_pos c_2], by rw [ht]; exact hP9, va_K.moved hW.alike hK, hD9⟩, hS.F ht⟩) hS.2.2 d_Mo_in_15
  · refine lv_iload_n hx hb d_Mo_in_5 rfl (lv_at hl 0 rfl) ?_
    refine lv_iload_n hx hb d_Mo_in_6 rfl (lv_at hl 2 rfl) ?_
    refine lv_icmp_gt (tgt := 14) hx hb d_Mo_in_7 (by decide) (fun c_7 => ?_) (fun c_7 => ?_)
    · refine lv_iconst (v := 0) hx hb d_Mo_in_14 (by decide) ?_
      have hP9 := hP.sub (ws' := []) [] rfl
      have hD9 := hD.sub (ws' := []) [] (by decide) rfl
      exact W.zret (v := 0) (ty := .boolean) hx hb hr rfl (fun t ht hW => ⟨⟨0, (), rfl, by unfold z_inn; rw [if_neg c_2, if_pos c_7], by rw [ht]; exact hP9, va_K.moved hW.alike hK, hD9⟩, hS.F ht⟩) hS.2.2 d_Mo_in_15
    · refine lv_iconst (v := 1) hx hb d_Mo_in_10 (by decide) ?_
      refine lv_goto (tgt := 15) hx hb d_Mo_in_11 (by decide) ?_
      have hP9 := hP.sub (ws' := []) [] rfl
      have hD9 := hD.sub (ws' := []) [] (by decide) rfl
      exact W.zret (v := 1) (ty := .boolean) hx hb hr rfl (fun t ht hW => ⟨⟨1, (), rfl, by unfold z_inn; rw [if_neg c_2, if_neg c_7], by rw [ht]; exact hP9, va_K.moved hW.alike hK, hD9⟩, hS.F ht⟩) hS.2.2 d_Mo_in_15
set_option maxHeartbeats 1000000 in
set_option maxRecDepth 100000 in
theorem c_Mo_thrown (l : Launch) (dC : Nat → ClassId) (dI : Nat → Nat → Nat) (k : Nat → ClassId) (sz : Nat) (h0 : Nat) (m1 : Nat) (m2 : Nat) (m3 : Nat) (m4 : Nat) (m5 : Nat) (m6 : Nat) (m7 : Nat) (m8 : Nat) (m9 : Nat) (m10 : Nat) (m11 : Nat) (m12 : Nat) (m13 : Nat) (m14 : Nat) (m15 : Nat) (m16 : Nat) (m17 : Nat) (m18 : Nat) (v_thrown : Int32) (v_taped : Int32) (v_place : Int32) (v_editions : Int32) (v_chosen : Int32) (v_at : Int32) (v_wrong : Int32) (v_digits : Int32) (v_into : Int32) (v_kind : Int32) (v_now : Int32) (v_points : Int32) (v_many : Int32) : Met l y_Mo_thrown (Cond.code y_Mo_thrown b_Mo_thrown 1 (some .int) :: z_T) (z_rm 0 0 0) (z_Pc dC dI k sz [.ref h0] [(h0, .inr (4, [.int v_thrown, .int v_taped, .ref m1, .int v_place, .int v_editions, .int v_chosen, .ref m2, .ref m3, .ref m4, .ref m5, .ref m6, .ref m7, .ref m8, .ref m9, .ref m10, .ref m11, .ref m12, .ref m13, .int v_at, .int v_wrong, .int v_digits, .int v_into, .ref m14, .ref m15, .int v_kind, .int v_now, .int v_points, .int v_many, .ref m16, .ref m17, .ref m18]))]) (va_Qi (fun (r : Int32) (u : Unit) => r = v_thrown) (fun (u : Unit) t => z_B dC dI k (va_A [(h0, .inr (4, [.int v_thrown, .int v_taped, .ref m1, .int v_place, .int v_editions, .int v_chosen, .ref m2, .ref m3, .ref m4, .ref m5, .ref m6, .ref m7, .ref m8, .ref m9, .ref m10, .ref m11, .ref m12, .ref m13, .int v_at, .int v_wrong, .int v_digits, .int v_into, .ref m14, .ref m15, .int v_kind, .int v_now, .int v_points, .int v_many, .ref m16, .ref m17, .ref m18]))] sz) [(h0, .inr (4, [.int v_thrown, .int v_taped, .ref m1, .int v_place, .int v_editions, .int v_chosen, .ref m2, .ref m3, .ref m4, .ref m5, .ref m6, .ref m7, .ref m8, .ref m9, .ref m10, .ref m11, .ref m12, .ref m13, .int v_at, .int v_wrong, .int v_digits, .int v_into, .ref m14, .ref m15, .int v_kind, .int v_now, .int v_points, .int v_many, .ref m16, .ref m17, .ref m18]))] t) (va_A [(h0, .inr (4, [.int v_thrown, .int v_taped, .ref m1, .int v_place, .int v_editions, .int v_chosen, .ref m2, .ref m3, .ref m4, .ref m5, .ref m6, .ref m7, .ref m8, .ref m9, .ref m10, .ref m11, .ref m12, .ref m13, .int v_at, .int v_wrong, .int v_digits, .int v_into, .ref m14, .ref m15, .int v_kind, .int v_now, .int v_points, .int v_many, .ref m16, .ref m17, .ref m18]))] sz)) 0 0 (va_A [(h0, .inr (4, [.int v_thrown, .int v_taped, .ref m1, .int v_place, .int v_editions, .int v_chosen, .ref m2, .ref m3, .ref m4, .ref m5, .ref m6, .ref m7, .ref m8, .ref m9, .ref m10, .ref m11, .ref m12, .ref m13, .int v_at, .int v_wrong, .int v_digits, .int v_into, .ref m14, .ref m15, .int v_kind, .int v_now, .int v_points, .int v_many, .ref m16, .ref m17, .ref m18]))] sz) := by
  refine Met.ofW (cc := b_Mo_thrown) (maxL := 1) (ret := (some .int)) (by decide) rfl ?_
  intro p e s m args below meth c s₁ B hml hv
  obtain ⟨rfl, hsz, hE, hP, hK, hD0⟩ := hv
  have hx := B.exec
  have hb := B.bytes
  have hr := B.returns
  have hts := atoms_spec (ws := Cond.code y_Mo_thrown b_Mo_thrown 1 (some .int) :: z_T) B.pre
  have htz : ∀ w ∈ z_T, w.before _ s = true := fun w h => hts w (z_cons w h)
  have hown : s.vm.findClass "QuestionTextModel" = some m.cls := findClass_of_methodNamed B.named
  have hlocks := B.notSynchronized
  subst hsz
  have hD := hD0.self (sz := s.heap.size)
  generalize hAe : va_A [(h0, .inr (4, [.int v_thrown, .int v_taped, .ref m1, .int v_place, .int v_editions, .int v_chosen, .ref m2, .ref m3, .ref m4, .ref m5, .ref m6, .ref m7, .ref m8, .ref m9, .ref m10, .ref m11, .ref m12, .ref m13, .int v_at, .int v_wrong, .int v_digits, .int v_into, .ref m14, .ref m15, .int v_kind, .int v_now, .int v_points, .int v_many, .ref m16, .ref m17, .ref m18]))] s.heap.size = A at hD hE ⊢
  have hA : ∀ q : Nat, s.heap.size ≤ q → A q := fun q h => by rw [← hAe]; exact Or.inr h
  have hS : va_S A s.heap s.heap [] := va_S.rf
  have hP : va_P (dC, dI) classes [(h0, .inr (4, [.int v_thrown, .int v_taped, .ref m1, .int v_place, .int v_editions, .int v_chosen, .ref m2, .ref m3, .ref m4, .ref m5, .ref m6, .ref m7, .ref m8, .ref m9, .ref m10, .ref m11, .ref m12, .ref m13, .int v_at, .int v_wrong, .int v_digits, .int v_into, .ref m14, .ref m15, .int v_kind, .int v_now, .int v_points, .int v_many, .ref m16, .ref m17, .ref m18]))] s.heap := hP
  have hl := lv_entry ([.ref h0]) (n := 1) (Nat.le_of_ble_eq_true rfl)
  rw [lg_entry_eq]
  generalize (lg_sl ([.ref h0]) ++ List.replicate (1 - (lg_sl ([.ref h0])).length) Slot.unset).toArray = ls at hl ⊢
  have hl : lv_has ls 1 [(0, .ref h0)] := hl
  refine lv_aload_n hx hb d_Mo_thrown_0 rfl (lv_at hl 0 rfl) ?_
  refine va_get (D := (dC, dI)) (ci := 4) (v := .int v_thrown) (C := R_Mo) (T := F_Mo) (N := 31) hx hb htz i_Mo hown hK hP 0 rfl rfl 0 (by decide) (htz _ kf_Mo_69) (fun _ h9 => h9) rfl d_Mo_thrown_1 ?_
  have hP9 := hP.sub (ws' := [(h0, .inr (4, [.int v_thrown, .int v_taped, .ref m1, .int v_place, .int v_editions, .int v_chosen, .ref m2, .ref m3, .ref m4, .ref m5, .ref m6, .ref m7, .ref m8, .ref m9, .ref m10, .ref m11, .ref m12, .ref m13, .int v_at, .int v_wrong, .int v_digits, .int v_into, .ref m14, .ref m15, .int v_kind, .int v_now, .int v_points, .int v_many, .ref m16, .ref m17, .ref m18]))]) [0] rfl
  have hD9 := hD.sub (ws' := [(h0, .inr (4, [.int v_thrown, .int v_taped, .ref m1, .int v_place, .int v_editions, .int v_chosen, .ref m2, .ref m3, .ref m4, .ref m5, .ref m6, .ref m7, .ref m8, .ref m9, .ref m10, .ref m11, .ref m12, .ref m13, .int v_at, .int v_wrong, .int v_digits, .int v_into, .ref m14, .ref m15, .int v_kind, .int v_now, .int v_points, .int v_many, .ref m16, .ref m17, .ref m18]))]) [0] (by decide) rfl
  exact W.iret (v := v_thrown) hx hb hr (fun t ht hW => ⟨⟨v_thrown, (), rfl, rfl, by rw [ht]; exact hP9, va_K.moved hW.alike hK, hD9⟩, hS.F ht⟩) hS.2.2 d_Mo_thrown_4
set_option maxHeartbeats 1000000 in
set_option maxRecDepth 100000 in
theorem c_Mo_says (l : Launch) (dC : Nat → ClassId) (dI : Nat → Nat → Nat) (k : Nat → ClassId) (sz : Nat) (h0 : Nat) (m1 : Nat) (m2 : Nat) (m3 : Nat) (m4 : Nat) (m5 : Nat) (m6 : Nat) (m7 : Nat) (m8 : Nat) (m9 : Nat) (m10 : Nat) (m11 : Nat) (m12 : Nat) (m13 : Nat) (m14 : Nat) (m15 : Nat) (m16 : Nat) (m17 : Nat) (m18 : Nat) (v_thrown : Int32) (v_taped : Int32) (v_place : Int32) (v_editions : Int32) (v_chosen : Int32) (v_at : Int32) (v_wrong : Int32) (v_digits : Int32) (v_into : Int32) (v_kind : Int32) (v_now : Int32) (v_points : Int32) (v_many : Int32) (g : Int32) (hg : g = 0 ∨ g = 1) : Met l y_Mo_says (Cond.code y_Mo_says b_Mo_says 2 (some .boolean) :: z_T) (z_rm 0 0 0) (z_Pc dC dI k sz [.ref h0, .int g] [(h0, .inr (4, [.int v_thrown, .int v_taped, .ref m1, .int v_place, .int v_editions, .int v_chosen, .ref m2, .ref m3, .ref m4, .ref m5, .ref m6, .ref m7, .ref m8, .ref m9, .ref m10, .ref m11, .ref m12, .ref m13, .int v_at, .int v_wrong, .int v_digits, .int v_into, .ref m14, .ref m15, .int v_kind, .int v_now, .int v_points, .int v_many, .ref m16, .ref m17, .ref m18]))]) (va_Qi (fun (r : Int32) (u : Unit) => r = g) (fun (u : Unit) t => z_B dC dI k (va_A [(h0, .inr (4, [.int v_thrown, .int v_taped, .ref m1, .int v_place, .int v_editions, .int v_chosen, .ref m2, .ref m3, .ref m4, .ref m5, .ref m6, .ref m7, .ref m8, .ref m9, .ref m10, .ref m11, .ref m12, .ref m13, .int v_at, .int v_wrong, .int v_digits, .int v_into, .ref m14, .ref m15, .int v_kind, .int v_now, .int v_points, .int v_many, .ref m16, .ref m17, .ref m18]))] sz) [(h0, .inr (4, [.int (z_sa g), .int v_taped, .ref m1, .int v_place, .int v_editions, .int v_chosen, .ref m2, .ref m3, .ref m4, .ref m5, .ref m6, .ref m7, .ref m8, .ref m9, .ref m10, .ref m11, .ref m12, .ref m13, .int v_at, .int v_wrong, .int v_digits, .int v_into, .ref m14, .ref m15, .int v_kind, .int v_now, .int v_points, .int v_many, .ref m16, .ref m17, .ref m18]))] t) (va_A [(h0, .inr (4, [.int v_thrown, .int v_taped, .ref m1, .int v_place, .int v_editions, .int v_chosen, .ref m2, .ref m3, .ref m4, .ref m5, .ref m6, .ref m7, .ref m8, .ref m9, .ref m10, .ref m11, .ref m12, .ref m13, .int v_at, .int v_wrong, .int v_digits, .int v_into, .ref m14, .ref m15, .int v_kind, .int v_now, .int v_points, .int v_many, .ref m16, .ref m17, .ref m18]))] sz)) 0 0 (va_A [(h0, .inr (4, [.int v_thrown, .int v_taped, .ref m1, .int v_place, .int v_editions, .int v_chosen, .ref m2, .ref m3, .ref m4, .ref m5, .ref m6, .ref m7, .ref m8, .ref m9, .ref m10, .ref m11, .ref m12, .ref m13, .int v_at, .int v_wrong, .int v_digits, .int v_into, .ref m14, .ref m15, .int v_kind, .int v_now, .int v_points, .int v_many, .ref m16, .ref m17, .ref m18]))] sz) := by
  refine Met.ofW (cc := b_Mo_says) (maxL := 2) (ret := (some .boolean)) (by decide) rfl ?_
  intro p e s m args below meth c s₁ B hml hv
  obtain ⟨rfl, hsz, hE, hP, hK, hD0⟩ := hv
  have hx := B.exec
  have hb := B.bytes
  have hr := B.returns
  have hts := atoms_spec (ws := Cond.code y_Mo_says b_Mo_says 2 (some .boolean) :: z_T) B.pre
  have htz : ∀ w ∈ z_T, w.before _ s = true := fun w h => hts w (z_cons w h)
  have hown : s.vm.findClass "QuestionTextModel" = some m.cls := findClass_of_methodNamed B.named
  have hlocks := B.notSynchronized
  subst hsz
  have hD := hD0.self (sz := s.heap.size)
  generalize hAe : va_A [(h0, .inr (4, [.int v_thrown, .int v_taped, .ref m1, .int v_place, .int v_editions, .int v_chosen, .ref m2, .ref m3, .ref m4, .ref m5, .ref m6, .ref m7, .ref m8, .ref m9, .ref m10, .ref m11, .ref m12, .ref m13, .int v_at, .int v_wrong, .int v_digits, .int v_into, .ref m14, .ref m15, .int v_kind, .int v_now, .int v_points, .int v_many, .ref m16, .ref m17, .ref m18]))] s.heap.size = A at hD hE ⊢
  have hA : ∀ q : Nat, s.heap.size ≤ q → A q := fun q h => by rw [← hAe]; exact Or.inr h
  have hS : va_S A s.heap s.heap [] := va_S.rf
  have hP : va_P (dC, dI) classes [(h0, .inr (4, [.int v_thrown, .int v_taped, .ref m1, .int v_place, .int v_editions, .int v_chosen, .ref m2, .ref m3, .ref m4, .ref m5, .ref m6, .ref m7, .ref m8, .ref m9, .ref m10, .ref m11, .ref m12, .ref m13, .int v_at, .int v_wrong, .int v_digits, .int v_into, .ref m14, .ref m15, .int v_kind, .int v_now, .int v_points, .int v_many, .ref m16, .ref m17, .ref m18]))] s.heap := hP
  have hl := lv_entry ([.ref h0, .int g]) (n := 2) (Nat.le_of_ble_eq_true rfl)
  rw [lg_entry_eq]
  generalize (lg_sl ([.ref h0, .int g]) ++ List.replicate (2 - (lg_sl ([.ref h0, .int g])).length) Slot.unset).toArray = ls at hl ⊢
  have hl : lv_has ls 2 [(0, .ref h0), (1, .int g)] := hl
  refine lv_aload_n hx hb d_Mo_says_0 rfl (lv_at hl 0 rfl) ?_
  refine lv_iload_n hx hb d_Mo_says_1 rfl (lv_at hl 1 rfl) ?_
  refine lv_if_eq (tgt := 9) hx hb d_Mo_says_2 (by decide) (fun c_2 => ?_) (fun c_2 => ?_)
  · refine lv_iconst (v := 1) hx hb d_Mo_says_9 (by decide) ?_
    refine lv_topi (fun y9 e9 => ?_)
    have e9 := e9.trans ((show z_sa g = 1 by unfold z_sa; rw [if_pos c_2]).symm)
    subst e9
    refine va_put (D := (dC, dI)) (ci := 4) (v := .int (z_sa g)) (ty := .int) (C := R_Mo) (T := F_Mo) (N := 31) hx hb htz i_Mo t_Mo o_Mo n_Mo hown hK hP hD hS 0 rfl rfl 0 (by decide) (htz _ kf_Mo_69) (fun _ h9 => h9) rfl (by decide +kernel) rfl rfl (Nat.le_of_ble_eq_true rfl) d_Mo_says_10 (fun H locs hP hD hS => ?_)
    have hP : va_P (dC, dI) classes [(h0, .inr (4, [.int (z_sa g), .int v_taped, .ref m1, .int v_place, .int v_editions, .int v_chosen, .ref m2, .ref m3, .ref m4, .ref m5, .ref m6, .ref m7, .ref m8, .ref m9, .ref m10, .ref m11, .ref m12, .ref m13, .int v_at, .int v_wrong, .int v_digits, .int v_into, .ref m14, .ref m15, .int v_kind, .int v_now, .int v_points, .int v_many, .ref m16, .ref m17, .ref m18]))] H := hP
    have hD : va_D A [(h0, .inr (4, [.int (z_sa g), .int v_taped, .ref m1, .int v_place, .int v_editions, .int v_chosen, .ref m2, .ref m3, .ref m4, .ref m5, .ref m6, .ref m7, .ref m8, .ref m9, .ref m10, .ref m11, .ref m12, .ref m13, .int v_at, .int v_wrong, .int v_digits, .int v_into, .ref m14, .ref m15, .int v_kind, .int v_now, .int v_points, .int v_many, .ref m16, .ref m17, .ref m18]))] := hD
    refine lv_iload_n hx hb d_Mo_says_13 rfl (lv_at hl 1 rfl) ?_
    have hP9 := hP.sub (ws' := [(h0, .inr (4, [.int (z_sa g), .int v_taped, .ref m1, .int v_place, .int v_editions, .int v_chosen, .ref m2, .ref m3, .ref m4, .ref m5, .ref m6, .ref m7, .ref m8, .ref m9, .ref m10, .ref m11, .ref m12, .ref m13, .int v_at, .int v_wrong, .int v_digits, .int v_into, .ref m14, .ref m15, .int v_kind, .int v_now, .int v_points, .int v_many, .ref m16, .ref m17, .ref m18]))]) [0] rfl
    have hD9 := hD.sub (ws' := [(h0, .inr (4, [.int (z_sa g), .int v_taped, .ref m1, .int v_place, .int v_editions, .int v_chosen, .ref m2, .ref m3, .ref m4, .ref m5, .ref m6, .ref m7, .ref m8, .ref m9, .ref m10, .ref m11, .ref m12, .ref m13, .int v_at, .int v_wrong, .int v_digits, .int v_into, .ref m14, .ref m15, .int v_kind, .int v_now, .int v_points, .int v_many, .ref m16, .ref m17, .ref m18]))]) [0] (by decide) rfl
    exact W.zret (v := g) (ty := .boolean) hx hb hr (by rcases hg with rfl | rfl <;> rfl) (fun t ht hW => ⟨⟨g, (), rfl, rfl, by rw [ht]; exact hP9, va_K.moved hW.alike hK, hD9⟩, hS.F ht⟩) hS.2.2 d_Mo_says_14
  · refine lv_iconst (v := 0) hx hb d_Mo_says_5 (by decide) ?_
    refine lv_goto (tgt := 10) hx hb d_Mo_says_6 (by decide) ?_
    refine lv_topi (fun y9 e9 => ?_)
    have e9 := e9.trans ((show z_sa g = 0 by unfold z_sa; rw [if_neg c_2]).symm)
    subst e9
    refine va_put (D := (dC, dI)) (ci := 4) (v := .int (z_sa g)) (ty := .int) (C := R_Mo) (T := F_Mo) (N := 31) hx hb htz i_Mo t_Mo o_Mo n_Mo hown hK hP hD hS 0 rfl rfl 0 (by decide) (htz _ kf_Mo_69) (fun _ h9 => h9) rfl (by decide +kernel) rfl rfl (Nat.le_of_ble_eq_true rfl) d_Mo_says_10 (fun H locs hP hD hS => ?_)
    have hP : va_P (dC, dI) classes [(h0, .inr (4, [.int (z_sa g), .int v_taped, .ref m1, .int v_place, .int v_editions, .int v_chosen, .ref m2, .ref m3, .ref m4, .ref m5, .ref m6, .ref m7, .ref m8, .ref m9, .ref m10, .ref m11, .ref m12, .ref m13, .int v_at, .int v_wrong, .int v_digits, .int v_into, .ref m14, .ref m15, .int v_kind, .int v_now, .int v_points, .int v_many, .ref m16, .ref m17, .ref m18]))] H := hP
    have hD : va_D A [(h0, .inr (4, [.int (z_sa g), .int v_taped, .ref m1, .int v_place, .int v_editions, .int v_chosen, .ref m2, .ref m3, .ref m4, .ref m5, .ref m6, .ref m7, .ref m8, .ref m9, .ref m10, .ref m11, .ref m12, .ref m13, .int v_at, .int v_wrong, .int v_digits, .int v_into, .ref m14, .ref m15, .int v_kind, .int v_now, .int v_points, .int v_many, .ref m16, .ref m17, .ref m18]))] := hD
    refine lv_iload_n hx hb d_Mo_says_13 rfl (lv_at hl 1 rfl) ?_
    have hP9 := hP.sub (ws' := [(h0, .inr (4, [.int (z_sa g), .int v_taped, .ref m1, .int v_place, .int v_editions, .int v_chosen, .ref m2, .ref m3, .ref m4, .ref m5, .ref m6, .ref m7, .ref m8, .ref m9, .ref m10, .ref m11, .ref m12, .ref m13, .int v_at, .int v_wrong, .int v_digits, .int v_into, .ref m14, .ref m15, .int v_kind, .int v_now, .int v_points, .int v_many, .ref m16, .ref m17, .ref m18]))]) [0] rfl
    have hD9 := hD.sub (ws' := [(h0, .inr (4, [.int (z_sa g), .int v_taped, .ref m1, .int v_place, .int v_editions, .int v_chosen, .ref m2, .ref m3, .ref m4, .ref m5, .ref m6, .ref m7, .ref m8, .ref m9, .ref m10, .ref m11, .ref m12, .ref m13, .int v_at, .int v_wrong, .int v_digits, .int v_into, .ref m14, .ref m15, .int v_kind, .int v_now, .int v_points, .int v_many, .ref m16, .ref m17, .ref m18]))]) [0] (by decide) rfl
    exact W.zret (v := g) (ty := .boolean) hx hb hr (by rcases hg with rfl | rfl <;> rfl) (fun t ht hW => ⟨⟨g, (), rfl, rfl, by rw [ht]; exact hP9, va_K.moved hW.alike hK, hD9⟩, hS.F ht⟩) hS.2.2 d_Mo_says_14
set_option maxHeartbeats 1000000 in
set_option maxRecDepth 100000 in
theorem c_Mo_place_0 (l : Launch) (dC : Nat → ClassId) (dI : Nat → Nat → Nat) (k : Nat → ClassId) (sz : Nat) (h0 : Nat) (m1 : Nat) (m2 : Nat) (m3 : Nat) (m4 : Nat) (m5 : Nat) (m6 : Nat) (m7 : Nat) (m8 : Nat) (m9 : Nat) (m10 : Nat) (m11 : Nat) (m12 : Nat) (m13 : Nat) (m14 : Nat) (m15 : Nat) (m16 : Nat) (m17 : Nat) (m18 : Nat) : Met l y_Mo_place (Cond.code y_Mo_place b_Mo_place 1 (some .int) :: z_T) (z_rm 0 0 0) (z_Pc dC dI k sz [.ref h0] [(h0, .inr (4, [.int 0, .int 0, .ref m1, .int (-1), .int 0, .int 0, .ref m2, .ref m3, .ref m4, .ref m5, .ref m6, .ref m7, .ref m8, .ref m9, .ref m10, .ref m11, .ref m12, .ref m13, .int 0, .int 0, .int 0, .int 0, .ref m14, .ref m15, .int 0, .int 0, .int 0, .int 0, .ref m16, .ref m17, .ref m18]))]) (va_Qi (fun (r : Int32) (u : Unit) => r = (-1)) (fun (u : Unit) t => z_B dC dI k (va_A [(h0, .inr (4, [.int 0, .int 0, .ref m1, .int (-1), .int 0, .int 0, .ref m2, .ref m3, .ref m4, .ref m5, .ref m6, .ref m7, .ref m8, .ref m9, .ref m10, .ref m11, .ref m12, .ref m13, .int 0, .int 0, .int 0, .int 0, .ref m14, .ref m15, .int 0, .int 0, .int 0, .int 0, .ref m16, .ref m17, .ref m18]))] sz) [(h0, .inr (4, [.int 0, .int 0, .ref m1, .int (-1), .int 0, .int 0, .ref m2, .ref m3, .ref m4, .ref m5, .ref m6, .ref m7, .ref m8, .ref m9, .ref m10, .ref m11, .ref m12, .ref m13, .int 0, .int 0, .int 0, .int 0, .ref m14, .ref m15, .int 0, .int 0, .int 0, .int 0, .ref m16, .ref m17, .ref m18]))] t) (va_A [(h0, .inr (4, [.int 0, .int 0, .ref m1, .int (-1), .int 0, .int 0, .ref m2, .ref m3, .ref m4, .ref m5, .ref m6, .ref m7, .ref m8, .ref m9, .ref m10, .ref m11, .ref m12, .ref m13, .int 0, .int 0, .int 0, .int 0, .ref m14, .ref m15, .int 0, .int 0, .int 0, .int 0, .ref m16, .ref m17, .ref m18]))] sz)) 0 0 (va_A [(h0, .inr (4, [.int 0, .int 0, .ref m1, .int (-1), .int 0, .int 0, .ref m2, .ref m3, .ref m4, .ref m5, .ref m6, .ref m7, .ref m8, .ref m9, .ref m10, .ref m11, .ref m12, .ref m13, .int 0, .int 0, .int 0, .int 0, .ref m14, .ref m15, .int 0, .int 0, .int 0, .int 0, .ref m16, .ref m17, .ref m18]))] sz) := by
  refine Met.ofW (cc := b_Mo_place) (maxL := 1) (ret := (some .int)) (by decide) rfl ?_
  intro p e s m args below meth c s₁ B hml hv
  obtain ⟨rfl, hsz, hE, hP, hK, hD0⟩ := hv
  have hx := B.exec
  have hb := B.bytes
  have hr := B.returns
  have hts := atoms_spec (ws := Cond.code y_Mo_place b_Mo_place 1 (some .int) :: z_T) B.pre
  have htz : ∀ w ∈ z_T, w.before _ s = true := fun w h => hts w (z_cons w h)
  have hown : s.vm.findClass "QuestionTextModel" = some m.cls := findClass_of_methodNamed B.named
  have hlocks := B.notSynchronized
  subst hsz
  have hD := hD0.self (sz := s.heap.size)
  generalize hAe : va_A [(h0, .inr (4, [.int 0, .int 0, .ref m1, .int (-1), .int 0, .int 0, .ref m2, .ref m3, .ref m4, .ref m5, .ref m6, .ref m7, .ref m8, .ref m9, .ref m10, .ref m11, .ref m12, .ref m13, .int 0, .int 0, .int 0, .int 0, .ref m14, .ref m15, .int 0, .int 0, .int 0, .int 0, .ref m16, .ref m17, .ref m18]))] s.heap.size = A at hD hE ⊢
  have hA : ∀ q : Nat, s.heap.size ≤ q → A q := fun q h => by rw [← hAe]; exact Or.inr h
  have hS : va_S A s.heap s.heap [] := va_S.rf
  have hP : va_P (dC, dI) classes [(h0, .inr (4, [.int 0, .int 0, .ref m1, .int (-1), .int 0, .int 0, .ref m2, .ref m3, .ref m4, .ref m5, .ref m6, .ref m7, .ref m8, .ref m9, .ref m10, .ref m11, .ref m12, .ref m13, .int 0, .int 0, .int 0, .int 0, .ref m14, .ref m15, .int 0, .int 0, .int 0, .int 0, .ref m16, .ref m17, .ref m18]))] s.heap := hP
  have hl := lv_entry ([.ref h0]) (n := 1) (Nat.le_of_ble_eq_true rfl)
  rw [lg_entry_eq]
  generalize (lg_sl ([.ref h0]) ++ List.replicate (1 - (lg_sl ([.ref h0])).length) Slot.unset).toArray = ls at hl ⊢
  have hl : lv_has ls 1 [(0, .ref h0)] := hl
  refine lv_aload_n hx hb d_Mo_place_0 rfl (lv_at hl 0 rfl) ?_
  refine lv_iconst (v := 0) hx hb d_Mo_place_1 (by decide) ?_
  refine va_put (D := (dC, dI)) (ci := 4) (v := .int 0) (ty := .int) (C := R_Mo) (T := F_Mo) (N := 31) hx hb htz i_Mo t_Mo o_Mo n_Mo hown hK hP hD hS 0 rfl rfl 0 (by decide) (htz _ kf_Mo_69) (fun _ h9 => h9) rfl (by decide +kernel) rfl rfl (Nat.le_of_ble_eq_true rfl) d_Mo_place_2 (fun H locs hP hD hS => ?_)
  have hP : va_P (dC, dI) classes [(h0, .inr (4, [.int 0, .int 0, .ref m1, .int (-1), .int 0, .int 0, .ref m2, .ref m3, .ref m4, .ref m5, .ref m6, .ref m7, .ref m8, .ref m9, .ref m10, .ref m11, .ref m12, .ref m13, .int 0, .int 0, .int 0, .int 0, .ref m14, .ref m15, .int 0, .int 0, .int 0, .int 0, .ref m16, .ref m17, .ref m18]))] H := hP
  have hD : va_D A [(h0, .inr (4, [.int 0, .int 0, .ref m1, .int (-1), .int 0, .int 0, .ref m2, .ref m3, .ref m4, .ref m5, .ref m6, .ref m7, .ref m8, .ref m9, .ref m10, .ref m11, .ref m12, .ref m13, .int 0, .int 0, .int 0, .int 0, .ref m14, .ref m15, .int 0, .int 0, .int 0, .int 0, .ref m16, .ref m17, .ref m18]))] := hD
  refine lv_aload_n hx hb d_Mo_place_5 rfl (lv_at hl 0 rfl) ?_
  refine va_get (D := (dC, dI)) (ci := 4) (v := .int (-1)) (C := R_Mo) (T := F_Mo) (N := 31) hx hb htz i_Mo hown hK hP 0 rfl rfl 3 (by decide) (htz _ kf_Mo_13) (fun _ h9 => h9) rfl d_Mo_place_6 ?_
  have hP9 := hP.sub (ws' := [(h0, .inr (4, [.int 0, .int 0, .ref m1, .int (-1), .int 0, .int 0, .ref m2, .ref m3, .ref m4, .ref m5, .ref m6, .ref m7, .ref m8, .ref m9, .ref m10, .ref m11, .ref m12, .ref m13, .int 0, .int 0, .int 0, .int 0, .ref m14, .ref m15, .int 0, .int 0, .int 0, .int 0, .ref m16, .ref m17, .ref m18]))]) [0] rfl
  have hD9 := hD.sub (ws' := [(h0, .inr (4, [.int 0, .int 0, .ref m1, .int (-1), .int 0, .int 0, .ref m2, .ref m3, .ref m4, .ref m5, .ref m6, .ref m7, .ref m8, .ref m9, .ref m10, .ref m11, .ref m12, .ref m13, .int 0, .int 0, .int 0, .int 0, .ref m14, .ref m15, .int 0, .int 0, .int 0, .int 0, .ref m16, .ref m17, .ref m18]))]) [0] (by decide) rfl
  exact W.iret (v := (-1)) hx hb hr (fun t ht hW => ⟨⟨(-1), (), rfl, rfl, by rw [ht]; exact hP9, va_K.moved hW.alike hK, hD9⟩, hS.F ht⟩) hS.2.2 d_Mo_place_9
set_option maxHeartbeats 1000000 in
set_option maxRecDepth 100000 in
theorem c_Mo_kind_0 (l : Launch) (dC : Nat → ClassId) (dI : Nat → Nat → Nat) (k : Nat → ClassId) (sz : Nat) (h0 : Nat) (m1 : Nat) (m2 : Nat) (m3 : Nat) (m4 : Nat) (m5 : Nat) (m6 : Nat) (m7 : Nat) (m8 : Nat) (m9 : Nat) (m10 : Nat) (m11 : Nat) (m12 : Nat) (m13 : Nat) (m14 : Nat) (m15 : Nat) (m16 : Nat) (m17 : Nat) (m18 : Nat) : Met l y_Mo_kind (Cond.code y_Mo_kind b_Mo_kind 1 (some .int) :: z_T) (z_rm 0 0 0) (z_Pc dC dI k sz [.ref h0] [(h0, .inr (4, [.int 0, .int 0, .ref m1, .int (-1), .int 0, .int 0, .ref m2, .ref m3, .ref m4, .ref m5, .ref m6, .ref m7, .ref m8, .ref m9, .ref m10, .ref m11, .ref m12, .ref m13, .int 0, .int 0, .int 0, .int 0, .ref m14, .ref m15, .int 0, .int 0, .int 0, .int 0, .ref m16, .ref m17, .ref m18]))]) (va_Qi (fun (r : Int32) (u : Unit) => r = 0) (fun (u : Unit) t => z_B dC dI k (va_A [(h0, .inr (4, [.int 0, .int 0, .ref m1, .int (-1), .int 0, .int 0, .ref m2, .ref m3, .ref m4, .ref m5, .ref m6, .ref m7, .ref m8, .ref m9, .ref m10, .ref m11, .ref m12, .ref m13, .int 0, .int 0, .int 0, .int 0, .ref m14, .ref m15, .int 0, .int 0, .int 0, .int 0, .ref m16, .ref m17, .ref m18]))] sz) [(h0, .inr (4, [.int 0, .int 0, .ref m1, .int (-1), .int 0, .int 0, .ref m2, .ref m3, .ref m4, .ref m5, .ref m6, .ref m7, .ref m8, .ref m9, .ref m10, .ref m11, .ref m12, .ref m13, .int 0, .int 0, .int 0, .int 0, .ref m14, .ref m15, .int 0, .int 0, .int 0, .int 0, .ref m16, .ref m17, .ref m18]))] t) (va_A [(h0, .inr (4, [.int 0, .int 0, .ref m1, .int (-1), .int 0, .int 0, .ref m2, .ref m3, .ref m4, .ref m5, .ref m6, .ref m7, .ref m8, .ref m9, .ref m10, .ref m11, .ref m12, .ref m13, .int 0, .int 0, .int 0, .int 0, .ref m14, .ref m15, .int 0, .int 0, .int 0, .int 0, .ref m16, .ref m17, .ref m18]))] sz)) 0 0 (va_A [(h0, .inr (4, [.int 0, .int 0, .ref m1, .int (-1), .int 0, .int 0, .ref m2, .ref m3, .ref m4, .ref m5, .ref m6, .ref m7, .ref m8, .ref m9, .ref m10, .ref m11, .ref m12, .ref m13, .int 0, .int 0, .int 0, .int 0, .ref m14, .ref m15, .int 0, .int 0, .int 0, .int 0, .ref m16, .ref m17, .ref m18]))] sz) := by
  refine Met.ofW (cc := b_Mo_kind) (maxL := 1) (ret := (some .int)) (by decide) rfl ?_
  intro p e s m args below meth c s₁ B hml hv
  obtain ⟨rfl, hsz, hE, hP, hK, hD0⟩ := hv
  have hx := B.exec
  have hb := B.bytes
  have hr := B.returns
  have hts := atoms_spec (ws := Cond.code y_Mo_kind b_Mo_kind 1 (some .int) :: z_T) B.pre
  have htz : ∀ w ∈ z_T, w.before _ s = true := fun w h => hts w (z_cons w h)
  have hown : s.vm.findClass "QuestionTextModel" = some m.cls := findClass_of_methodNamed B.named
  have hlocks := B.notSynchronized
  subst hsz
  have hD := hD0.self (sz := s.heap.size)
  generalize hAe : va_A [(h0, .inr (4, [.int 0, .int 0, .ref m1, .int (-1), .int 0, .int 0, .ref m2, .ref m3, .ref m4, .ref m5, .ref m6, .ref m7, .ref m8, .ref m9, .ref m10, .ref m11, .ref m12, .ref m13, .int 0, .int 0, .int 0, .int 0, .ref m14, .ref m15, .int 0, .int 0, .int 0, .int 0, .ref m16, .ref m17, .ref m18]))] s.heap.size = A at hD hE ⊢
  have hA : ∀ q : Nat, s.heap.size ≤ q → A q := fun q h => by rw [← hAe]; exact Or.inr h
  have hS : va_S A s.heap s.heap [] := va_S.rf
  have hP : va_P (dC, dI) classes [(h0, .inr (4, [.int 0, .int 0, .ref m1, .int (-1), .int 0, .int 0, .ref m2, .ref m3, .ref m4, .ref m5, .ref m6, .ref m7, .ref m8, .ref m9, .ref m10, .ref m11, .ref m12, .ref m13, .int 0, .int 0, .int 0, .int 0, .ref m14, .ref m15, .int 0, .int 0, .int 0, .int 0, .ref m16, .ref m17, .ref m18]))] s.heap := hP
  have hl := lv_entry ([.ref h0]) (n := 1) (Nat.le_of_ble_eq_true rfl)
  rw [lg_entry_eq]
  generalize (lg_sl ([.ref h0]) ++ List.replicate (1 - (lg_sl ([.ref h0])).length) Slot.unset).toArray = ls at hl ⊢
  have hl : lv_has ls 1 [(0, .ref h0)] := hl
  refine lv_aload_n hx hb d_Mo_kind_0 rfl (lv_at hl 0 rfl) ?_
  refine lv_iconst (v := 0) hx hb d_Mo_kind_1 (by decide) ?_
  refine va_put (D := (dC, dI)) (ci := 4) (v := .int 0) (ty := .int) (C := R_Mo) (T := F_Mo) (N := 31) hx hb htz i_Mo t_Mo o_Mo n_Mo hown hK hP hD hS 0 rfl rfl 0 (by decide) (htz _ kf_Mo_69) (fun _ h9 => h9) rfl (by decide +kernel) rfl rfl (Nat.le_of_ble_eq_true rfl) d_Mo_kind_2 (fun H locs hP hD hS => ?_)
  have hP : va_P (dC, dI) classes [(h0, .inr (4, [.int 0, .int 0, .ref m1, .int (-1), .int 0, .int 0, .ref m2, .ref m3, .ref m4, .ref m5, .ref m6, .ref m7, .ref m8, .ref m9, .ref m10, .ref m11, .ref m12, .ref m13, .int 0, .int 0, .int 0, .int 0, .ref m14, .ref m15, .int 0, .int 0, .int 0, .int 0, .ref m16, .ref m17, .ref m18]))] H := hP
  have hD : va_D A [(h0, .inr (4, [.int 0, .int 0, .ref m1, .int (-1), .int 0, .int 0, .ref m2, .ref m3, .ref m4, .ref m5, .ref m6, .ref m7, .ref m8, .ref m9, .ref m10, .ref m11, .ref m12, .ref m13, .int 0, .int 0, .int 0, .int 0, .ref m14, .ref m15, .int 0, .int 0, .int 0, .int 0, .ref m16, .ref m17, .ref m18]))] := hD
  refine lv_aload_n hx hb d_Mo_kind_5 rfl (lv_at hl 0 rfl) ?_
  refine va_get (D := (dC, dI)) (ci := 4) (v := .int 0) (C := R_Mo) (T := F_Mo) (N := 31) hx hb htz i_Mo hown hK hP 0 rfl rfl 24 (by decide) (htz _ kf_Mo_141) (fun _ h9 => h9) rfl d_Mo_kind_6 ?_
  have hP9 := hP.sub (ws' := [(h0, .inr (4, [.int 0, .int 0, .ref m1, .int (-1), .int 0, .int 0, .ref m2, .ref m3, .ref m4, .ref m5, .ref m6, .ref m7, .ref m8, .ref m9, .ref m10, .ref m11, .ref m12, .ref m13, .int 0, .int 0, .int 0, .int 0, .ref m14, .ref m15, .int 0, .int 0, .int 0, .int 0, .ref m16, .ref m17, .ref m18]))]) [0] rfl
  have hD9 := hD.sub (ws' := [(h0, .inr (4, [.int 0, .int 0, .ref m1, .int (-1), .int 0, .int 0, .ref m2, .ref m3, .ref m4, .ref m5, .ref m6, .ref m7, .ref m8, .ref m9, .ref m10, .ref m11, .ref m12, .ref m13, .int 0, .int 0, .int 0, .int 0, .ref m14, .ref m15, .int 0, .int 0, .int 0, .int 0, .ref m16, .ref m17, .ref m18]))]) [0] (by decide) rfl
  exact W.iret (v := 0) hx hb hr (fun t ht hW => ⟨⟨0, (), rfl, rfl, by rw [ht]; exact hP9, va_K.moved hW.alike hK, hD9⟩, hS.F ht⟩) hS.2.2 d_Mo_kind_9
set_option maxHeartbeats 1000000 in
set_option maxRecDepth 100000 in
theorem c_Mo_points_0 (l : Launch) (dC : Nat → ClassId) (dI : Nat → Nat → Nat) (k : Nat → ClassId) (sz : Nat) (h0 : Nat) (m1 : Nat) (m2 : Nat) (m3 : Nat) (m4 : Nat) (m5 : Nat) (m6 : Nat) (m7 : Nat) (m8 : Nat) (m9 : Nat) (m10 : Nat) (m11 : Nat) (m12 : Nat) (m13 : Nat) (m14 : Nat) (m15 : Nat) (m16 : Nat) (m17 : Nat) (m18 : Nat) : Met l y_Mo_points (Cond.code y_Mo_points b_Mo_points 1 (some .int) :: z_T) (z_rm 0 0 0) (z_Pc dC dI k sz [.ref h0] [(h0, .inr (4, [.int 0, .int 0, .ref m1, .int (-1), .int 0, .int 0, .ref m2, .ref m3, .ref m4, .ref m5, .ref m6, .ref m7, .ref m8, .ref m9, .ref m10, .ref m11, .ref m12, .ref m13, .int 0, .int 0, .int 0, .int 0, .ref m14, .ref m15, .int 0, .int 0, .int 0, .int 0, .ref m16, .ref m17, .ref m18]))]) (va_Qi (fun (r : Int32) (u : Unit) => r = 0) (fun (u : Unit) t => z_B dC dI k (va_A [(h0, .inr (4, [.int 0, .int 0, .ref m1, .int (-1), .int 0, .int 0, .ref m2, .ref m3, .ref m4, .ref m5, .ref m6, .ref m7, .ref m8, .ref m9, .ref m10, .ref m11, .ref m12, .ref m13, .int 0, .int 0, .int 0, .int 0, .ref m14, .ref m15, .int 0, .int 0, .int 0, .int 0, .ref m16, .ref m17, .ref m18]))] sz) [(h0, .inr (4, [.int 1, .int 0, .ref m1, .int (-1), .int 0, .int 0, .ref m2, .ref m3, .ref m4, .ref m5, .ref m6, .ref m7, .ref m8, .ref m9, .ref m10, .ref m11, .ref m12, .ref m13, .int 0, .int 0, .int 0, .int 0, .ref m14, .ref m15, .int 0, .int 0, .int 0, .int 0, .ref m16, .ref m17, .ref m18]))] t) (va_A [(h0, .inr (4, [.int 0, .int 0, .ref m1, .int (-1), .int 0, .int 0, .ref m2, .ref m3, .ref m4, .ref m5, .ref m6, .ref m7, .ref m8, .ref m9, .ref m10, .ref m11, .ref m12, .ref m13, .int 0, .int 0, .int 0, .int 0, .ref m14, .ref m15, .int 0, .int 0, .int 0, .int 0, .ref m16, .ref m17, .ref m18]))] sz)) 0 0 (va_A [(h0, .inr (4, [.int 0, .int 0, .ref m1, .int (-1), .int 0, .int 0, .ref m2, .ref m3, .ref m4, .ref m5, .ref m6, .ref m7, .ref m8, .ref m9, .ref m10, .ref m11, .ref m12, .ref m13, .int 0, .int 0, .int 0, .int 0, .ref m14, .ref m15, .int 0, .int 0, .int 0, .int 0, .ref m16, .ref m17, .ref m18]))] sz) := by
  refine Met.ofW (cc := b_Mo_points) (maxL := 1) (ret := (some .int)) (by decide) rfl ?_
  intro p e s m args below meth c s₁ B hml hv
  obtain ⟨rfl, hsz, hE, hP, hK, hD0⟩ := hv
  have hx := B.exec
  have hb := B.bytes
  have hr := B.returns
  have hts := atoms_spec (ws := Cond.code y_Mo_points b_Mo_points 1 (some .int) :: z_T) B.pre
  have htz : ∀ w ∈ z_T, w.before _ s = true := fun w h => hts w (z_cons w h)
  have hown : s.vm.findClass "QuestionTextModel" = some m.cls := findClass_of_methodNamed B.named
  have hlocks := B.notSynchronized
  subst hsz
  have hD := hD0.self (sz := s.heap.size)
  generalize hAe : va_A [(h0, .inr (4, [.int 0, .int 0, .ref m1, .int (-1), .int 0, .int 0, .ref m2, .ref m3, .ref m4, .ref m5, .ref m6, .ref m7, .ref m8, .ref m9, .ref m10, .ref m11, .ref m12, .ref m13, .int 0, .int 0, .int 0, .int 0, .ref m14, .ref m15, .int 0, .int 0, .int 0, .int 0, .ref m16, .ref m17, .ref m18]))] s.heap.size = A at hD hE ⊢
  have hA : ∀ q : Nat, s.heap.size ≤ q → A q := fun q h => by rw [← hAe]; exact Or.inr h
  have hS : va_S A s.heap s.heap [] := va_S.rf
  have hP : va_P (dC, dI) classes [(h0, .inr (4, [.int 0, .int 0, .ref m1, .int (-1), .int 0, .int 0, .ref m2, .ref m3, .ref m4, .ref m5, .ref m6, .ref m7, .ref m8, .ref m9, .ref m10, .ref m11, .ref m12, .ref m13, .int 0, .int 0, .int 0, .int 0, .ref m14, .ref m15, .int 0, .int 0, .int 0, .int 0, .ref m16, .ref m17, .ref m18]))] s.heap := hP
  have hl := lv_entry ([.ref h0]) (n := 1) (Nat.le_of_ble_eq_true rfl)
  rw [lg_entry_eq]
  generalize (lg_sl ([.ref h0]) ++ List.replicate (1 - (lg_sl ([.ref h0])).length) Slot.unset).toArray = ls at hl ⊢
  have hl : lv_has ls 1 [(0, .ref h0)] := hl
  refine lv_aload_n hx hb d_Mo_points_0 rfl (lv_at hl 0 rfl) ?_
  refine lv_aload_n hx hb d_Mo_points_1 rfl (lv_at hl 0 rfl) ?_
  refine va_get (D := (dC, dI)) (ci := 4) (v := .int 0) (C := R_Mo) (T := F_Mo) (N := 31) hx hb htz i_Mo hown hK hP 0 rfl rfl 24 (by decide) (htz _ kf_Mo_141) (fun _ h9 => h9) rfl d_Mo_points_2 ?_
  refine lv_if_ne (tgt := 12) hx hb d_Mo_points_5 (by decide) (fun c_5 => ?_) (fun c_5 => ?_)
  · exact absurd rfl c_5
  · refine lv_iconst (v := 1) hx hb d_Mo_points_8 (by decide) ?_
    refine lv_goto (tgt := 13) hx hb d_Mo_points_9 (by decide) ?_
    refine va_put (D := (dC, dI)) (ci := 4) (v := .int 1) (ty := .int) (C := R_Mo) (T := F_Mo) (N := 31) hx hb htz i_Mo t_Mo o_Mo n_Mo hown hK hP hD hS 0 rfl rfl 0 (by decide) (htz _ kf_Mo_69) (fun _ h9 => h9) rfl (by decide +kernel) rfl rfl (Nat.le_of_ble_eq_true rfl) d_Mo_points_13 (fun H locs hP hD hS => ?_)
    have hP : va_P (dC, dI) classes [(h0, .inr (4, [.int 1, .int 0, .ref m1, .int (-1), .int 0, .int 0, .ref m2, .ref m3, .ref m4, .ref m5, .ref m6, .ref m7, .ref m8, .ref m9, .ref m10, .ref m11, .ref m12, .ref m13, .int 0, .int 0, .int 0, .int 0, .ref m14, .ref m15, .int 0, .int 0, .int 0, .int 0, .ref m16, .ref m17, .ref m18]))] H := hP
    have hD : va_D A [(h0, .inr (4, [.int 1, .int 0, .ref m1, .int (-1), .int 0, .int 0, .ref m2, .ref m3, .ref m4, .ref m5, .ref m6, .ref m7, .ref m8, .ref m9, .ref m10, .ref m11, .ref m12, .ref m13, .int 0, .int 0, .int 0, .int 0, .ref m14, .ref m15, .int 0, .int 0, .int 0, .int 0, .ref m16, .ref m17, .ref m18]))] := hD
    refine lv_aload_n hx hb d_Mo_points_16 rfl (lv_at hl 0 rfl) ?_
    refine va_get (D := (dC, dI)) (ci := 4) (v := .int 1) (C := R_Mo) (T := F_Mo) (N := 31) hx hb htz i_Mo hown hK hP 0 rfl rfl 0 (by decide) (htz _ kf_Mo_69) (fun _ h9 => h9) rfl d_Mo_points_17 ?_
    refine lv_if_le (tgt := 27) hx hb d_Mo_points_20 (by decide) (fun c_20 => ?_) (fun c_20 => ?_)
    · exact absurd c_20 (by decide)
    · refine lv_iconst (v := 0) hx hb d_Mo_points_23 (by decide) ?_
      refine lv_goto (tgt := 31) hx hb d_Mo_points_24 (by decide) ?_
      have hP9 := hP.sub (ws' := [(h0, .inr (4, [.int 1, .int 0, .ref m1, .int (-1), .int 0, .int 0, .ref m2, .ref m3, .ref m4, .ref m5, .ref m6, .ref m7, .ref m8, .ref m9, .ref m10, .ref m11, .ref m12, .ref m13, .int 0, .int 0, .int 0, .int 0, .ref m14, .ref m15, .int 0, .int 0, .int 0, .int 0, .ref m16, .ref m17, .ref m18]))]) [0] rfl
      have hD9 := hD.sub (ws' := [(h0, .inr (4, [.int 1, .int 0, .ref m1, .int (-1), .int 0, .int 0, .ref m2, .ref m3, .ref m4, .ref m5, .ref m6, .ref m7, .ref m8, .ref m9, .ref m10, .ref m11, .ref m12, .ref m13, .int 0, .int 0, .int 0, .int 0, .ref m14, .ref m15, .int 0, .int 0, .int 0, .int 0, .ref m16, .ref m17, .ref m18]))]) [0] (by decide) rfl
      exact W.iret (v := 0) hx hb hr (fun t ht hW => ⟨⟨0, (), rfl, rfl, by rw [ht]; exact hP9, va_K.moved hW.alike hK, hD9⟩, hS.F ht⟩) hS.2.2 d_Mo_points_31
set_option maxHeartbeats 1000000 in
set_option maxRecDepth 100000 in
theorem c_Mo_priority_0 (l : Launch) (dC : Nat → ClassId) (dI : Nat → Nat → Nat) (k : Nat → ClassId) (sz : Nat) (h0 : Nat) (m1 : Nat) (m2 : Nat) (m3 : Nat) (m4 : Nat) (m5 : Nat) (m6 : Nat) (m7 : Nat) (m8 : Nat) (m9 : Nat) (m10 : Nat) (m11 : Nat) (m12 : Nat) (m13 : Nat) (m14 : Nat) (m15 : Nat) (m16 : Nat) (m17 : Nat) (m18 : Nat) : Met l y_Mo_priority (Cond.code y_Mo_priority b_Mo_priority 6 (some .int) :: z_T) (z_rm 0 0 0) (z_Pc dC dI k sz [.ref h0] [(h0, .inr (4, [.int 0, .int 0, .ref m1, .int (-1), .int 0, .int 0, .ref m2, .ref m3, .ref m4, .ref m5, .ref m6, .ref m7, .ref m8, .ref m9, .ref m10, .ref m11, .ref m12, .ref m13, .int 0, .int 0, .int 0, .int 0, .ref m14, .ref m15, .int 0, .int 0, .int 0, .int 0, .ref m16, .ref m17, .ref m18]))]) (va_Qi (fun (r : Int32) (u : Unit) => r = 0) (fun (u : Unit) t => z_B dC dI k (va_A [(h0, .inr (4, [.int 0, .int 0, .ref m1, .int (-1), .int 0, .int 0, .ref m2, .ref m3, .ref m4, .ref m5, .ref m6, .ref m7, .ref m8, .ref m9, .ref m10, .ref m11, .ref m12, .ref m13, .int 0, .int 0, .int 0, .int 0, .ref m14, .ref m15, .int 0, .int 0, .int 0, .int 0, .ref m16, .ref m17, .ref m18]))] sz) [(h0, .inr (4, [.int 1, .int 0, .ref m1, .int (-1), .int 0, .int 0, .ref m2, .ref m3, .ref m4, .ref m5, .ref m6, .ref m7, .ref m8, .ref m9, .ref m10, .ref m11, .ref m12, .ref m13, .int 0, .int 0, .int 0, .int 0, .ref m14, .ref m15, .int 0, .int 0, .int 0, .int 0, .ref m16, .ref m17, .ref m18]))] t) (va_A [(h0, .inr (4, [.int 0, .int 0, .ref m1, .int (-1), .int 0, .int 0, .ref m2, .ref m3, .ref m4, .ref m5, .ref m6, .ref m7, .ref m8, .ref m9, .ref m10, .ref m11, .ref m12, .ref m13, .int 0, .int 0, .int 0, .int 0, .ref m14, .ref m15, .int 0, .int 0, .int 0, .int 0, .ref m16, .ref m17, .ref m18]))] sz)) 0 0 (va_A [(h0, .inr (4, [.int 0, .int 0, .ref m1, .int (-1), .int 0, .int 0, .ref m2, .ref m3, .ref m4, .ref m5, .ref m6, .ref m7, .ref m8, .ref m9, .ref m10, .ref m11, .ref m12, .ref m13, .int 0, .int 0, .int 0, .int 0, .ref m14, .ref m15, .int 0, .int 0, .int 0, .int 0, .ref m16, .ref m17, .ref m18]))] sz) := by
  refine Met.ofW (cc := b_Mo_priority) (maxL := 6) (ret := (some .int)) (by decide) rfl ?_
  intro p e s m args below meth c s₁ B hml hv
  obtain ⟨rfl, hsz, hE, hP, hK, hD0⟩ := hv
  have hx := B.exec
  have hb := B.bytes
  have hr := B.returns
  have hts := atoms_spec (ws := Cond.code y_Mo_priority b_Mo_priority 6 (some .int) :: z_T) B.pre
  have htz : ∀ w ∈ z_T, w.before _ s = true := fun w h => hts w (z_cons w h)
  have hown : s.vm.findClass "QuestionTextModel" = some m.cls := findClass_of_methodNamed B.named
  have hlocks := B.notSynchronized
  subst hsz
  have hD := hD0.self (sz := s.heap.size)
  generalize hAe : va_A [(h0, .inr (4, [.int 0, .int 0, .ref m1, .int (-1), .int 0, .int 0, .ref m2, .ref m3, .ref m4, .ref m5, .ref m6, .ref m7, .ref m8, .ref m9, .ref m10, .ref m11, .ref m12, .ref m13, .int 0, .int 0, .int 0, .int 0, .ref m14, .ref m15, .int 0, .int 0, .int 0, .int 0, .ref m16, .ref m17, .ref m18]))] s.heap.size = A at hD hE ⊢
  have hA : ∀ q : Nat, s.heap.size ≤ q → A q := fun q h => by rw [← hAe]; exact Or.inr h
  have hS : va_S A s.heap s.heap [] := va_S.rf
  have hP : va_P (dC, dI) classes [(h0, .inr (4, [.int 0, .int 0, .ref m1, .int (-1), .int 0, .int 0, .ref m2, .ref m3, .ref m4, .ref m5, .ref m6, .ref m7, .ref m8, .ref m9, .ref m10, .ref m11, .ref m12, .ref m13, .int 0, .int 0, .int 0, .int 0, .ref m14, .ref m15, .int 0, .int 0, .int 0, .int 0, .ref m16, .ref m17, .ref m18]))] s.heap := hP
  have hl := lv_entry ([.ref h0]) (n := 6) (Nat.le_of_ble_eq_true rfl)
  rw [lg_entry_eq]
  generalize (lg_sl ([.ref h0]) ++ List.replicate (6 - (lg_sl ([.ref h0])).length) Slot.unset).toArray = ls at hl ⊢
  have hl : lv_has ls 6 [(0, .ref h0)] := hl
  refine lv_aload_n hx hb d_Mo_priority_0 rfl (lv_at hl 0 rfl) ?_
  refine lv_aload_n hx hb d_Mo_priority_1 rfl (lv_at hl 0 rfl) ?_
  refine va_get (D := (dC, dI)) (ci := 4) (v := .int 0) (C := R_Mo) (T := F_Mo) (N := 31) hx hb htz i_Mo hown hK hP 0 rfl rfl 24 (by decide) (htz _ kf_Mo_141) (fun _ h9 => h9) rfl d_Mo_priority_2 ?_
  refine lv_if_ne (tgt := 12) hx hb d_Mo_priority_5 (by decide) (fun c_5 => ?_) (fun c_5 => ?_)
  · exact absurd rfl c_5
  · refine lv_iconst (v := 1) hx hb d_Mo_priority_8 (by decide) ?_
    refine lv_goto (tgt := 13) hx hb d_Mo_priority_9 (by decide) ?_
    refine va_put (D := (dC, dI)) (ci := 4) (v := .int 1) (ty := .int) (C := R_Mo) (T := F_Mo) (N := 31) hx hb htz i_Mo t_Mo o_Mo n_Mo hown hK hP hD hS 0 rfl rfl 0 (by decide) (htz _ kf_Mo_69) (fun _ h9 => h9) rfl (by decide +kernel) rfl rfl (Nat.le_of_ble_eq_true rfl) d_Mo_priority_13 (fun H locs hP hD hS => ?_)
    have hP : va_P (dC, dI) classes [(h0, .inr (4, [.int 1, .int 0, .ref m1, .int (-1), .int 0, .int 0, .ref m2, .ref m3, .ref m4, .ref m5, .ref m6, .ref m7, .ref m8, .ref m9, .ref m10, .ref m11, .ref m12, .ref m13, .int 0, .int 0, .int 0, .int 0, .ref m14, .ref m15, .int 0, .int 0, .int 0, .int 0, .ref m16, .ref m17, .ref m18]))] H := hP
    have hD : va_D A [(h0, .inr (4, [.int 1, .int 0, .ref m1, .int (-1), .int 0, .int 0, .ref m2, .ref m3, .ref m4, .ref m5, .ref m6, .ref m7, .ref m8, .ref m9, .ref m10, .ref m11, .ref m12, .ref m13, .int 0, .int 0, .int 0, .int 0, .ref m14, .ref m15, .int 0, .int 0, .int 0, .int 0, .ref m16, .ref m17, .ref m18]))] := hD
    refine lv_aload_n hx hb d_Mo_priority_16 rfl (lv_at hl 0 rfl) ?_
    refine va_get (D := (dC, dI)) (ci := 4) (v := .int 1) (C := R_Mo) (T := F_Mo) (N := 31) hx hb htz i_Mo hown hK hP 0 rfl rfl 0 (by decide) (htz _ kf_Mo_69) (fun _ h9 => h9) rfl d_Mo_priority_17 ?_
    refine lv_if_le (tgt := 25) hx hb d_Mo_priority_20 (by decide) (fun c_20 => ?_) (fun c_20 => ?_)
    · exact absurd c_20 (by decide)
    · refine lv_iconst (v := 0) hx hb d_Mo_priority_23 (by decide) ?_
      have hP9 := hP.sub (ws' := [(h0, .inr (4, [.int 1, .int 0, .ref m1, .int (-1), .int 0, .int 0, .ref m2, .ref m3, .ref m4, .ref m5, .ref m6, .ref m7, .ref m8, .ref m9, .ref m10, .ref m11, .ref m12, .ref m13, .int 0, .int 0, .int 0, .int 0, .ref m14, .ref m15, .int 0, .int 0, .int 0, .int 0, .ref m16, .ref m17, .ref m18]))]) [0] rfl
      have hD9 := hD.sub (ws' := [(h0, .inr (4, [.int 1, .int 0, .ref m1, .int (-1), .int 0, .int 0, .ref m2, .ref m3, .ref m4, .ref m5, .ref m6, .ref m7, .ref m8, .ref m9, .ref m10, .ref m11, .ref m12, .ref m13, .int 0, .int 0, .int 0, .int 0, .ref m14, .ref m15, .int 0, .int 0, .int 0, .int 0, .ref m16, .ref m17, .ref m18]))]) [0] (by decide) rfl
      exact W.iret (v := 0) hx hb hr (fun t ht hW => ⟨⟨0, (), rfl, rfl, by rw [ht]; exact hP9, va_K.moved hW.alike hK, hD9⟩, hS.F ht⟩) hS.2.2 d_Mo_priority_24
set_option maxHeartbeats 1000000 in
set_option maxRecDepth 100000 in
theorem c_Mo_answer_0 (l : Launch) (dC : Nat → ClassId) (dI : Nat → Nat → Nat) (k : Nat → ClassId) (sz : Nat) (h0 : Nat) (m1 : Nat) (m2 : Nat) (m3 : Nat) (m4 : Nat) (m5 : Nat) (m6 : Nat) (m7 : Nat) (m8 : Nat) (m9 : Nat) (m10 : Nat) (m11 : Nat) (m12 : Nat) (m13 : Nat) (m14 : Nat) (m15 : Nat) (m16 : Nat) (m17 : Nat) (m18 : Nat) (x : Int32) : Met l y_Mo_answer (Cond.code y_Mo_answer b_Mo_answer 5 (some .int) :: z_T) (z_rm 0 0 0) (z_Pc dC dI k sz [.ref h0, .int x] [(h0, .inr (4, [.int 0, .int 0, .ref m1, .int (-1), .int 0, .int 0, .ref m2, .ref m3, .ref m4, .ref m5, .ref m6, .ref m7, .ref m8, .ref m9, .ref m10, .ref m11, .ref m12, .ref m13, .int 0, .int 0, .int 0, .int 0, .ref m14, .ref m15, .int 0, .int 0, .int 0, .int 0, .ref m16, .ref m17, .ref m18]))]) (va_Qi (fun (r : Int32) (u : Unit) => r = 0) (fun (u : Unit) t => z_B dC dI k (va_A [(h0, .inr (4, [.int 0, .int 0, .ref m1, .int (-1), .int 0, .int 0, .ref m2, .ref m3, .ref m4, .ref m5, .ref m6, .ref m7, .ref m8, .ref m9, .ref m10, .ref m11, .ref m12, .ref m13, .int 0, .int 0, .int 0, .int 0, .ref m14, .ref m15, .int 0, .int 0, .int 0, .int 0, .ref m16, .ref m17, .ref m18]))] sz) [(h0, .inr (4, [.int 2, .int 0, .ref m1, .int (-1), .int 0, .int 0, .ref m2, .ref m3, .ref m4, .ref m5, .ref m6, .ref m7, .ref m8, .ref m9, .ref m10, .ref m11, .ref m12, .ref m13, .int 0, .int 0, .int 0, .int 0, .ref m14, .ref m15, .int 0, .int 0, .int 0, .int 0, .ref m16, .ref m17, .ref m18]))] t) (va_A [(h0, .inr (4, [.int 0, .int 0, .ref m1, .int (-1), .int 0, .int 0, .ref m2, .ref m3, .ref m4, .ref m5, .ref m6, .ref m7, .ref m8, .ref m9, .ref m10, .ref m11, .ref m12, .ref m13, .int 0, .int 0, .int 0, .int 0, .ref m14, .ref m15, .int 0, .int 0, .int 0, .int 0, .ref m16, .ref m17, .ref m18]))] sz)) 0 0 (va_A [(h0, .inr (4, [.int 0, .int 0, .ref m1, .int (-1), .int 0, .int 0, .ref m2, .ref m3, .ref m4, .ref m5, .ref m6, .ref m7, .ref m8, .ref m9, .ref m10, .ref m11, .ref m12, .ref m13, .int 0, .int 0, .int 0, .int 0, .ref m14, .ref m15, .int 0, .int 0, .int 0, .int 0, .ref m16, .ref m17, .ref m18]))] sz) := by
  refine Met.ofW (cc := b_Mo_answer) (maxL := 5) (ret := (some .int)) (by decide) rfl ?_
  intro p e s m args below meth c s₁ B hml hv
  obtain ⟨rfl, hsz, hE, hP, hK, hD0⟩ := hv
  have hx := B.exec
  have hb := B.bytes
  have hr := B.returns
  have hts := atoms_spec (ws := Cond.code y_Mo_answer b_Mo_answer 5 (some .int) :: z_T) B.pre
  have htz : ∀ w ∈ z_T, w.before _ s = true := fun w h => hts w (z_cons w h)
  have hown : s.vm.findClass "QuestionTextModel" = some m.cls := findClass_of_methodNamed B.named
  have hlocks := B.notSynchronized
  subst hsz
  have hD := hD0.self (sz := s.heap.size)
  generalize hAe : va_A [(h0, .inr (4, [.int 0, .int 0, .ref m1, .int (-1), .int 0, .int 0, .ref m2, .ref m3, .ref m4, .ref m5, .ref m6, .ref m7, .ref m8, .ref m9, .ref m10, .ref m11, .ref m12, .ref m13, .int 0, .int 0, .int 0, .int 0, .ref m14, .ref m15, .int 0, .int 0, .int 0, .int 0, .ref m16, .ref m17, .ref m18]))] s.heap.size = A at hD hE ⊢
  have hA : ∀ q : Nat, s.heap.size ≤ q → A q := fun q h => by rw [← hAe]; exact Or.inr h
  have hS : va_S A s.heap s.heap [] := va_S.rf
  have hP : va_P (dC, dI) classes [(h0, .inr (4, [.int 0, .int 0, .ref m1, .int (-1), .int 0, .int 0, .ref m2, .ref m3, .ref m4, .ref m5, .ref m6, .ref m7, .ref m8, .ref m9, .ref m10, .ref m11, .ref m12, .ref m13, .int 0, .int 0, .int 0, .int 0, .ref m14, .ref m15, .int 0, .int 0, .int 0, .int 0, .ref m16, .ref m17, .ref m18]))] s.heap := hP
  have hl := lv_entry ([.ref h0, .int x]) (n := 5) (Nat.le_of_ble_eq_true rfl)
  rw [lg_entry_eq]
  generalize (lg_sl ([.ref h0, .int x]) ++ List.replicate (5 - (lg_sl ([.ref h0, .int x])).length) Slot.unset).toArray = ls at hl ⊢
  have hl : lv_has ls 5 [(0, .ref h0), (1, .int x)] := hl
  refine lv_aload_n hx hb d_Mo_answer_0 rfl (lv_at hl 0 rfl) ?_
  refine lv_aload_n hx hb d_Mo_answer_1 rfl (lv_at hl 0 rfl) ?_
  refine va_get (D := (dC, dI)) (ci := 4) (v := .int 0) (C := R_Mo) (T := F_Mo) (N := 31) hx hb htz i_Mo hown hK hP 0 rfl rfl 24 (by decide) (htz _ kf_Mo_141) (fun _ h9 => h9) rfl d_Mo_answer_2 ?_
  refine lv_if_eq (tgt := 15) hx hb d_Mo_answer_5 (by decide) (fun c_5 => ?_) (fun c_5 => ?_)
  · refine lv_iconst (v := 2) hx hb d_Mo_answer_15 (by decide) ?_
    refine lv_goto (tgt := 20) hx hb d_Mo_answer_16 (by decide) ?_
    refine va_put (D := (dC, dI)) (ci := 4) (v := .int 2) (ty := .int) (C := R_Mo) (T := F_Mo) (N := 31) hx hb htz i_Mo t_Mo o_Mo n_Mo hown hK hP hD hS 0 rfl rfl 0 (by decide) (htz _ kf_Mo_69) (fun _ h9 => h9) rfl (by decide +kernel) rfl rfl (Nat.le_of_ble_eq_true rfl) d_Mo_answer_20 (fun H locs hP hD hS => ?_)
    have hP : va_P (dC, dI) classes [(h0, .inr (4, [.int 2, .int 0, .ref m1, .int (-1), .int 0, .int 0, .ref m2, .ref m3, .ref m4, .ref m5, .ref m6, .ref m7, .ref m8, .ref m9, .ref m10, .ref m11, .ref m12, .ref m13, .int 0, .int 0, .int 0, .int 0, .ref m14, .ref m15, .int 0, .int 0, .int 0, .int 0, .ref m16, .ref m17, .ref m18]))] H := hP
    have hD : va_D A [(h0, .inr (4, [.int 2, .int 0, .ref m1, .int (-1), .int 0, .int 0, .ref m2, .ref m3, .ref m4, .ref m5, .ref m6, .ref m7, .ref m8, .ref m9, .ref m10, .ref m11, .ref m12, .ref m13, .int 0, .int 0, .int 0, .int 0, .ref m14, .ref m15, .int 0, .int 0, .int 0, .int 0, .ref m16, .ref m17, .ref m18]))] := hD
    refine lv_aload_n hx hb d_Mo_answer_23 rfl (lv_at hl 0 rfl) ?_
    refine va_get (D := (dC, dI)) (ci := 4) (v := .int 2) (C := R_Mo) (T := F_Mo) (N := 31) hx hb htz i_Mo hown hK hP 0 rfl rfl 0 (by decide) (htz _ kf_Mo_69) (fun _ h9 => h9) rfl d_Mo_answer_24 ?_
    refine lv_if_le (tgt := 32) hx hb d_Mo_answer_27 (by decide) (fun c_27 => ?_) (fun c_27 => ?_)
    · exact absurd c_27 (by decide)
    · refine lv_iconst (v := 0) hx hb d_Mo_answer_30 (by decide) ?_
      have hP9 := hP.sub (ws' := [(h0, .inr (4, [.int 2, .int 0, .ref m1, .int (-1), .int 0, .int 0, .ref m2, .ref m3, .ref m4, .ref m5, .ref m6, .ref m7, .ref m8, .ref m9, .ref m10, .ref m11, .ref m12, .ref m13, .int 0, .int 0, .int 0, .int 0, .ref m14, .ref m15, .int 0, .int 0, .int 0, .int 0, .ref m16, .ref m17, .ref m18]))]) [0] rfl
      have hD9 := hD.sub (ws' := [(h0, .inr (4, [.int 2, .int 0, .ref m1, .int (-1), .int 0, .int 0, .ref m2, .ref m3, .ref m4, .ref m5, .ref m6, .ref m7, .ref m8, .ref m9, .ref m10, .ref m11, .ref m12, .ref m13, .int 0, .int 0, .int 0, .int 0, .ref m14, .ref m15, .int 0, .int 0, .int 0, .int 0, .ref m16, .ref m17, .ref m18]))]) [0] (by decide) rfl
      exact W.iret (v := 0) hx hb hr (fun t ht hW => ⟨⟨0, (), rfl, rfl, by rw [ht]; exact hP9, va_K.moved hW.alike hK, hD9⟩, hS.F ht⟩) hS.2.2 d_Mo_answer_31
  · exact absurd rfl c_5
theorem z_nlt {x : Int32} (h : ¬ x < 0) : 0 ≤ x := by
  rw [Int32.lt_iff_toInt_lt] at h
  rw [Int32.le_iff_toInt_le]
  omega
theorem z_nle {x : Int32} (h : x < 0) : ¬ 0 ≤ x := by
  rw [Int32.lt_iff_toInt_lt] at h
  rw [Int32.le_iff_toInt_le]
  omega
set_option maxHeartbeats 1000000 in
set_option maxRecDepth 100000 in
theorem c_Mo_asked_0 (l : Launch) (dC : Nat → ClassId) (dI : Nat → Nat → Nat) (k : Nat → ClassId) (sz : Nat) (h0 : Nat) (m1 : Nat) (m2 : Nat) (m3 : Nat) (m4 : Nat) (m5 : Nat) (m6 : Nat) (m7 : Nat) (m8 : Nat) (m9 : Nat) (m10 : Nat) (m11 : Nat) (m12 : Nat) (m13 : Nat) (m14 : Nat) (m15 : Nat) (m16 : Nat) (m17 : Nat) (m18 : Nat) (x : Int32) : Met l y_Mo_asked (Cond.code y_Mo_asked b_Mo_asked 2 (some .int) :: z_T) (z_rm 1 0 0) (z_Pc dC dI k sz [.ref h0, .int x] [(h0, .inr (4, [.int 0, .int 0, .ref m1, .int (-1), .int 0, .int 0, .ref m2, .ref m3, .ref m4, .ref m5, .ref m6, .ref m7, .ref m8, .ref m9, .ref m10, .ref m11, .ref m12, .ref m13, .int 0, .int 0, .int 0, .int 0, .ref m14, .ref m15, .int 0, .int 0, .int 0, .int 0, .ref m16, .ref m17, .ref m18]))]) (va_Qi (fun (r : Int32) (u : Int32) => r = 0 ∧ ((0 ≤ x ∧ u = 0) ∨ (¬ 0 ≤ x ∧ u = 1))) (fun (u : Int32) t => z_B dC dI k (va_A [(h0, .inr (4, [.int 0, .int 0, .ref m1, .int (-1), .int 0, .int 0, .ref m2, .ref m3, .ref m4, .ref m5, .ref m6, .ref m7, .ref m8, .ref m9, .ref m10, .ref m11, .ref m12, .ref m13, .int 0, .int 0, .int 0, .int 0, .ref m14, .ref m15, .int 0, .int 0, .int 0, .int 0, .ref m16, .ref m17, .ref m18]))] sz) [(h0, .inr (4, [.int u, .int 0, .ref m1, .int (-1), .int 0, .int 0, .ref m2, .ref m3, .ref m4, .ref m5, .ref m6, .ref m7, .ref m8, .ref m9, .ref m10, .ref m11, .ref m12, .ref m13, .int 0, .int 0, .int 0, .int 0, .ref m14, .ref m15, .int 0, .int 0, .int 0, .int 0, .ref m16, .ref m17, .ref m18]))] t) (va_A [(h0, .inr (4, [.int 0, .int 0, .ref m1, .int (-1), .int 0, .int 0, .ref m2, .ref m3, .ref m4, .ref m5, .ref m6, .ref m7, .ref m8, .ref m9, .ref m10, .ref m11, .ref m12, .ref m13, .int 0, .int 0, .int 0, .int 0, .ref m14, .ref m15, .int 0, .int 0, .int 0, .int 0, .ref m16, .ref m17, .ref m18]))] sz)) 0 0 (va_A [(h0, .inr (4, [.int 0, .int 0, .ref m1, .int (-1), .int 0, .int 0, .ref m2, .ref m3, .ref m4, .ref m5, .ref m6, .ref m7, .ref m8, .ref m9, .ref m10, .ref m11, .ref m12, .ref m13, .int 0, .int 0, .int 0, .int 0, .ref m14, .ref m15, .int 0, .int 0, .int 0, .int 0, .ref m16, .ref m17, .ref m18]))] sz) := by
  refine Met.ofW (cc := b_Mo_asked) (maxL := 2) (ret := (some .int)) (by decide) rfl ?_
  intro p e s m args below meth c s₁ B hml hv
  obtain ⟨rfl, hsz, hE, hP, hK, hD0⟩ := hv
  have hx := B.exec
  have hb := B.bytes
  have hr := B.returns
  have hts := atoms_spec (ws := Cond.code y_Mo_asked b_Mo_asked 2 (some .int) :: z_T) B.pre
  have htz : ∀ w ∈ z_T, w.before _ s = true := fun w h => hts w (z_cons w h)
  have hown : s.vm.findClass "QuestionTextModel" = some m.cls := findClass_of_methodNamed B.named
  have hlocks := B.notSynchronized
  subst hsz
  have hD := hD0.self (sz := s.heap.size)
  generalize hAe : va_A [(h0, .inr (4, [.int 0, .int 0, .ref m1, .int (-1), .int 0, .int 0, .ref m2, .ref m3, .ref m4, .ref m5, .ref m6, .ref m7, .ref m8, .ref m9, .ref m10, .ref m11, .ref m12, .ref m13, .int 0, .int 0, .int 0, .int 0, .ref m14, .ref m15, .int 0, .int 0, .int 0, .int 0, .ref m16, .ref m17, .ref m18]))] s.heap.size = A at hD hE ⊢
  have hA : ∀ q : Nat, s.heap.size ≤ q → A q := fun q h => by rw [← hAe]; exact Or.inr h
  have hS : va_S A s.heap s.heap [] := va_S.rf
  have hP : va_P (dC, dI) classes [(h0, .inr (4, [.int 0, .int 0, .ref m1, .int (-1), .int 0, .int 0, .ref m2, .ref m3, .ref m4, .ref m5, .ref m6, .ref m7, .ref m8, .ref m9, .ref m10, .ref m11, .ref m12, .ref m13, .int 0, .int 0, .int 0, .int 0, .ref m14, .ref m15, .int 0, .int 0, .int 0, .int 0, .ref m16, .ref m17, .ref m18]))] s.heap := hP
  have hl := lv_entry ([.ref h0, .int x]) (n := 2) (Nat.le_of_ble_eq_true rfl)
  rw [lg_entry_eq]
  generalize (lg_sl ([.ref h0, .int x]) ++ List.replicate (2 - (lg_sl ([.ref h0, .int x])).length) Slot.unset).toArray = ls at hl ⊢
  have hl : lv_has ls 2 [(0, .ref h0), (1, .int x)] := hl
  refine lv_aload_n hx hb d_Mo_asked_0 rfl (lv_at hl 0 rfl) ?_
  refine lv_iload_n hx hb d_Mo_asked_1 rfl (lv_at hl 1 rfl) ?_
  refine lv_if_lt (tgt := 9) hx hb d_Mo_asked_2 (by decide) (fun c_2 => ?_) (fun c_2 => ?_)
  · refine lv_iconst (v := 0) hx hb d_Mo_asked_9 (by decide) ?_
    have hPc := hP.sub (ws' := [(h0, .inr (4, [.int 0, .int 0, .ref m1, .int (-1), .int 0, .int 0, .ref m2, .ref m3, .ref m4, .ref m5, .ref m6, .ref m7, .ref m8, .ref m9, .ref m10, .ref m11, .ref m12, .ref m13, .int 0, .int 0, .int 0, .int 0, .ref m14, .ref m15, .int 0, .int 0, .int 0, .int 0, .ref m16, .ref m17, .ref m18]))]) [0] rfl
    have hDc := hD.sub (ws' := [(h0, .inr (4, [.int 0, .int 0, .ref m1, .int (-1), .int 0, .int 0, .ref m2, .ref m3, .ref m4, .ref m5, .ref m6, .ref m7, .ref m8, .ref m9, .ref m10, .ref m11, .ref m12, .ref m13, .int 0, .int 0, .int 0, .int 0, .ref m14, .ref m15, .int 0, .int 0, .int 0, .int 0, .ref m16, .ref m17, .ref m18]))]) [0] (by decide) rfl
    have hFc := va_free (wc := [(h0, .inr (4, [.int 0, .int 0, .ref m1, .int (-1), .int 0, .int 0, .ref m2, .ref m3, .ref m4, .ref m5, .ref m6, .ref m7, .ref m8, .ref m9, .ref m10, .ref m11, .ref m12, .ref m13, .int 0, .int 0, .int 0, .int 0, .ref m14, .ref m15, .int 0, .int 0, .int 0, .int 0, .ref m16, .ref m17, .ref m18]))]) hD hS hA [0] rfl
    refine va_calli (va_runV (As := [.int 0]) (rest := []) ⟨hx, hb, hml, hown, htz⟩ (c_Mo_says l dC dI k s.heap.size h0 m1 m2 m3 m4 m5 m6 m7 m8 m9 m10 m11 m12 m13 m14 m15 m16 m17 m18 0 0 (-1) 0 0 0 0 0 0 0 0 0 0 0 (by decide)) (cwV 1 htz (z_gV (fun _ h => h) km_Mo_147 in_Mo_says se_Mo_says ini_Mo m_Mo_says) rfl rfl rfl (by decide +kernel) ⟨(Nat.le_of_ble_eq_true rfl), (Nat.le_of_ble_eq_true rfl)⟩) ⟨z_blind, va_recv hK hPc (ci := 4) (q0 := 0) rfl rfl, fun U hU hW => ⟨rfl, by rw [hU], hE.call hS hFc hU hW, by rw [hU]; exact hPc, va_K.moved hW.alike hK, hDc.weaken (fun _ _ _ _ => trivial)⟩⟩ rfl rfl hl.1 rfl (lv_room (Nat.le_of_ble_eq_true rfl)) d_Mo_asked_10 ⟨(Nat.le_of_ble_eq_true rfl), (Nat.le_of_ble_eq_true rfl)⟩) hS (fun q _ h => hFc q h) hFc (fun r1 u t H1 locs ht hvm hw hB hz1 hk1 hS => ?_)
    obtain ⟨hP1, hK1, hD1⟩ := hB
    rw [ht] at hP1
    try dsimp only at hw
    obtain ⟨hP, hD⟩ := va_join (wr := []) (w1 := [(h0, .inr (4, [.int (z_sa 0), .int 0, .ref m1, .int (-1), .int 0, .int 0, .ref m2, .ref m3, .ref m4, .ref m5, .ref m6, .ref m7, .ref m8, .ref m9, .ref m10, .ref m11, .ref m12, .ref m13, .int 0, .int 0, .int 0, .int 0, .ref m14, .ref m15, .int 0, .int 0, .int 0, .int 0, .ref m16, .ref m17, .ref m18]))]) hP hD [0] [] rfl rfl (by decide) (by decide) hk1 hFc hP1 hD1
    generalize H1 = H at hP hS ⊢
    have hP : va_P (dC, dI) classes [(h0, .inr (4, [.int (z_sa 0), .int 0, .ref m1, .int (-1), .int 0, .int 0, .ref m2, .ref m3, .ref m4, .ref m5, .ref m6, .ref m7, .ref m8, .ref m9, .ref m10, .ref m11, .ref m12, .ref m13, .int 0, .int 0, .int 0, .int 0, .ref m14, .ref m15, .int 0, .int 0, .int 0, .int 0, .ref m16, .ref m17, .ref m18]))] H := hP
    have hD : va_D A [(h0, .inr (4, [.int (z_sa 0), .int 0, .ref m1, .int (-1), .int 0, .int 0, .ref m2, .ref m3, .ref m4, .ref m5, .ref m6, .ref m7, .ref m8, .ref m9, .ref m10, .ref m11, .ref m12, .ref m13, .int 0, .int 0, .int 0, .int 0, .ref m14, .ref m15, .int 0, .int 0, .int 0, .int 0, .ref m16, .ref m17, .ref m18]))] := hD
    subst hw
    have hP : va_P (dC, dI) classes [(h0, .inr (4, [.int 1, .int 0, .ref m1, .int (-1), .int 0, .int 0, .ref m2, .ref m3, .ref m4, .ref m5, .ref m6, .ref m7, .ref m8, .ref m9, .ref m10, .ref m11, .ref m12, .ref m13, .int 0, .int 0, .int 0, .int 0, .ref m14, .ref m15, .int 0, .int 0, .int 0, .int 0, .ref m16, .ref m17, .ref m18]))] H := hP
    have hD : va_D A [(h0, .inr (4, [.int 1, .int 0, .ref m1, .int (-1), .int 0, .int 0, .ref m2, .ref m3, .ref m4, .ref m5, .ref m6, .ref m7, .ref m8, .ref m9, .ref m10, .ref m11, .ref m12, .ref m13, .int 0, .int 0, .int 0, .int 0, .ref m14, .ref m15, .int 0, .int 0, .int 0, .int 0, .ref m16, .ref m17, .ref m18]))] := hD
    refine lv_if_ne (tgt := 18) hx hb d_Mo_asked_13 (by decide) (fun c_13 => ?_) (fun c_13 => ?_)
    · exact absurd rfl c_13
    · refine lv_iconst (v := 0) hx hb d_Mo_asked_16 (by decide) ?_
      have hP9 := hP.sub (ws' := [(h0, .inr (4, [.int 1, .int 0, .ref m1, .int (-1), .int 0, .int 0, .ref m2, .ref m3, .ref m4, .ref m5, .ref m6, .ref m7, .ref m8, .ref m9, .ref m10, .ref m11, .ref m12, .ref m13, .int 0, .int 0, .int 0, .int 0, .ref m14, .ref m15, .int 0, .int 0, .int 0, .int 0, .ref m16, .ref m17, .ref m18]))]) [0] rfl
      have hD9 := hD.sub (ws' := [(h0, .inr (4, [.int 1, .int 0, .ref m1, .int (-1), .int 0, .int 0, .ref m2, .ref m3, .ref m4, .ref m5, .ref m6, .ref m7, .ref m8, .ref m9, .ref m10, .ref m11, .ref m12, .ref m13, .int 0, .int 0, .int 0, .int 0, .ref m14, .ref m15, .int 0, .int 0, .int 0, .int 0, .ref m16, .ref m17, .ref m18]))]) [0] (by decide) rfl
      exact W.iret (v := 0) hx hb hr (fun t ht hW => ⟨⟨0, 1, rfl, ⟨rfl, Or.inr ⟨z_nle c_2, rfl⟩⟩, by rw [ht]; exact hP9, va_K.moved hW.alike hK, hD9⟩, hS.F ht⟩) hS.2.2 d_Mo_asked_17
  · refine lv_iconst (v := 1) hx hb d_Mo_asked_5 (by decide) ?_
    refine lv_goto (tgt := 10) hx hb d_Mo_asked_6 (by decide) ?_
    have hPc := hP.sub (ws' := [(h0, .inr (4, [.int 0, .int 0, .ref m1, .int (-1), .int 0, .int 0, .ref m2, .ref m3, .ref m4, .ref m5, .ref m6, .ref m7, .ref m8, .ref m9, .ref m10, .ref m11, .ref m12, .ref m13, .int 0, .int 0, .int 0, .int 0, .ref m14, .ref m15, .int 0, .int 0, .int 0, .int 0, .ref m16, .ref m17, .ref m18]))]) [0] rfl
    have hDc := hD.sub (ws' := [(h0, .inr (4, [.int 0, .int 0, .ref m1, .int (-1), .int 0, .int 0, .ref m2, .ref m3, .ref m4, .ref m5, .ref m6, .ref m7, .ref m8, .ref m9, .ref m10, .ref m11, .ref m12, .ref m13, .int 0, .int 0, .int 0, .int 0, .ref m14, .ref m15, .int 0, .int 0, .int 0, .int 0, .ref m16, .ref m17, .ref m18]))]) [0] (by decide) rfl
    have hFc := va_free (wc := [(h0, .inr (4, [.int 0, .int 0, .ref m1, .int (-1), .int 0, .int 0, .ref m2, .ref m3, .ref m4, .ref m5, .ref m6, .ref m7, .ref m8, .ref m9, .ref m10, .ref m11, .ref m12, .ref m13, .int 0, .int 0, .int 0, .int 0, .ref m14, .ref m15, .int 0, .int 0, .int 0, .int 0, .ref m16, .ref m17, .ref m18]))]) hD hS hA [0] rfl
    refine va_calli (va_runV (As := [.int 1]) (rest := []) ⟨hx, hb, hml, hown, htz⟩ (c_Mo_says l dC dI k s.heap.size h0 m1 m2 m3 m4 m5 m6 m7 m8 m9 m10 m11 m12 m13 m14 m15 m16 m17 m18 0 0 (-1) 0 0 0 0 0 0 0 0 0 0 1 (by decide)) (cwV 1 htz (z_gV (fun _ h => h) km_Mo_147 in_Mo_says se_Mo_says ini_Mo m_Mo_says) rfl rfl rfl (by decide +kernel) ⟨(Nat.le_of_ble_eq_true rfl), (Nat.le_of_ble_eq_true rfl)⟩) ⟨z_blind, va_recv hK hPc (ci := 4) (q0 := 0) rfl rfl, fun U hU hW => ⟨rfl, by rw [hU], hE.call hS hFc hU hW, by rw [hU]; exact hPc, va_K.moved hW.alike hK, hDc.weaken (fun _ _ _ _ => trivial)⟩⟩ rfl rfl hl.1 rfl (lv_room (Nat.le_of_ble_eq_true rfl)) d_Mo_asked_10 ⟨(Nat.le_of_ble_eq_true rfl), (Nat.le_of_ble_eq_true rfl)⟩) hS (fun q _ h => hFc q h) hFc (fun r1 u t H1 locs ht hvm hw hB hz1 hk1 hS => ?_)
    obtain ⟨hP1, hK1, hD1⟩ := hB
    rw [ht] at hP1
    try dsimp only at hw
    obtain ⟨hP, hD⟩ := va_join (wr := []) (w1 := [(h0, .inr (4, [.int (z_sa 1), .int 0, .ref m1, .int (-1), .int 0, .int 0, .ref m2, .ref m3, .ref m4, .ref m5, .ref m6, .ref m7, .ref m8, .ref m9, .ref m10, .ref m11, .ref m12, .ref m13, .int 0, .int 0, .int 0, .int 0, .ref m14, .ref m15, .int 0, .int 0, .int 0, .int 0, .ref m16, .ref m17, .ref m18]))]) hP hD [0] [] rfl rfl (by decide) (by decide) hk1 hFc hP1 hD1
    generalize H1 = H at hP hS ⊢
    have hP : va_P (dC, dI) classes [(h0, .inr (4, [.int (z_sa 1), .int 0, .ref m1, .int (-1), .int 0, .int 0, .ref m2, .ref m3, .ref m4, .ref m5, .ref m6, .ref m7, .ref m8, .ref m9, .ref m10, .ref m11, .ref m12, .ref m13, .int 0, .int 0, .int 0, .int 0, .ref m14, .ref m15, .int 0, .int 0, .int 0, .int 0, .ref m16, .ref m17, .ref m18]))] H := hP
    have hD : va_D A [(h0, .inr (4, [.int (z_sa 1), .int 0, .ref m1, .int (-1), .int 0, .int 0, .ref m2, .ref m3, .ref m4, .ref m5, .ref m6, .ref m7, .ref m8, .ref m9, .ref m10, .ref m11, .ref m12, .ref m13, .int 0, .int 0, .int 0, .int 0, .ref m14, .ref m15, .int 0, .int 0, .int 0, .int 0, .ref m16, .ref m17, .ref m18]))] := hD
    subst hw
    have hP : va_P (dC, dI) classes [(h0, .inr (4, [.int 0, .int 0, .ref m1, .int (-1), .int 0, .int 0, .ref m2, .ref m3, .ref m4, .ref m5, .ref m6, .ref m7, .ref m8, .ref m9, .ref m10, .ref m11, .ref m12, .ref m13, .int 0, .int 0, .int 0, .int 0, .ref m14, .ref m15, .int 0, .int 0, .int 0, .int 0, .ref m16, .ref m17, .ref m18]))] H := hP
    have hD : va_D A [(h0, .inr (4, [.int 0, .int 0, .ref m1, .int (-1), .int 0, .int 0, .ref m2, .ref m3, .ref m4, .ref m5, .ref m6, .ref m7, .ref m8, .ref m9, .ref m10, .ref m11, .ref m12, .ref m13, .int 0, .int 0, .int 0, .int 0, .ref m14, .ref m15, .int 0, .int 0, .int 0, .int 0, .ref m16, .ref m17, .ref m18]))] := hD
    refine lv_if_ne (tgt := 18) hx hb d_Mo_asked_13 (by decide) (fun c_13 => ?_) (fun c_13 => ?_)
    · refine lv_aload_n hx hb d_Mo_asked_18 rfl (lv_at hl 0 rfl) ?_
      refine va_get (D := (dC, dI)) (ci := 4) (v := .int 0) (C := R_Mo) (T := F_Mo) (N := 31) hx hb htz i_Mo hown hK hP 0 rfl rfl 24 (by decide) (htz _ kf_Mo_141) (fun _ h9 => h9) rfl d_Mo_asked_19 ?_
      refine lv_if_le (tgt := 42) hx hb d_Mo_asked_22 (by decide) (fun c_22 => ?_) (fun c_22 => ?_)
      · refine lv_iconst (v := 0) hx hb d_Mo_asked_42 (by decide) ?_
        have hP9 := hP.sub (ws' := [(h0, .inr (4, [.int 0, .int 0, .ref m1, .int (-1), .int 0, .int 0, .ref m2, .ref m3, .ref m4, .ref m5, .ref m6, .ref m7, .ref m8, .ref m9, .ref m10, .ref m11, .ref m12, .ref m13, .int 0, .int 0, .int 0, .int 0, .ref m14, .ref m15, .int 0, .int 0, .int 0, .int 0, .ref m16, .ref m17, .ref m18]))]) [0] rfl
        have hD9 := hD.sub (ws' := [(h0, .inr (4, [.int 0, .int 0, .ref m1, .int (-1), .int 0, .int 0, .ref m2, .ref m3, .ref m4, .ref m5, .ref m6, .ref m7, .ref m8, .ref m9, .ref m10, .ref m11, .ref m12, .ref m13, .int 0, .int 0, .int 0, .int 0, .ref m14, .ref m15, .int 0, .int 0, .int 0, .int 0, .ref m16, .ref m17, .ref m18]))]) [0] (by decide) rfl
        exact W.iret (v := 0) hx hb hr (fun t ht hW => ⟨⟨0, 0, rfl, ⟨rfl, Or.inl ⟨z_nlt c_2, rfl⟩⟩, by rw [ht]; exact hP9, va_K.moved hW.alike hK, hD9⟩, hS.F ht⟩) hS.2.2 d_Mo_asked_43
      · exact absurd (by decide) c_22
    · exact absurd c_13 (by decide)
