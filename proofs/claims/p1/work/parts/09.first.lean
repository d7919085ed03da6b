-- contracts: what each method asks and gives
def z_rm (v mc ms : Nat) : Room := { frames := 8 + 2 * v, cells := mc, slots := ms, locals := 100 + 64 * v }
def z_Pc (dC : Nat → ClassId) (dI : Nat → Nat → Nat) (k : Nat → ClassId) (sz : Nat) (av : List Value) (ws : va_W) : Array Value → State → Prop := va_Pc av (fun U => U.heap.size = sz ∧ z_E (va_A ws sz) U ∧ va_P (dC, dI) classes ws U.heap ∧ va_K (dC, dI) classes (z_ty k) U ∧ va_D (fun _ => True) ws)
def z_B (dC : Nat → ClassId) (dI : Nat → Nat → Nat) (k : Nat → ClassId) (A : Nat → Prop) (ws : va_W) (t : State) : Prop := va_P (dC, dI) classes ws t.heap ∧ va_K (dC, dI) classes (z_ty k) t ∧ va_D A ws
theorem z_blind {dC : Nat → ClassId} {dI : Nat → Nat → Nat} {k : Nat → ClassId} {sz : Nat} {av : List Value} {ws : va_W} : FrameBlind (z_Pc dC dI k sz av ws) := by
  intro a U g mk q
  obtain ⟨q0, q1, qE, qP, qK, qD⟩ := q
  exact ⟨q0, q1, qE.blind, qP, va_K.moved (u := U) (U := U.calling g mk a) (Vm.Alike.refl U.vm) qK, qD⟩
theorem az_int : Cond.arrayClass .int ∈ z_T := z_in (z_mem 109 (by decide +kernel)) rfl
theorem az_long : Cond.arrayClass .long ∈ z_T := z_in (z_mem 875 (by decide +kernel)) rfl
theorem az_boolean : Cond.arrayClass .boolean ∈ z_T := z_in (z_mem 1107 (by decide +kernel)) rfl
theorem in_Obj : Cond.instanceMethod objectInit ∈ z_T := z_in (z_mem 78 (by decide +kernel)) rfl
theorem m_Obj : Cond.code objectInit ⟨#[0xb1]⟩ 1 none ∈ z_T := z_in (z_mem 79 (by decide +kernel)) rfl
set_option maxHeartbeats 1000000 in
set_option maxRecDepth 100000 in
theorem c_Q_place (l : Launch) (dC : Nat → ClassId) (dI : Nat → Nat → Nat) (k : Nat → ClassId) (sz : Nat) (h0 : Nat) (a1 : Nat) (a2 : Nat) (a3 : Nat) (a4 : Nat) (md : Int32) (wp : Int32) : Met l y_Q_place (Cond.code y_Q_place b_Q_place 1 (some .int) :: z_T) (z_rm 0 0 0) (z_Pc dC dI k sz [.ref h0] [(h0, .inr (0, [.ref a1, .ref a2, .ref a3, .ref a4, .int md, .int wp]))]) (va_Qi (fun (r : Int32) (u : Unit) => r = wp) (fun (u : Unit) t => z_B dC dI k (va_A [(h0, .inr (0, [.ref a1, .ref a2, .ref a3, .ref a4, .int md, .int wp]))] sz) [(h0, .inr (0, [.ref a1, .ref a2, .ref a3, .ref a4, .int md, .int wp]))] t) (va_A [(h0, .inr (0, [.ref a1, .ref a2, .ref a3, .ref a4, .int md, .int wp]))] sz)) 0 0 (va_A [(h0, .inr (0, [.ref a1, .ref a2, .ref a3, .ref a4, .int md, .int wp]))] sz) := by
  refine Met.ofW (cc := b_Q_place) (maxL := 1) (ret := (some .int)) (by decide) rfl ?_
  intro p e s m args below meth c s₁ B hml hv
  obtain ⟨rfl, hsz, hE, hP, hK, hD0⟩ := hv
  have hx := B.exec
  have hb := B.bytes
  have hr := B.returns
  have hts := atoms_spec (ws := Cond.code y_Q_place b_Q_place 1 (some .int) :: z_T) B.pre
  have htz : ∀ w ∈ z_T, w.before _ s = true := fun w h => hts w (z_cons w h)
  have hown : s.vm.findClass "QuestionText" = some m.cls := findClass_of_methodNamed B.named
  have hlocks := B.notSynchronized
  subst hsz
  have hD := hD0.self (sz := s.heap.size)
  generalize hAe : va_A [(h0, .inr (0, [.ref a1, .ref a2, .ref a3, .ref a4, .int md, .int wp]))] s.heap.size = A at hD hE ⊢
  have hA : ∀ q : Nat, s.heap.size ≤ q → A q := fun q h => by rw [← hAe]; exact Or.inr h
  have hS : va_S A s.heap s.heap [] := va_S.rf
  have hP : va_P (dC, dI) classes [(h0, .inr (0, [.ref a1, .ref a2, .ref a3, .ref a4, .int md, .int wp]))] s.heap := hP
  have hl := lv_entry ([.ref h0]) (n := 1) (Nat.le_of_ble_eq_true rfl)
  rw [lg_entry_eq]
  generalize (lg_sl ([.ref h0]) ++ List.replicate (1 - (lg_sl ([.ref h0])).length) Slot.unset).toArray = ls at hl ⊢
  have hl : lv_has ls 1 [(0, .ref h0)] := hl
  refine lv_aload_n hx hb d_Q_place_0 rfl (lv_at hl 0 rfl) ?_
  refine va_get (D := (dC, dI)) (ci := 0) (v := .int wp) (C := R_Q) (T := F_Q) (N := 6) hx hb htz i_Q hown hK hP 0 rfl rfl 5 (by decide) (htz _ kf_Q_38) (fun _ h9 => h9) rfl d_Q_place_1 ?_
  have hP9 := hP.sub (ws' := [(h0, .inr (0, [.ref a1, .ref a2, .ref a3, .ref a4, .int md, .int wp]))]) [0] rfl
  have hD9 := hD.sub (ws' := [(h0, .inr (0, [.ref a1, .ref a2, .ref a3, .ref a4, .int md, .int wp]))]) [0] (by decide) rfl
  exact W.iret (v := wp) hx hb hr (fun t ht hW => ⟨⟨wp, (), rfl, rfl, by rw [ht]; exact hP9, va_K.moved hW.alike hK, hD9⟩, hS.F ht⟩) hS.2.2 d_Q_place_4
set_option maxHeartbeats 1000000 in
set_option maxRecDepth 100000 in
theorem c_Q_kind (l : Launch) (dC : Nat → ClassId) (dI : Nat → Nat → Nat) (k : Nat → ClassId) (sz : Nat) (h0 : Nat) (a1 : Nat) (a2 : Nat) (a3 : Nat) (a4 : Nat) (md : Int32) (wp : Int32) (b1 : Nat) (b2 : Nat) (cn : Int32) (nw : Int32) (pt : Int32) (kd : Int32) : Met l y_Q_kind (Cond.code y_Q_kind b_Q_kind 1 (some .int) :: z_T) (z_rm 0 0 0) (z_Pc dC dI k sz [.ref h0] [(h0, .inr (0, [.ref a1, .ref a2, .ref a3, .ref a4, .int md, .int wp])), (a3, .inr (2, [.ref b1, .ref b2, .int cn, .int nw, .int pt, .int kd]))]) (va_Qi (fun (r : Int32) (u : Unit) => r = kd) (fun (u : Unit) t => z_B dC dI k (va_A [(h0, .inr (0, [.ref a1, .ref a2, .ref a3, .ref a4, .int md, .int wp])), (a3, .inr (2, [.ref b1, .ref b2, .int cn, .int nw, .int pt, .int kd]))] sz) [(h0, .inr (0, [.ref a1, .ref a2, .ref a3, .ref a4, .int md, .int wp])), (a3, .inr (2, [.ref b1, .ref b2, .int cn, .int nw, .int pt, .int kd]))] t) (va_A [(h0, .inr (0, [.ref a1, .ref a2, .ref a3, .ref a4, .int md, .int wp])), (a3, .inr (2, [.ref b1, .ref b2, .int cn, .int nw, .int pt, .int kd]))] sz)) 0 0 (va_A [(h0, .inr (0, [.ref a1, .ref a2, .ref a3, .ref a4, .int md, .int wp])), (a3, .inr (2, [.ref b1, .ref b2, .int cn, .int nw, .int pt, .int kd]))] sz) := by
  refine Met.ofW (cc := b_Q_kind) (maxL := 1) (ret := (some .int)) (by decide) rfl ?_
  intro p e s m args below meth c s₁ B hml hv
  obtain ⟨rfl, hsz, hE, hP, hK, hD0⟩ := hv
  have hx := B.exec
  have hb := B.bytes
  have hr := B.returns
  have hts := atoms_spec (ws := Cond.code y_Q_kind b_Q_kind 1 (some .int) :: z_T) B.pre
  have htz : ∀ w ∈ z_T, w.before _ s = true := fun w h => hts w (z_cons w h)
  have hown : s.vm.findClass "QuestionText" = some m.cls := findClass_of_methodNamed B.named
  have hlocks := B.notSynchronized
  subst hsz
  have hD := hD0.self (sz := s.heap.size)
  generalize hAe : va_A [(h0, .inr (0, [.ref a1, .ref a2, .ref a3, .ref a4, .int md, .int wp])), (a3, .inr (2, [.ref b1, .ref b2, .int cn, .int nw, .int pt, .int kd]))] s.heap.size = A at hD hE ⊢
  have hA : ∀ q : Nat, s.heap.size ≤ q → A q := fun q h => by rw [← hAe]; exact Or.inr h
  have hS : va_S A s.heap s.heap [] := va_S.rf
  have hP : va_P (dC, dI) classes [(h0, .inr (0, [.ref a1, .ref a2, .ref a3, .ref a4, .int md, .int wp])), (a3, .inr (2, [.ref b1, .ref b2, .int cn, .int nw, .int pt, .int kd]))] s.heap := hP
  have hl := lv_entry ([.ref h0]) (n := 1) (Nat.le_of_ble_eq_true rfl)
  rw [lg_entry_eq]
  generalize (lg_sl ([.ref h0]) ++ List.replicate (1 - (lg_sl ([.ref h0])).length) Slot.unset).toArray = ls at hl ⊢
  have hl : lv_has ls 1 [(0, .ref h0)] := hl
  refine lv_aload_n hx hb d_Q_kind_0 rfl (lv_at hl 0 rfl) ?_
  refine va_get (D := (dC, dI)) (ci := 0) (v := .ref a3) (C := R_Q) (T := F_Q) (N := 6) hx hb htz i_Q hown hK hP 0 rfl rfl 2 (by decide) (htz _ kf_Q_25) (fun _ h9 => h9) rfl d_Q_kind_1 ?_
  refine va_getN (D := (dC, dI)) (ci := 2) (v := .int kd) (C := R_Ca) (T := F_Ca) (N := 6) hx hb htz i_Ca hown hK hP 1 rfl rfl 5 (by decide) (va_Nw.use rfl (hE.1 _ kf_Q_99)) (fun _ h9 => h9) rfl d_Q_kind_4 ?_
  have hP9 := hP.sub (ws' := [(h0, .inr (0, [.ref a1, .ref a2, .ref a3, .ref a4, .int md, .int wp])), (a3, .inr (2, [.ref b1, .ref b2, .int cn, .int nw, .int pt, .int kd]))]) [0, 1] rfl
  have hD9 := hD.sub (ws' := [(h0, .inr (0, [.ref a1, .ref a2, .ref a3, .ref a4, .int md, .int wp])), (a3, .inr (2, [.ref b1, .ref b2, .int cn, .int nw, .int pt, .int kd]))]) [0, 1] (by decide) rfl
  exact W.iret (v := kd) hx hb hr (fun t ht hW => ⟨⟨kd, (), rfl, rfl, by rw [ht]; exact hP9, va_K.moved hW.alike hK, hD9⟩, hS.F ht⟩) hS.2.2 d_Q_kind_7
set_option maxHeartbeats 1000000 in
set_option maxRecDepth 100000 in
theorem c_Ca_init (l : Launch) (dC : Nat → ClassId) (dI : Nat → Nat → Nat) (k : Nat → ClassId) (sz : Nat) (h0 : Nat) : Met l y_Ca_init (Cond.code y_Ca_init b_Ca_init 1 none :: z_T) (z_rm 1 2 101) (z_Pc dC dI k sz [.ref h0] [(h0, .inr (2, [.null, .null, .int 0, .int 0, .int 0, .int 0]))]) (va_Qv (fun (u : Nat × Nat) => True) (fun (u : Nat × Nat) t => z_B dC dI k (va_A [(h0, .inr (2, [.null, .null, .int 0, .int 0, .int 0, .int 0]))] sz) [(h0, .inr (2, [.ref u.1, .ref u.2, .int 0, .int 0, .int 0, .int 0])), (u.1, .inl (k 0, 40, .inl (fun _ => 0))), (u.2, .inl (k 0, 61, .inl (fun _ => 0)))] t) (va_A [(h0, .inr (2, [.null, .null, .int 0, .int 0, .int 0, .int 0]))] sz)) 2 101 (va_A [(h0, .inr (2, [.null, .null, .int 0, .int 0, .int 0, .int 0]))] sz) := by
  refine Met.ofW (cc := b_Ca_init) (maxL := 1) (ret := none) (by decide) rfl ?_
  intro p e s m args below meth c s₁ B hml hv
  obtain ⟨rfl, hsz, hE, hP, hK, hD0⟩ := hv
  have hx := B.exec
  have hb := B.bytes
  have hr := B.returns
  have hts := atoms_spec (ws := Cond.code y_Ca_init b_Ca_init 1 none :: z_T) B.pre
  have htz : ∀ w ∈ z_T, w.before _ s = true := fun w h => hts w (z_cons w h)
  have hown : s.vm.findClass "QuestionText$Call" = some m.cls := findClass_of_methodNamed B.named
  have hlocks := B.notSynchronized
  have hin : meth.name = "<init>" := (name_of_methodNamed B.named B.method).1
  subst hsz
  have hD := hD0.self (sz := s.heap.size)
  generalize hAe : va_A [(h0, .inr (2, [.null, .null, .int 0, .int 0, .int 0, .int 0]))] s.heap.size = A at hD hE ⊢
  have hA : ∀ q : Nat, s.heap.size ≤ q → A q := fun q h => by rw [← hAe]; exact Or.inr h
  have hS : va_S A s.heap s.heap [] := va_S.rf
  have hP : va_P (dC, dI) classes [(h0, .inr (2, [.null, .null, .int 0, .int 0, .int 0, .int 0]))] s.heap := hP
  have hl := lv_entry ([.ref h0]) (n := 1) (Nat.le_of_ble_eq_true rfl)
  rw [lg_entry_eq]
  generalize (lg_sl ([.ref h0]) ++ List.replicate (1 - (lg_sl ([.ref h0])).length) Slot.unset).toArray = ls at hl ⊢
  have hl : lv_has ls 1 [(0, .ref h0)] := hl
  refine lv_aload_n hx hb d_Ca_init_0 rfl (lv_at hl 0 rfl) ?_
  refine W.objInit hx hb hown (htz _ km_Ca_3) (htz _ in_Obj) (htz _ m_Obj) rfl (hl.1.trans hml.symm) rfl d_Ca_init_1 (Nat.le_of_ble_eq_true rfl) (Nat.le_of_ble_eq_true rfl) ?_
  refine lv_aload_n hx hb d_Ca_init_4 rfl (lv_at hl 0 rfl) ?_
  refine lv_bipush (v := 40) hx hb d_Ca_init_5 (by decide) ?_
  refine z_newa (atype := .int) (n := 40) (a0 := (40, .inl (fun _ => 0))) hx hb (htz (.arrayClass .int) az_int) (ty := .int) rfl hK hP hD hS hA 0 rfl (N' := 40) (fun _ => rfl) (by decide) (by decide) (Nat.le_of_ble_eq_true rfl) (Nat.le_of_ble_eq_true rfl) (Nat.le_of_ble_eq_true rfl) d_Ca_init_7 (fun x1 H hP hD hS => ?_)
  have hP : va_P (dC, dI) classes [(h0, .inr (2, [.null, .null, .int 0, .int 0, .int 0, .int 0])), (x1, .inl (k 0, 40, .inl (fun _ => 0)))] H := hP
  have hD : va_D A [(h0, .inr (2, [.null, .null, .int 0, .int 0, .int 0, .int 0])), (x1, .inl (k 0, 40, .inl (fun _ => 0)))] := hD
  refine va_putF (D := (dC, dI)) (ci := 2) (v := .ref x1) (ty := .array .int) (C := R_Ca) (T := F_Ca) (N := 6) hx hb htz i_Ca t_Ca o_Ca n_Ca hown hK hP hD hS 0 rfl rfl 0 (by decide) (htz _ kf_Ca_9) (fun _ h9 => h9) rfl hin rfl (by decide +kernel) rfl rfl (Nat.le_of_ble_eq_true rfl) d_Ca_init_9 (fun H locs hP hD hS => ?_)
  have hP : va_P (dC, dI) classes [(h0, .inr (2, [.ref x1, .null, .int 0, .int 0, .int 0, .int 0])), (x1, .inl (k 0, 40, .inl (fun _ => 0)))] H := hP
  have hD : va_D A [(h0, .inr (2, [.ref x1, .null, .int 0, .int 0, .int 0, .int 0])), (x1, .inl (k 0, 40, .inl (fun _ => 0)))] := hD
  refine lv_aload_n hx hb d_Ca_init_12 rfl (lv_at hl 0 rfl) ?_
  refine lv_bipush (v := 61) hx hb d_Ca_init_13 (by decide) ?_
  refine z_newa (atype := .int) (n := 61) (a0 := (61, .inl (fun _ => 0))) hx hb (htz (.arrayClass .int) az_int) (ty := .int) rfl hK hP hD hS hA 0 rfl (N' := 61) (fun _ => rfl) (by decide) (by decide) (Nat.le_of_ble_eq_true rfl) (Nat.le_of_ble_eq_true rfl) (Nat.le_of_ble_eq_true rfl) d_Ca_init_15 (fun x2 H hP hD hS => ?_)
  have hP : va_P (dC, dI) classes [(h0, .inr (2, [.ref x1, .null, .int 0, .int 0, .int 0, .int 0])), (x1, .inl (k 0, 40, .inl (fun _ => 0))), (x2, .inl (k 0, 61, .inl (fun _ => 0)))] H := hP
  have hD : va_D A [(h0, .inr (2, [.ref x1, .null, .int 0, .int 0, .int 0, .int 0])), (x1, .inl (k 0, 40, .inl (fun _ => 0))), (x2, .inl (k 0, 61, .inl (fun _ => 0)))] := hD
  refine va_putF (D := (dC, dI)) (ci := 2) (v := .ref x2) (ty := .array .int) (C := R_Ca) (T := F_Ca) (N := 6) hx hb htz i_Ca t_Ca o_Ca n_Ca hown hK hP hD hS 0 rfl rfl 1 (by decide) (htz _ kf_Ca_15) (fun _ h9 => h9) rfl hin rfl (by decide +kernel) rfl rfl (Nat.le_of_ble_eq_true rfl) d_Ca_init_17 (fun H locs hP hD hS => ?_)
  have hP : va_P (dC, dI) classes [(h0, .inr (2, [.ref x1, .ref x2, .int 0, .int 0, .int 0, .int 0])), (x1, .inl (k 0, 40, .inl (fun _ => 0))), (x2, .inl (k 0, 61, .inl (fun _ => 0)))] H := hP
  have hD : va_D A [(h0, .inr (2, [.ref x1, .ref x2, .int 0, .int 0, .int 0, .int 0])), (x1, .inl (k 0, 40, .inl (fun _ => 0))), (x2, .inl (k 0, 61, .inl (fun _ => 0)))] := hD
  refine lv_aload_n hx hb d_Ca_init_20 rfl (lv_at hl 0 rfl) ?_
  refine lv_iconst (v := 0) hx hb d_Ca_init_21 (by decide) ?_
  refine va_put (D := (dC, dI)) (ci := 2) (v := .int 0) (ty := .int) (C := R_Ca) (T := F_Ca) (N := 6) hx hb htz i_Ca t_Ca o_Ca n_Ca hown hK hP hD hS 0 rfl rfl 2 (by decide) (htz _ kf_Ca_18) (fun _ h9 => h9) rfl (by decide +kernel) rfl rfl (Nat.le_of_ble_eq_true rfl) d_Ca_init_22 (fun H locs hP hD hS => ?_)
  have hP : va_P (dC, dI) classes [(h0, .inr (2, [.ref x1, .ref x2, .int 0, .int 0, .int 0, .int 0])), (x1, .inl (k 0, 40, .inl (fun _ => 0))), (x2, .inl (k 0, 61, .inl (fun _ => 0)))] H := hP
  have hD : va_D A [(h0, .inr (2, [.ref x1, .ref x2, .int 0, .int 0, .int 0, .int 0])), (x1, .inl (k 0, 40, .inl (fun _ => 0))), (x2, .inl (k 0, 61, .inl (fun _ => 0)))] := hD
  refine lv_aload_n hx hb d_Ca_init_25 rfl (lv_at hl 0 rfl) ?_
  refine lv_iconst (v := 0) hx hb d_Ca_init_26 (by decide) ?_
  refine va_put (D := (dC, dI)) (ci := 2) (v := .int 0) (ty := .int) (C := R_Ca) (T := F_Ca) (N := 6) hx hb htz i_Ca t_Ca o_Ca n_Ca hown hK hP hD hS 0 rfl rfl 3 (by decide) (htz _ kf_Ca_22) (fun _ h9 => h9) rfl (by decide +kernel) rfl rfl (Nat.le_of_ble_eq_true rfl) d_Ca_init_27 (fun H locs hP hD hS => ?_)
  have hP : va_P (dC, dI) classes [(h0, .inr (2, [.ref x1, .ref x2, .int 0, .int 0, .int 0, .int 0])), (x1, .inl (k 0, 40, .inl (fun _ => 0))), (x2, .inl (k 0, 61, .inl (fun _ => 0)))] H := hP
  have hD : va_D A [(h0, .inr (2, [.ref x1, .ref x2, .int 0, .int 0, .int 0, .int 0])), (x1, .inl (k 0, 40, .inl (fun _ => 0))), (x2, .inl (k 0, 61, .inl (fun _ => 0)))] := hD
  refine lv_aload_n hx hb d_Ca_init_30 rfl (lv_at hl 0 rfl) ?_
  refine lv_iconst (v := 0) hx hb d_Ca_init_31 (by decide) ?_
  refine va_put (D := (dC, dI)) (ci := 2) (v := .int 0) (ty := .int) (C := R_Ca) (T := F_Ca) (N := 6) hx hb htz i_Ca t_Ca o_Ca n_Ca hown hK hP hD hS 0 rfl rfl 4 (by decide) (htz _ kf_Ca_25) (fun _ h9 => h9) rfl (by decide +kernel) rfl rfl (Nat.le_of_ble_eq_true rfl) d_Ca_init_32 (fun H locs hP hD hS => ?_)
  have hP : va_P (dC, dI) classes [(h0, .inr (2, [.ref x1, .ref x2, .int 0, .int 0, .int 0, .int 0])), (x1, .inl (k 0, 40, .inl (fun _ => 0))), (x2, .inl (k 0, 61, .inl (fun _ => 0)))] H := hP
  have hD : va_D A [(h0, .inr (2, [.ref x1, .ref x2, .int 0, .int 0, .int 0, .int 0])), (x1, .inl (k 0, 40, .inl (fun _ => 0))), (x2, .inl (k 0, 61, .inl (fun _ => 0)))] := hD
  refine lv_aload_n hx hb d_Ca_init_35 rfl (lv_at hl 0 rfl) ?_
  refine lv_iconst (v := 0) hx hb d_Ca_init_36 (by decide) ?_
  refine va_put (D := (dC, dI)) (ci := 2) (v := .int 0) (ty := .int) (C := R_Ca) (T := F_Ca) (N := 6) hx hb htz i_Ca t_Ca o_Ca n_Ca hown hK hP hD hS 0 rfl rfl 5 (by decide) (htz _ kf_Ca_28) (fun _ h9 => h9) rfl (by decide +kernel) rfl rfl (Nat.le_of_ble_eq_true rfl) d_Ca_init_37 (fun H locs hP hD hS => ?_)
  have hP : va_P (dC, dI) classes [(h0, .inr (2, [.ref x1, .ref x2, .int 0, .int 0, .int 0, .int 0])), (x1, .inl (k 0, 40, .inl (fun _ => 0))), (x2, .inl (k 0, 61, .inl (fun _ => 0)))] H := hP
  have hD : va_D A [(h0, .inr (2, [.ref x1, .ref x2, .int 0, .int 0, .int 0, .int 0])), (x1, .inl (k 0, 40, .inl (fun _ => 0))), (x2, .inl (k 0, 61, .inl (fun _ => 0)))] := hD
  refine W.widen (k := 2) (n := 101) (Nat.le_of_ble_eq_true rfl) (Nat.le_of_ble_eq_true rfl) ?_
  have hP9 := hP.sub (ws' := [(h0, .inr (2, [.ref x1, .ref x2, .int 0, .int 0, .int 0, .int 0])), (x1, .inl (k 0, 40, .inl (fun _ => 0))), (x2, .inl (k 0, 61, .inl (fun _ => 0)))]) [0, 1, 2] rfl
  have hD9 := hD.sub (ws' := [(h0, .inr (2, [.ref x1, .ref x2, .int 0, .int 0, .int 0, .int 0])), (x1, .inl (k 0, 40, .inl (fun _ => 0))), (x2, .inl (k 0, 61, .inl (fun _ => 0)))]) [0, 1, 2] (by decide) rfl
  exact W.vret hx hb hr (fun t ht hW => ⟨⟨(x1, x2), rfl, trivial, by rw [ht]; exact hP9, va_K.moved hW.alike hK, hD9⟩, hS.F ht⟩) hS.2.2 d_Ca_init_40
set_option maxHeartbeats 1000000 in
set_option maxRecDepth 100000 in
theorem c_TR_init (l : Launch) (dC : Nat → ClassId) (dI : Nat → Nat → Nat) (k : Nat → ClassId) (sz : Nat) (h0 : Nat) : Met l y_TR_init (Cond.code y_TR_init b_TR_init 1 none :: z_T) (z_rm 1 3 471) (z_Pc dC dI k sz [.ref h0] [(h0, .inr (1, [.null, .null, .null, .int 0, .int 0]))]) (va_Qv (fun (u : Nat × Nat × Nat) => True) (fun (u : Nat × Nat × Nat) t => z_B dC dI k (va_A [(h0, .inr (1, [.null, .null, .null, .int 0, .int 0]))] sz) [(h0, .inr (1, [.ref u.1, .ref u.2.1, .ref u.2.2, .int 0, .int 0])), (u.1, .inl (k 0, 400, .inl (fun _ => 0))), (u.2.1, .inl (k 3, 61, .inr (.inr (.inr (.inr (fun _ => none)))))), (u.2.2, .inl (k 4, 10, .inr (.inr (.inr (.inr (fun _ => none))))))] t) (va_A [(h0, .inr (1, [.null, .null, .null, .int 0, .int 0]))] sz)) 3 471 (va_A [(h0, .inr (1, [.null, .null, .null, .int 0, .int 0]))] sz) := by
  refine Met.ofW (cc := b_TR_init) (maxL := 1) (ret := none) (by decide) rfl ?_
  intro p e s m args below meth c s₁ B hml hv
  obtain ⟨rfl, hsz, hE, hP, hK, hD0⟩ := hv
  have hx := B.exec
  have hb := B.bytes
  have hr := B.returns
  have hts := atoms_spec (ws := Cond.code y_TR_init b_TR_init 1 none :: z_T) B.pre
  have htz : ∀ w ∈ z_T, w.before _ s = true := fun w h => hts w (z_cons w h)
  have hown : s.vm.findClass "QuestionText$TextReader" = some m.cls := findClass_of_methodNamed B.named
  have hlocks := B.notSynchronized
  have hin : meth.name = "<init>" := (name_of_methodNamed B.named B.method).1
  subst hsz
  have hD := hD0.self (sz := s.heap.size)
  generalize hAe : va_A [(h0, .inr (1, [.null, .null, .null, .int 0, .int 0]))] s.heap.size = A at hD hE ⊢
  have hA : ∀ q : Nat, s.heap.size ≤ q → A q := fun q h => by rw [← hAe]; exact Or.inr h
  have hS : va_S A s.heap s.heap [] := va_S.rf
  have hP : va_P (dC, dI) classes [(h0, .inr (1, [.null, .null, .null, .int 0, .int 0]))] s.heap := hP
  have hl := lv_entry ([.ref h0]) (n := 1) (Nat.le_of_ble_eq_true rfl)
  rw [lg_entry_eq]
  generalize (lg_sl ([.ref h0]) ++ List.replicate (1 - (lg_sl ([.ref h0])).length) Slot.unset).toArray = ls at hl ⊢
  have hl : lv_has ls 1 [(0, .ref h0)] := hl
  refine lv_aload_n hx hb d_TR_init_0 rfl (lv_at hl 0 rfl) ?_
  refine W.objInit hx hb hown (htz _ km_TR_3) (htz _ in_Obj) (htz _ m_Obj) rfl (hl.1.trans hml.symm) rfl d_TR_init_1 (Nat.le_of_ble_eq_true rfl) (Nat.le_of_ble_eq_true rfl) ?_
  refine lv_aload_n hx hb d_TR_init_4 rfl (lv_at hl 0 rfl) ?_
  refine lv_sipush (v := 400) hx hb d_TR_init_5 (by decide) ?_
  refine z_newa (atype := .int) (n := 400) (a0 := (400, .inl (fun _ => 0))) hx hb (htz (.arrayClass .int) az_int) (ty := .int) rfl hK hP hD hS hA 0 rfl (N' := 400) (fun _ => rfl) (by decide) (by decide) (Nat.le_of_ble_eq_true rfl) (Nat.le_of_ble_eq_true rfl) (Nat.le_of_ble_eq_true rfl) d_TR_init_8 (fun x1 H hP hD hS => ?_)
  have hP : va_P (dC, dI) classes [(h0, .inr (1, [.null, .null, .null, .int 0, .int 0])), (x1, .inl (k 0, 400, .inl (fun _ => 0)))] H := hP
  have hD : va_D A [(h0, .inr (1, [.null, .null, .null, .int 0, .int 0])), (x1, .inl (k 0, 400, .inl (fun _ => 0)))] := hD
  refine va_putF (D := (dC, dI)) (ci := 1) (v := .ref x1) (ty := .array .int) (C := R_TR) (T := F_TR) (N := 5) hx hb htz i_TR t_TR o_TR n_TR hown hK hP hD hS 0 rfl rfl 0 (by decide) (htz _ kf_TR_9) (fun _ h9 => h9) rfl hin rfl (by decide +kernel) rfl rfl (Nat.le_of_ble_eq_true rfl) d_TR_init_10 (fun H locs hP hD hS => ?_)
  have hP : va_P (dC, dI) classes [(h0, .inr (1, [.ref x1, .null, .null, .int 0, .int 0])), (x1, .inl (k 0, 400, .inl (fun _ => 0)))] H := hP
  have hD : va_D A [(h0, .inr (1, [.ref x1, .null, .null, .int 0, .int 0])), (x1, .inl (k 0, 400, .inl (fun _ => 0)))] := hD
  refine lv_aload_n hx hb d_TR_init_13 rfl (lv_at hl 0 rfl) ?_
  refine lv_bipush (v := 61) hx hb d_TR_init_14 (by decide) ?_
  refine z_newq hx hb hown (htz _ kc_TR_15) (hE.2.1 _ (by decide)) hK hP hD hS hA 3 rfl (by decide) (N' := 61) (by decide) (Nat.le_of_ble_eq_true rfl) (Nat.le_of_ble_eq_true rfl) (Nat.le_of_ble_eq_true rfl) d_TR_init_16 (fun x2 H hP hD hS => ?_)
  have hP : va_P (dC, dI) classes [(h0, .inr (1, [.ref x1, .null, .null, .int 0, .int 0])), (x1, .inl (k 0, 400, .inl (fun _ => 0))), (x2, .inl (k 3, 61, .inr (.inr (.inr (.inr (fun _ => none))))))] H := hP
  have hD : va_D A [(h0, .inr (1, [.ref x1, .null, .null, .int 0, .int 0])), (x1, .inl (k 0, 400, .inl (fun _ => 0))), (x2, .inl (k 3, 61, .inr (.inr (.inr (.inr (fun _ => none))))))] := hD
  refine va_putF (D := (dC, dI)) (ci := 1) (v := .ref x2) (ty := .array (.object "QuestionText$Question")) (C := R_TR) (T := F_TR) (N := 5) hx hb htz i_TR t_TR o_TR n_TR hown hK hP hD hS 0 rfl rfl 1 (by decide) (htz _ kf_TR_17) (fun _ h9 => h9) rfl hin rfl (by decide +kernel) rfl rfl (Nat.le_of_ble_eq_true rfl) d_TR_init_19 (fun H locs hP hD hS => ?_)
  have hP : va_P (dC, dI) classes [(h0, .inr (1, [.ref x1, .ref x2, .null, .int 0, .int 0])), (x1, .inl (k 0, 400, .inl (fun _ => 0))), (x2, .inl (k 3, 61, .inr (.inr (.inr (.inr (fun _ => none))))))] H := hP
  have hD : va_D A [(h0, .inr (1, [.ref x1, .ref x2, .null, .int 0, .int 0])), (x1, .inl (k 0, 400, .inl (fun _ => 0))), (x2, .inl (k 3, 61, .inr (.inr (.inr (.inr (fun _ => none))))))] := hD
  refine lv_aload_n hx hb d_TR_init_22 rfl (lv_at hl 0 rfl) ?_
  refine lv_bipush (v := 10) hx hb d_TR_init_23 (by decide) ?_
  refine z_newq hx hb hown (htz _ kc_TR_21) (hE.2.1 _ (by decide)) hK hP hD hS hA 4 rfl (by decide) (N' := 10) (by decide) (Nat.le_of_ble_eq_true rfl) (Nat.le_of_ble_eq_true rfl) (Nat.le_of_ble_eq_true rfl) d_TR_init_25 (fun x3 H hP hD hS => ?_)
  have hP : va_P (dC, dI) classes [(h0, .inr (1, [.ref x1, .ref x2, .null, .int 0, .int 0])), (x1, .inl (k 0, 400, .inl (fun _ => 0))), (x2, .inl (k 3, 61, .inr (.inr (.inr (.inr (fun _ => none)))))), (x3, .inl (k 4, 10, .inr (.inr (.inr (.inr (fun _ => none))))))] H := hP
  have hD : va_D A [(h0, .inr (1, [.ref x1, .ref x2, .null, .int 0, .int 0])), (x1, .inl (k 0, 400, .inl (fun _ => 0))), (x2, .inl (k 3, 61, .inr (.inr (.inr (.inr (fun _ => none)))))), (x3, .inl (k 4, 10, .inr (.inr (.inr (.inr (fun _ => none))))))] := hD
  refine va_putF (D := (dC, dI)) (ci := 1) (v := .ref x3) (ty := .array (.object "QuestionText$Kind")) (C := R_TR) (T := F_TR) (N := 5) hx hb htz i_TR t_TR o_TR n_TR hown hK hP hD hS 0 rfl rfl 2 (by decide) (htz _ kf_TR_23) (fun _ h9 => h9) rfl hin rfl (by decide +kernel) rfl rfl (Nat.le_of_ble_eq_true rfl) d_TR_init_28 (fun H locs hP hD hS => ?_)
  have hP : va_P (dC, dI) classes [(h0, .inr (1, [.ref x1, .ref x2, .ref x3, .int 0, .int 0])), (x1, .inl (k 0, 400, .inl (fun _ => 0))), (x2, .inl (k 3, 61, .inr (.inr (.inr (.inr (fun _ => none)))))), (x3, .inl (k 4, 10, .inr (.inr (.inr (.inr (fun _ => none))))))] H := hP
  have hD : va_D A [(h0, .inr (1, [.ref x1, .ref x2, .ref x3, .int 0, .int 0])), (x1, .inl (k 0, 400, .inl (fun _ => 0))), (x2, .inl (k 3, 61, .inr (.inr (.inr (.inr (fun _ => none)))))), (x3, .inl (k 4, 10, .inr (.inr (.inr (.inr (fun _ => none))))))] := hD
  refine lv_aload_n hx hb d_TR_init_31 rfl (lv_at hl 0 rfl) ?_
  refine lv_iconst (v := 0) hx hb d_TR_init_32 (by decide) ?_
  refine va_put (D := (dC, dI)) (ci := 1) (v := .int 0) (ty := .int) (C := R_TR) (T := F_TR) (N := 5) hx hb htz i_TR t_TR o_TR n_TR hown hK hP hD hS 0 rfl rfl 3 (by decide) (htz _ kf_TR_27) (fun _ h9 => h9) rfl (by decide +kernel) rfl rfl (Nat.le_of_ble_eq_true rfl) d_TR_init_33 (fun H locs hP hD hS => ?_)
  have hP : va_P (dC, dI) classes [(h0, .inr (1, [.ref x1, .ref x2, .ref x3, .int 0, .int 0])), (x1, .inl (k 0, 400, .inl (fun _ => 0))), (x2, .inl (k 3, 61, .inr (.inr (.inr (.inr (fun _ => none)))))), (x3, .inl (k 4, 10, .inr (.inr (.inr (.inr (fun _ => none))))))] H := hP
  have hD : va_D A [(h0, .inr (1, [.ref x1, .ref x2, .ref x3, .int 0, .int 0])), (x1, .inl (k 0, 400, .inl (fun _ => 0))), (x2, .inl (k 3, 61, .inr (.inr (.inr (.inr (fun _ => none)))))), (x3, .inl (k 4, 10, .inr (.inr (.inr (.inr (fun _ => none))))))] := hD
  refine lv_aload_n hx hb d_TR_init_36 rfl (lv_at hl 0 rfl) ?_
  refine lv_iconst (v := 0) hx hb d_TR_init_37 (by decide) ?_
  refine va_put (D := (dC, dI)) (ci := 1) (v := .int 0) (ty := .int) (C := R_TR) (T := F_TR) (N := 5) hx hb htz i_TR t_TR o_TR n_TR hown hK hP hD hS 0 rfl rfl 4 (by decide) (htz _ kf_TR_31) (fun _ h9 => h9) rfl (by decide +kernel) rfl rfl (Nat.le_of_ble_eq_true rfl) d_TR_init_38 (fun H locs hP hD hS => ?_)
  have hP : va_P (dC, dI) classes [(h0, .inr (1, [.ref x1, .ref x2, .ref x3, .int 0, .int 0])), (x1, .inl (k 0, 400, .inl (fun _ => 0))), (x2, .inl (k 3, 61, .inr (.inr (.inr (.inr (fun _ => none)))))), (x3, .inl (k 4, 10, .inr (.inr (.inr (.inr (fun _ => none))))))] H := hP
  have hD : va_D A [(h0, .inr (1, [.ref x1, .ref x2, .ref x3, .int 0, .int 0])), (x1, .inl (k 0, 400, .inl (fun _ => 0))), (x2, .inl (k 3, 61, .inr (.inr (.inr (.inr (fun _ => none)))))), (x3, .inl (k 4, 10, .inr (.inr (.inr (.inr (fun _ => none))))))] := hD
  refine W.widen (k := 3) (n := 471) (Nat.le_of_ble_eq_true rfl) (Nat.le_of_ble_eq_true rfl) ?_
  have hP9 := hP.sub (ws' := [(h0, .inr (1, [.ref x1, .ref x2, .ref x3, .int 0, .int 0])), (x1, .inl (k 0, 400, .inl (fun _ => 0))), (x2, .inl (k 3, 61, .inr (.inr (.inr (.inr (fun _ => none)))))), (x3, .inl (k 4, 10, .inr (.inr (.inr (.inr (fun _ => none))))))]) [0, 1, 2, 3] rfl
  have hD9 := hD.sub (ws' := [(h0, .inr (1, [.ref x1, .ref x2, .ref x3, .int 0, .int 0])), (x1, .inl (k 0, 400, .inl (fun _ => 0))), (x2, .inl (k 3, 61, .inr (.inr (.inr (.inr (fun _ => none)))))), (x3, .inl (k 4, 10, .inr (.inr (.inr (.inr (fun _ => none))))))]) [0, 1, 2, 3] (by decide) rfl
  exact W.vret hx hb hr (fun t ht hW => ⟨⟨(x1, x2, x3), rfl, trivial, by rw [ht]; exact hP9, va_K.moved hW.alike hK, hD9⟩, hS.F ht⟩) hS.2.2 d_TR_init_41
set_option maxHeartbeats 1000000 in
set_option maxRecDepth 100000 in
theorem c_Ed_init (l : Launch) (dC : Nat → ClassId) (dI : Nat → Nat → Nat) (k : Nat → ClassId) (sz : Nat) (h0 : Nat) : Met l y_Ed_init (Cond.code y_Ed_init b_Ed_init 1 none :: z_T) (z_rm 1 2 71) (z_Pc dC dI k sz [.ref h0] [(h0, .inr (3, [.null, .null, .int 0, .long 0, .long 0, .long 0]))]) (va_Qv (fun (u : Nat × Nat) => True) (fun (u : Nat × Nat) t => z_B dC dI k (va_A [(h0, .inr (3, [.null, .null, .int 0, .long 0, .long 0, .long 0]))] sz) [(h0, .inr (3, [.ref u.1, .ref u.2, .int 0, .long 0, .long 0, .long 0])), (u.1, .inl (k 3, 61, .inr (.inr (.inr (.inr (fun _ => none)))))), (u.2, .inl (k 4, 10, .inr (.inr (.inr (.inr (fun _ => none))))))] t) (va_A [(h0, .inr (3, [.null, .null, .int 0, .long 0, .long 0, .long 0]))] sz)) 2 71 (va_A [(h0, .inr (3, [.null, .null, .int 0, .long 0, .long 0, .long 0]))] sz) := by
  refine Met.ofW (cc := b_Ed_init) (maxL := 1) (ret := none) (by decide) rfl ?_
  intro p e s m args below meth c s₁ B hml hv
  obtain ⟨rfl, hsz, hE, hP, hK, hD0⟩ := hv
  have hx := B.exec
  have hb := B.bytes
  have hr := B.returns
  have hts := atoms_spec (ws := Cond.code y_Ed_init b_Ed_init 1 none :: z_T) B.pre
  have htz : ∀ w ∈ z_T, w.before _ s = true := fun w h => hts w (z_cons w h)
  have hown : s.vm.findClass "QuestionText$Edition" = some m.cls := findClass_of_methodNamed B.named
  have hlocks := B.notSynchronized
  have hin : meth.name = "<init>" := (name_of_methodNamed B.named B.method).1
  subst hsz
  have hD := hD0.self (sz := s.heap.size)
  generalize hAe : va_A [(h0, .inr (3, [.null, .null, .int 0, .long 0, .long 0, .long 0]))] s.heap.size = A at hD hE ⊢
  have hA : ∀ q : Nat, s.heap.size ≤ q → A q := fun q h => by rw [← hAe]; exact Or.inr h
  have hS : va_S A s.heap s.heap [] := va_S.rf
  have hP : va_P (dC, dI) classes [(h0, .inr (3, [.null, .null, .int 0, .long 0, .long 0, .long 0]))] s.heap := hP
  have hl := lv_entry ([.ref h0]) (n := 1) (Nat.le_of_ble_eq_true rfl)
  rw [lg_entry_eq]
  generalize (lg_sl ([.ref h0]) ++ List.replicate (1 - (lg_sl ([.ref h0])).length) Slot.unset).toArray = ls at hl ⊢
  have hl : lv_has ls 1 [(0, .ref h0)] := hl
  refine lv_aload_n hx hb d_Ed_init_0 rfl (lv_at hl 0 rfl) ?_
  refine W.objInit hx hb hown (htz _ km_Ed_3) (htz _ in_Obj) (htz _ m_Obj) rfl (hl.1.trans hml.symm) rfl d_Ed_init_1 (Nat.le_of_ble_eq_true rfl) (Nat.le_of_ble_eq_true rfl) ?_
  refine lv_aload_n hx hb d_Ed_init_4 rfl (lv_at hl 0 rfl) ?_
  refine lv_bipush (v := 61) hx hb d_Ed_init_5 (by decide) ?_
  refine z_newq hx hb hown (htz _ kc_Ed_9) (hE.2.1 _ (by decide)) hK hP hD hS hA 3 rfl (by decide) (N' := 61) (by decide) (Nat.le_of_ble_eq_true rfl) (Nat.le_of_ble_eq_true rfl) (Nat.le_of_ble_eq_true rfl) d_Ed_init_7 (fun x1 H hP hD hS => ?_)
  have hP : va_P (dC, dI) classes [(h0, .inr (3, [.null, .null, .int 0, .long 0, .long 0, .long 0])), (x1, .inl (k 3, 61, .inr (.inr (.inr (.inr (fun _ => none))))))] H := hP
  have hD : va_D A [(h0, .inr (3, [.null, .null, .int 0, .long 0, .long 0, .long 0])), (x1, .inl (k 3, 61, .inr (.inr (.inr (.inr (fun _ => none))))))] := hD
  refine va_putF (D := (dC, dI)) (ci := 3) (v := .ref x1) (ty := .array (.object "QuestionText$Question")) (C := R_Ed) (T := F_Ed) (N := 6) hx hb htz i_Ed t_Ed o_Ed n_Ed hown hK hP hD hS 0 rfl rfl 0 (by decide) (htz _ kf_Ed_11) (fun _ h9 => h9) rfl hin rfl (by decide +kernel) rfl rfl (Nat.le_of_ble_eq_true rfl) d_Ed_init_10 (fun H locs hP hD hS => ?_)
  have hP : va_P (dC, dI) classes [(h0, .inr (3, [.ref x1, .null, .int 0, .long 0, .long 0, .long 0])), (x1, .inl (k 3, 61, .inr (.inr (.inr (.inr (fun _ => none))))))] H := hP
  have hD : va_D A [(h0, .inr (3, [.ref x1, .null, .int 0, .long 0, .long 0, .long 0])), (x1, .inl (k 3, 61, .inr (.inr (.inr (.inr (fun _ => none))))))] := hD
  refine lv_aload_n hx hb d_Ed_init_13 rfl (lv_at hl 0 rfl) ?_
  refine lv_bipush (v := 10) hx hb d_Ed_init_14 (by decide) ?_
  refine z_newq hx hb hown (htz _ kc_Ed_17) (hE.2.1 _ (by decide)) hK hP hD hS hA 4 rfl (by decide) (N' := 10) (by decide) (Nat.le_of_ble_eq_true rfl) (Nat.le_of_ble_eq_true rfl) (Nat.le_of_ble_eq_true rfl) d_Ed_init_16 (fun x2 H hP hD hS => ?_)
  have hP : va_P (dC, dI) classes [(h0, .inr (3, [.ref x1, .null, .int 0, .long 0, .long 0, .long 0])), (x1, .inl (k 3, 61, .inr (.inr (.inr (.inr (fun _ => none)))))), (x2, .inl (k 4, 10, .inr (.inr (.inr (.inr (fun _ => none))))))] H := hP
  have hD : va_D A [(h0, .inr (3, [.ref x1, .null, .int 0, .long 0, .long 0, .long 0])), (x1, .inl (k 3, 61, .inr (.inr (.inr (.inr (fun _ => none)))))), (x2, .inl (k 4, 10, .inr (.inr (.inr (.inr (fun _ => none))))))] := hD
  refine va_putF (D := (dC, dI)) (ci := 3) (v := .ref x2) (ty := .array (.object "QuestionText$Kind")) (C := R_Ed) (T := F_Ed) (N := 6) hx hb htz i_Ed t_Ed o_Ed n_Ed hown hK hP hD hS 0 rfl rfl 1 (by decide) (htz _ kf_Ed_19) (fun _ h9 => h9) rfl hin rfl (by decide +kernel) rfl rfl (Nat.le_of_ble_eq_true rfl) d_Ed_init_19 (fun H locs hP hD hS => ?_)
  have hP : va_P (dC, dI) classes [(h0, .inr (3, [.ref x1, .ref x2, .int 0, .long 0, .long 0, .long 0])), (x1, .inl (k 3, 61, .inr (.inr (.inr (.inr (fun _ => none)))))), (x2, .inl (k 4, 10, .inr (.inr (.inr (.inr (fun _ => none))))))] H := hP
  have hD : va_D A [(h0, .inr (3, [.ref x1, .ref x2, .int 0, .long 0, .long 0, .long 0])), (x1, .inl (k 3, 61, .inr (.inr (.inr (.inr (fun _ => none)))))), (x2, .inl (k 4, 10, .inr (.inr (.inr (.inr (fun _ => none))))))] := hD
  refine lv_aload_n hx hb d_Ed_init_22 rfl (lv_at hl 0 rfl) ?_
  refine lv_iconst (v := 0) hx hb d_Ed_init_23 (by decide) ?_
  refine va_put (D := (dC, dI)) (ci := 3) (v := .int 0) (ty := .int) (C := R_Ed) (T := F_Ed) (N := 6) hx hb htz i_Ed t_Ed o_Ed n_Ed hown hK hP hD hS 0 rfl rfl 2 (by decide) (htz _ kf_Ed_23) (fun _ h9 => h9) rfl (by decide +kernel) rfl rfl (Nat.le_of_ble_eq_true rfl) d_Ed_init_24 (fun H locs hP hD hS => ?_)
  have hP : va_P (dC, dI) classes [(h0, .inr (3, [.ref x1, .ref x2, .int 0, .long 0, .long 0, .long 0])), (x1, .inl (k 3, 61, .inr (.inr (.inr (.inr (fun _ => none)))))), (x2, .inl (k 4, 10, .inr (.inr (.inr (.inr (fun _ => none))))))] H := hP
  have hD : va_D A [(h0, .inr (3, [.ref x1, .ref x2, .int 0, .long 0, .long 0, .long 0])), (x1, .inl (k 3, 61, .inr (.inr (.inr (.inr (fun _ => none)))))), (x2, .inl (k 4, 10, .inr (.inr (.inr (.inr (fun _ => none))))))] := hD
  refine lv_aload_n hx hb d_Ed_init_27 rfl (lv_at hl 0 rfl) ?_
  refine lv_lconst (v := 0) hx hb d_Ed_init_28 (by decide) ?_
  refine va_put (D := (dC, dI)) (ci := 3) (v := .long 0) (ty := .long) (C := R_Ed) (T := F_Ed) (N := 6) hx hb htz i_Ed t_Ed o_Ed n_Ed hown hK hP hD hS 0 rfl rfl 3 (by decide) (htz _ kf_Ed_27) (fun _ h9 => h9) rfl (by decide +kernel) rfl rfl (Nat.le_of_ble_eq_true rfl) d_Ed_init_29 (fun H locs hP hD hS => ?_)
  have hP : va_P (dC, dI) classes [(h0, .inr (3, [.ref x1, .ref x2, .int 0, .long 0, .long 0, .long 0])), (x1, .inl (k 3, 61, .inr (.inr (.inr (.inr (fun _ => none)))))), (x2, .inl (k 4, 10, .inr (.inr (.inr (.inr (fun _ => none))))))] H := hP
  have hD : va_D A [(h0, .inr (3, [.ref x1, .ref x2, .int 0, .long 0, .long 0, .long 0])), (x1, .inl (k 3, 61, .inr (.inr (.inr (.inr (fun _ => none)))))), (x2, .inl (k 4, 10, .inr (.inr (.inr (.inr (fun _ => none))))))] := hD
  refine lv_aload_n hx hb d_Ed_init_32 rfl (lv_at hl 0 rfl) ?_
  refine lv_lconst (v := 0) hx hb d_Ed_init_33 (by decide) ?_
  refine va_put (D := (dC, dI)) (ci := 3) (v := .long 0) (ty := .long) (C := R_Ed) (T := F_Ed) (N := 6) hx hb htz i_Ed t_Ed o_Ed n_Ed hown hK hP hD hS 0 rfl rfl 4 (by decide) (htz _ kf_Ed_31) (fun _ h9 => h9) rfl (by decide +kernel) rfl rfl (Nat.le_of_ble_eq_true rfl) d_Ed_init_34 (fun H locs hP hD hS => ?_)
  have hP : va_P (dC, dI) classes [(h0, .inr (3, [.ref x1, .ref x2, .int 0, .long 0, .long 0, .long 0])), (x1, .inl (k 3, 61, .inr (.inr (.inr (.inr (fun _ => none)))))), (x2, .inl (k 4, 10, .inr (.inr (.inr (.inr (fun _ => none))))))] H := hP
  have hD : va_D A [(h0, .inr (3, [.ref x1, .ref x2, .int 0, .long 0, .long 0, .long 0])), (x1, .inl (k 3, 61, .inr (.inr (.inr (.inr (fun _ => none)))))), (x2, .inl (k 4, 10, .inr (.inr (.inr (.inr (fun _ => none))))))] := hD
  refine lv_aload_n hx hb d_Ed_init_37 rfl (lv_at hl 0 rfl) ?_
  refine lv_lconst (v := 0) hx hb d_Ed_init_38 (by decide) ?_
  refine va_put (D := (dC, dI)) (ci := 3) (v := .long 0) (ty := .long) (C := R_Ed) (T := F_Ed) (N := 6) hx hb htz i_Ed t_Ed o_Ed n_Ed hown hK hP hD hS 0 rfl rfl 5 (by decide) (htz _ kf_Ed_34) (fun _ h9 => h9) rfl (by decide +kernel) rfl rfl (Nat.le_of_ble_eq_true rfl) d_Ed_init_39 (fun H locs hP hD hS => ?_)
  have hP : va_P (dC, dI) classes [(h0, .inr (3, [.ref x1, .ref x2, .int 0, .long 0, .long 0, .long 0])), (x1, .inl (k 3, 61, .inr (.inr (.inr (.inr (fun _ => none)))))), (x2, .inl (k 4, 10, .inr (.inr (.inr (.inr (fun _ => none))))))] H := hP
  have hD : va_D A [(h0, .inr (3, [.ref x1, .ref x2, .int 0, .long 0, .long 0, .long 0])), (x1, .inl (k 3, 61, .inr (.inr (.inr (.inr (fun _ => none)))))), (x2, .inl (k 4, 10, .inr (.inr (.inr (.inr (fun _ => none))))))] := hD
  refine W.widen (k := 2) (n := 71) (Nat.le_of_ble_eq_true rfl) (Nat.le_of_ble_eq_true rfl) ?_
  have hP9 := hP.sub (ws' := [(h0, .inr (3, [.ref x1, .ref x2, .int 0, .long 0, .long 0, .long 0])), (x1, .inl (k 3, 61, .inr (.inr (.inr (.inr (fun _ => none)))))), (x2, .inl (k 4, 10, .inr (.inr (.inr (.inr (fun _ => none))))))]) [0, 1, 2] rfl
  have hD9 := hD.sub (ws' := [(h0, .inr (3, [.ref x1, .ref x2, .int 0, .long 0, .long 0, .long 0])), (x1, .inl (k 3, 61, .inr (.inr (.inr (.inr (fun _ => none)))))), (x2, .inl (k 4, 10, .inr (.inr (.inr (.inr (fun _ => none))))))]) [0, 1, 2] (by decide) rfl
  exact W.vret hx hb hr (fun t ht hW => ⟨⟨(x1, x2), rfl, trivial, by rw [ht]; exact hP9, va_K.moved hW.alike hK, hD9⟩, hS.F ht⟩) hS.2.2 d_Ed_init_42
set_option maxHeartbeats 1000000 in
set_option maxRecDepth 100000 in
theorem c_Q_init (l : Launch) (dC : Nat → ClassId) (dI : Nat → Nat → Nat) (k : Nat → ClassId) (sz : Nat) (h0 : Nat) : Met l y_Q_init (Cond.code y_Q_init b_Q_init 1 none :: z_T) (z_rm 2 12 700) (z_Pc dC dI k sz [.ref h0] [(h0, .inr (0, [.null, .null, .null, .null, .int 0, .int 0]))]) (va_Qv (fun (u : Nat × Nat × Nat × Nat × Nat × Nat × Nat × Nat × Nat × Nat × Nat) => True) (fun (u : Nat × Nat × Nat × Nat × Nat × Nat × Nat × Nat × Nat × Nat × Nat) t => z_B dC dI k (va_A [(h0, .inr (0, [.null, .null, .null, .null, .int 0, .int 0]))] sz) [(h0, .inr (0, [.ref u.1, .ref u.2.2.2.2.1, .ref u.2.2.2.2.2.1, .ref u.2.2.2.2.2.2.2.2.1, .int 0, .int (-1)])), (u.1, .inr (1, [.ref u.2.1, .ref u.2.2.1, .ref u.2.2.2.1, .int 0, .int 0])), (u.2.1, .inl (k 0, 400, .inl (fun _ => 0))), (u.2.2.1, .inl (k 3, 61, .inr (.inr (.inr (.inr (fun _ => none)))))), (u.2.2.2.1, .inl (k 4, 10, .inr (.inr (.inr (.inr (fun _ => none)))))), (u.2.2.2.2.1, .inl (k 5, 9, .inr (.inr (.inr (.inr (va_up (fun _ => none) 0 (some u.2.2.2.2.2.2.2.2.1))))))), (u.2.2.2.2.2.1, .inr (2, [.ref u.2.2.2.2.2.2.1, .ref u.2.2.2.2.2.2.2.1, .int 0, .int 0, .int 0, .int 0])), (u.2.2.2.2.2.2.1, .inl (k 0, 40, .inl (fun _ => 0))), (u.2.2.2.2.2.2.2.1, .inl (k 0, 61, .inl (fun _ => 0))), (u.2.2.2.2.2.2.2.2.1, .inr (3, [.ref u.2.2.2.2.2.2.2.2.2.1, .ref u.2.2.2.2.2.2.2.2.2.2, .int 0, .long 0, .long 0, .long 0])), (u.2.2.2.2.2.2.2.2.2.1, .inl (k 3, 61, .inr (.inr (.inr (.inr (fun _ => none)))))), (u.2.2.2.2.2.2.2.2.2.2, .inl (k 4, 10, .inr (.inr (.inr (.inr (fun _ => none))))))] t) (va_A [(h0, .inr (0, [.null, .null, .null, .null, .int 0, .int 0]))] sz)) 12 700 (va_A [(h0, .inr (0, [.null, .null, .null, .null, .int 0, .int 0]))] sz) := by
  refine Met.ofW (cc := b_Q_init) (maxL := 1) (ret := none) (by decide) rfl ?_
  intro p e s m args below meth c s₁ B hml hv
  obtain ⟨rfl, hsz, hE, hP, hK, hD0⟩ := hv
  have hx := B.exec
  have hb := B.bytes
  have hr := B.returns
  have hts := atoms_spec (ws := Cond.code y_Q_init b_Q_init 1 none :: z_T) B.pre
  have htz : ∀ w ∈ z_T, w.before _ s = true := fun w h => hts w (z_cons w h)
  have hown : s.vm.findClass "QuestionText" = some m.cls := findClass_of_methodNamed B.named
  have hlocks := B.notSynchronized
  have hin : meth.name = "<init>" := (name_of_methodNamed B.named B.method).1
  subst hsz
  have hD := hD0.self (sz := s.heap.size)
  generalize hAe : va_A [(h0, .inr (0, [.null, .null, .null, .null, .int 0, .int 0]))] s.heap.size = A at hD hE ⊢
  have hA : ∀ q : Nat, s.heap.size ≤ q → A q := fun q h => by rw [← hAe]; exact Or.inr h
  have hS : va_S A s.heap s.heap [] := va_S.rf
  have hP : va_P (dC, dI) classes [(h0, .inr (0, [.null, .null, .null, .null, .int 0, .int 0]))] s.heap := hP
  have hl := lv_entry ([.ref h0]) (n := 1) (Nat.le_of_ble_eq_true rfl)
  rw [lg_entry_eq]
  generalize (lg_sl ([.ref h0]) ++ List.replicate (1 - (lg_sl ([.ref h0])).length) Slot.unset).toArray = ls at hl ⊢
  have hl : lv_has ls 1 [(0, .ref h0)] := hl
  refine lv_aload_n hx hb d_Q_init_0 rfl (lv_at hl 0 rfl) ?_
  refine W.objInit hx hb hown (htz _ km_Q_1) (htz _ in_Obj) (htz _ m_Obj) rfl (hl.1.trans hml.symm) rfl d_Q_init_1 (Nat.le_of_ble_eq_true rfl) (Nat.le_of_ble_eq_true rfl) ?_
  refine lv_aload_n hx hb d_Q_init_4 rfl (lv_at hl 0 rfl) ?_
  refine va_new (ci := 1) (fs := [.null, .null, .null, .int 0, .int 0]) (C := R_TR) (T := F_TR) (N := 5) hx hb htz i_TR t_TR o_TR hown (htz _ kc_Q_7) (htz _ mk_TR) (htz _ ini_TR) hK hP hD hS hA rfl (by intro j hj; match j, hj with | 0, _ => rfl | 1, _ => rfl | 2, _ => rfl | 3, _ => rfl | 4, _ => rfl | j + 5, h => exact absurd h (by omega)) (Nat.le_of_ble_eq_true rfl) (Nat.le_of_ble_eq_true rfl) d_Q_init_5 (fun tr H hP hD hS => ?_)
  have hP : va_P (dC, dI) classes [(h0, .inr (0, [.null, .null, .null, .null, .int 0, .int 0])), (tr, .inr (1, [.null, .null, .null, .int 0, .int 0]))] H := hP
  have hD : va_D A [(h0, .inr (0, [.null, .null, .null, .null, .int 0, .int 0])), (tr, .inr (1, [.null, .null, .null, .int 0, .int 0]))] := hD
  refine lv_dup hx hb d_Q_init_8 rfl ?_
  have hPc := hP.sub (ws' := [(tr, .inr (1, [.null, .null, .null, .int 0, .int 0]))]) [1] rfl
  have hDc := hD.sub (ws' := [(tr, .inr (1, [.null, .null, .null, .int 0, .int 0]))]) [1] (by decide) rfl
  have hFc := va_free (wc := [(tr, .inr (1, [.null, .null, .null, .int 0, .int 0]))]) hD hS hA [1] rfl
  refine va_callv (va_runIN (As := []) (rest := [.ref tr, .ref h0]) ⟨hx, hb, hml, hown, htz⟩ (c_TR_init l dC dI k H.size tr) ⟨va_cnB 0 htz (z_gI (fun _ h => h) m_TR_init) rfl rfl rfl (hE.1 _ km_Q_9) (htz _ ini_TR) (by decide +kernel) ⟨(Nat.le_of_ble_eq_true rfl), (Nat.le_of_ble_eq_true rfl)⟩, rfl, (htz _ in_TR_init)⟩ ⟨z_blind, fun U hU hW => ⟨rfl, by rw [hU], hE.call hS hFc hU hW, by rw [hU]; exact hPc, va_K.moved hW.alike hK, hDc.weaken (fun _ _ _ _ => trivial)⟩⟩ rfl rfl hl.1 rfl (lv_room (Nat.le_of_ble_eq_true rfl)) d_Q_init_9 ⟨(Nat.le_of_ble_eq_true rfl), (Nat.le_of_ble_eq_true rfl)⟩) hS (fun q _ h => hFc q h) hFc (fun u t H1 locs ht hvm hw hB hz1 hk1 hS => ?_)
  obtain ⟨t1, t2, t3⟩ := u
  obtain ⟨hP1, hK1, hD1⟩ := hB
  rw [ht] at hP1
  try dsimp only at hw
  obtain ⟨hP, hD⟩ := va_join (wr := [(h0, .inr (0, [.null, .null, .null, .null, .int 0, .int 0]))]) (w1 := [(tr, .inr (1, [.ref t1, .ref t2, .ref t3, .int 0, .int 0])), (t1, .inl (k 0, 400, .inl (fun _ => 0))), (t2, .inl (k 3, 61, .inr (.inr (.inr (.inr (fun _ => none)))))), (t3, .inl (k 4, 10, .inr (.inr (.inr (.inr (fun _ => none))))))]) hP hD [1] [0] rfl rfl (by decide) (by decide) hk1 hFc hP1 hD1
  generalize H1 = H at hP hS ⊢
  have hP : va_P (dC, dI) classes [(h0, .inr (0, [.null, .null, .null, .null, .int 0, .int 0])), (tr, .inr (1, [.ref t1, .ref t2, .ref t3, .int 0, .int 0])), (t1, .inl (k 0, 400, .inl (fun _ => 0))), (t2, .inl (k 3, 61, .inr (.inr (.inr (.inr (fun _ => none)))))), (t3, .inl (k 4, 10, .inr (.inr (.inr (.inr (fun _ => none))))))] H := hP
  have hD : va_D A [(h0, .inr (0, [.null, .null, .null, .null, .int 0, .int 0])), (tr, .inr (1, [.ref t1, .ref t2, .ref t3, .int 0, .int 0])), (t1, .inl (k 0, 400, .inl (fun _ => 0))), (t2, .inl (k 3, 61, .inr (.inr (.inr (.inr (fun _ => none)))))), (t3, .inl (k 4, 10, .inr (.inr (.inr (.inr (fun _ => none))))))] := hD
  refine va_putF (D := (dC, dI)) (ci := 0) (v := .ref tr) (ty := .object "QuestionText$TextReader") (C := R_Q) (T := F_Q) (N := 6) hx hb htz i_Q t_Q o_Q n_Q hown hK hP hD hS 0 rfl rfl 0 (by decide) (htz _ kf_Q_10) (fun _ h9 => h9) rfl hin rfl (by decide +kernel) rfl rfl (Nat.le_of_ble_eq_true rfl) d_Q_init_12 (fun H locs hP hD hS => ?_)
  have hP : va_P (dC, dI) classes [(h0, .inr (0, [.ref tr, .null, .null, .null, .int 0, .int 0])), (tr, .inr (1, [.ref t1, .ref t2, .ref t3, .int 0, .int 0])), (t1, .inl (k 0, 400, .inl (fun _ => 0))), (t2, .inl (k 3, 61, .inr (.inr (.inr (.inr (fun _ => none)))))), (t3, .inl (k 4, 10, .inr (.inr (.inr (.inr (fun _ => none))))))] H := hP
  have hD : va_D A [(h0, .inr (0, [.ref tr, .null, .null, .null, .int 0, .int 0])), (tr, .inr (1, [.ref t1, .ref t2, .ref t3, .int 0, .int 0])), (t1, .inl (k 0, 400, .inl (fun _ => 0))), (t2, .inl (k 3, 61, .inr (.inr (.inr (.inr (fun _ => none)))))), (t3, .inl (k 4, 10, .inr (.inr (.inr (.inr (fun _ => none))))))] := hD
  refine lv_aload_n hx hb d_Q_init_15 rfl (lv_at hl 0 rfl) ?_
  refine lv_bipush (v := 9) hx hb d_Q_init_16 (by decide) ?_
  refine z_newq hx hb hown (htz _ kc_Q_16) (hE.2.1 _ (by decide)) hK hP hD hS hA 5 rfl (by decide) (N' := 9) (by decide) (Nat.le_of_ble_eq_true rfl) (Nat.le_of_ble_eq_true rfl) (Nat.le_of_ble_eq_true rfl) d_Q_init_18 (fun ea H hP hD hS => ?_)
  have hP : va_P (dC, dI) classes [(h0, .inr (0, [.ref tr, .null, .null, .null, .int 0, .int 0])), (tr, .inr (1, [.ref t1, .ref t2, .ref t3, .int 0, .int 0])), (t1, .inl (k 0, 400, .inl (fun _ => 0))), (t2, .inl (k 3, 61, .inr (.inr (.inr (.inr (fun _ => none)))))), (t3, .inl (k 4, 10, .inr (.inr (.inr (.inr (fun _ => none)))))), (ea, .inl (k 5, 9, .inr (.inr (.inr (.inr (fun _ => none))))))] H := hP
  have hD : va_D A [(h0, .inr (0, [.ref tr, .null, .null, .null, .int 0, .int 0])), (tr, .inr (1, [.ref t1, .ref t2, .ref t3, .int 0, .int 0])), (t1, .inl (k 0, 400, .inl (fun _ => 0))), (t2, .inl (k 3, 61, .inr (.inr (.inr (.inr (fun _ => none)))))), (t3, .inl (k 4, 10, .inr (.inr (.inr (.inr (fun _ => none)))))), (ea, .inl (k 5, 9, .inr (.inr (.inr (.inr (fun _ => none))))))] := hD
  refine va_putF (D := (dC, dI)) (ci := 0) (v := .ref ea) (ty := .array (.object "QuestionText$Edition")) (C := R_Q) (T := F_Q) (N := 6) hx hb htz i_Q t_Q o_Q n_Q hown hK hP hD hS 0 rfl rfl 1 (by decide) (htz _ kf_Q_18) (fun _ h9 => h9) rfl hin rfl (by decide +kernel) rfl rfl (Nat.le_of_ble_eq_true rfl) d_Q_init_21 (fun H locs hP hD hS => ?_)
  have hP : va_P (dC, dI) classes [(h0, .inr (0, [.ref tr, .ref ea, .null, .null, .int 0, .int 0])), (tr, .inr (1, [.ref t1, .ref t2, .ref t3, .int 0, .int 0])), (t1, .inl (k 0, 400, .inl (fun _ => 0))), (t2, .inl (k 3, 61, .inr (.inr (.inr (.inr (fun _ => none)))))), (t3, .inl (k 4, 10, .inr (.inr (.inr (.inr (fun _ => none)))))), (ea, .inl (k 5, 9, .inr (.inr (.inr (.inr (fun _ => none))))))] H := hP
  have hD : va_D A [(h0, .inr (0, [.ref tr, .ref ea, .null, .null, .int 0, .int 0])), (tr, .inr (1, [.ref t1, .ref t2, .ref t3, .int 0, .int 0])), (t1, .inl (k 0, 400, .inl (fun _ => 0))), (t2, .inl (k 3, 61, .inr (.inr (.inr (.inr (fun _ => none)))))), (t3, .inl (k 4, 10, .inr (.inr (.inr (.inr (fun _ => none)))))), (ea, .inl (k 5, 9, .inr (.inr (.inr (.inr (fun _ => none))))))] := hD
  refine lv_aload_n hx hb d_Q_init_24 rfl (lv_at hl 0 rfl) ?_
  refine va_new (ci := 2) (fs := [.null, .null, .int 0, .int 0, .int 0, .int 0]) (C := R_Ca) (T := F_Ca) (N := 6) hx hb htz i_Ca t_Ca o_Ca hown (htz _ kc_Q_22) (htz _ mk_Ca) (htz _ ini_Ca) hK hP hD hS hA rfl (by intro j hj; match j, hj with | 0, _ => rfl | 1, _ => rfl | 2, _ => rfl | 3, _ => rfl | 4, _ => rfl | 5, _ => rfl | j + 6, h => exact absurd h (by omega)) (Nat.le_of_ble_eq_true rfl) (Nat.le_of_ble_eq_true rfl) d_Q_init_25 (fun ca H hP hD hS => ?_)
  have hP : va_P (dC, dI) classes [(h0, .inr (0, [.ref tr, .ref ea, .null, .null, .int 0, .int 0])), (tr, .inr (1, [.ref t1, .ref t2, .ref t3, .int 0, .int 0])), (t1, .inl (k 0, 400, .inl (fun _ => 0))), (t2, .inl (k 3, 61, .inr (.inr (.inr (.inr (fun _ => none)))))), (t3, .inl (k 4, 10, .inr (.inr (.inr (.inr (fun _ => none)))))), (ea, .inl (k 5, 9, .inr (.inr (.inr (.inr (fun _ => none)))))), (ca, .inr (2, [.null, .null, .int 0, .int 0, .int 0, .int 0]))] H := hP
  have hD : va_D A [(h0, .inr (0, [.ref tr, .ref ea, .null, .null, .int 0, .int 0])), (tr, .inr (1, [.ref t1, .ref t2, .ref t3, .int 0, .int 0])), (t1, .inl (k 0, 400, .inl (fun _ => 0))), (t2, .inl (k 3, 61, .inr (.inr (.inr (.inr (fun _ => none)))))), (t3, .inl (k 4, 10, .inr (.inr (.inr (.inr (fun _ => none)))))), (ea, .inl (k 5, 9, .inr (.inr (.inr (.inr (fun _ => none)))))), (ca, .inr (2, [.null, .null, .int 0, .int 0, .int 0, .int 0]))] := hD
  refine lv_dup hx hb d_Q_init_28 rfl ?_
  have hPc := hP.sub (ws' := [(ca, .inr (2, [.null, .null, .int 0, .int 0, .int 0, .int 0]))]) [6] rfl
  have hDc := hD.sub (ws' := [(ca, .inr (2, [.null, .null, .int 0, .int 0, .int 0, .int 0]))]) [6] (by decide) rfl
  have hFc := va_free (wc := [(ca, .inr (2, [.null, .null, .int 0, .int 0, .int 0, .int 0]))]) hD hS hA [6] rfl
  refine va_callv (va_runIN (As := []) (rest := [.ref ca, .ref h0]) ⟨hx, hb, hml, hown, htz⟩ (c_Ca_init l dC dI k H.size ca) ⟨va_cnB 0 htz (z_gI (fun _ h => h) m_Ca_init) rfl rfl rfl (hE.1 _ km_Q_24) (htz _ ini_Ca) (by decide +kernel) ⟨(Nat.le_of_ble_eq_true rfl), (Nat.le_of_ble_eq_true rfl)⟩, rfl, (htz _ in_Ca_init)⟩ ⟨z_blind, fun U hU hW => ⟨rfl, by rw [hU], hE.call hS hFc hU hW, by rw [hU]; exact hPc, va_K.moved hW.alike hK, hDc.weaken (fun _ _ _ _ => trivial)⟩⟩ rfl rfl hl.1 rfl (lv_room (Nat.le_of_ble_eq_true rfl)) d_Q_init_29 ⟨(Nat.le_of_ble_eq_true rfl), (Nat.le_of_ble_eq_true rfl)⟩) hS (fun q _ h => hFc q h) hFc (fun u t H1 locs ht hvm hw hB hz1 hk1 hS => ?_)
  obtain ⟨c1, c2⟩ := u
  obtain ⟨hP1, hK1, hD1⟩ := hB
  rw [ht] at hP1
  try dsimp only at hw
  obtain ⟨hP, hD⟩ := va_join (wr := [(h0, .inr (0, [.ref tr, .ref ea, .null, .null, .int 0, .int 0])), (tr, .inr (1, [.ref t1, .ref t2, .ref t3, .int 0, .int 0])), (t1, .inl (k 0, 400, .inl (fun _ => 0))), (t2, .inl (k 3, 61, .inr (.inr (.inr (.inr (fun _ => none)))))), (t3, .inl (k 4, 10, .inr (.inr (.inr (.inr (fun _ => none)))))), (ea, .inl (k 5, 9, .inr (.inr (.inr (.inr (fun _ => none))))))]) (w1 := [(ca, .inr (2, [.ref c1, .ref c2, .int 0, .int 0, .int 0, .int 0])), (c1, .inl (k 0, 40, .inl (fun _ => 0))), (c2, .inl (k 0, 61, .inl (fun _ => 0)))]) hP hD [6] [0, 1, 2, 3, 4, 5] rfl rfl (by decide) (by decide) hk1 hFc hP1 hD1
  generalize H1 = H at hP hS ⊢
  have hP : va_P (dC, dI) classes [(h0, .inr (0, [.ref tr, .ref ea, .null, .null, .int 0, .int 0])), (tr, .inr (1, [.ref t1, .ref t2, .ref t3, .int 0, .int 0])), (t1, .inl (k 0, 400, .inl (fun _ => 0))), (t2, .inl (k 3, 61, .inr (.inr (.inr (.inr (fun _ => none)))))), (t3, .inl (k 4, 10, .inr (.inr (.inr (.inr (fun _ => none)))))), (ea, .inl (k 5, 9, .inr (.inr (.inr (.inr (fun _ => none)))))), (ca, .inr (2, [.ref c1, .ref c2, .int 0, .int 0, .int 0, .int 0])), (c1, .inl (k 0, 40, .inl (fun _ => 0))), (c2, .inl (k 0, 61, .inl (fun _ => 0)))] H := hP
  have hD : va_D A [(h0, .inr (0, [.ref tr, .ref ea, .null, .null, .int 0, .int 0])), (tr, .inr (1, [.ref t1, .ref t2, .ref t3, .int 0, .int 0])), (t1, .inl (k 0, 400, .inl (fun _ => 0))), (t2, .inl (k 3, 61, .inr (.inr (.inr (.inr (fun _ => none)))))), (t3, .inl (k 4, 10, .inr (.inr (.inr (.inr (fun _ => none)))))), (ea, .inl (k 5, 9, .inr (.inr (.inr (.inr (fun _ => none)))))), (ca, .inr (2, [.ref c1, .ref c2, .int 0, .int 0, .int 0, .int 0])), (c1, .inl (k 0, 40, .inl (fun _ => 0))), (c2, .inl (k 0, 61, .inl (fun _ => 0)))] := hD
  refine va_putF (D := (dC, dI)) (ci := 0) (v := .ref ca) (ty := .object "QuestionText$Call") (C := R_Q) (T := F_Q) (N := 6) hx hb htz i_Q t_Q o_Q n_Q hown hK hP hD hS 0 rfl rfl 2 (by decide) (htz _ kf_Q_25) (fun _ h9 => h9) rfl hin rfl (by decide +kernel) rfl rfl (Nat.le_of_ble_eq_true rfl) d_Q_init_32 (fun H locs hP hD hS => ?_)
  have hP : va_P (dC, dI) classes [(h0, .inr (0, [.ref tr, .ref ea, .ref ca, .null, .int 0, .int 0])), (tr, .inr (1, [.ref t1, .ref t2, .ref t3, .int 0, .int 0])), (t1, .inl (k 0, 400, .inl (fun _ => 0))), (t2, .inl (k 3, 61, .inr (.inr (.inr (.inr (fun _ => none)))))), (t3, .inl (k 4, 10, .inr (.inr (.inr (.inr (fun _ => none)))))), (ea, .inl (k 5, 9, .inr (.inr (.inr (.inr (fun _ => none)))))), (ca, .inr (2, [.ref c1, .ref c2, .int 0, .int 0, .int 0, .int 0])), (c1, .inl (k 0, 40, .inl (fun _ => 0))), (c2, .inl (k 0, 61, .inl (fun _ => 0)))] H := hP
  have hD : va_D A [(h0, .inr (0, [.ref tr, .ref ea, .ref ca, .null, .int 0, .int 0])), (tr, .inr (1, [.ref t1, .ref t2, .ref t3, .int 0, .int 0])), (t1, .inl (k 0, 400, .inl (fun _ => 0))), (t2, .inl (k 3, 61, .inr (.inr (.inr (.inr (fun _ => none)))))), (t3, .inl (k 4, 10, .inr (.inr (.inr (.inr (fun _ => none)))))), (ea, .inl (k 5, 9, .inr (.inr (.inr (.inr (fun _ => none)))))), (ca, .inr (2, [.ref c1, .ref c2, .int 0, .int 0, .int 0, .int 0])), (c1, .inl (k 0, 40, .inl (fun _ => 0))), (c2, .inl (k 0, 61, .inl (fun _ => 0)))] := hD
  refine lv_aload_n hx hb d_Q_init_35 rfl (lv_at hl 0 rfl) ?_
  refine va_new (ci := 3) (fs := [.null, .null, .int 0, .long 0, .long 0, .long 0]) (C := R_Ed) (T := F_Ed) (N := 6) hx hb htz i_Ed t_Ed o_Ed hown (htz _ kc_Q_16) (htz _ mk_Ed) (htz _ ini_Ed) hK hP hD hS hA rfl (by intro j hj; match j, hj with | 0, _ => rfl | 1, _ => rfl | 2, _ => rfl | 3, _ => rfl | 4, _ => rfl | 5, _ => rfl | j + 6, h => exact absurd h (by omega)) (Nat.le_of_ble_eq_true rfl) (Nat.le_of_ble_eq_true rfl) d_Q_init_36 (fun ed H hP hD hS => ?_)
  have hP : va_P (dC, dI) classes [(h0, .inr (0, [.ref tr, .ref ea, .ref ca, .null, .int 0, .int 0])), (tr, .inr (1, [.ref t1, .ref t2, .ref t3, .int 0, .int 0])), (t1, .inl (k 0, 400, .inl (fun _ => 0))), (t2, .inl (k 3, 61, .inr (.inr (.inr (.inr (fun _ => none)))))), (t3, .inl (k 4, 10, .inr (.inr (.inr (.inr (fun _ => none)))))), (ea, .inl (k 5, 9, .inr (.inr (.inr (.inr (fun _ => none)))))), (ca, .inr (2, [.ref c1, .ref c2, .int 0, .int 0, .int 0, .int 0])), (c1, .inl (k 0, 40, .inl (fun _ => 0))), (c2, .inl (k 0, 61, .inl (fun _ => 0))), (ed, .inr (3, [.null, .null, .int 0, .long 0, .long 0, .long 0]))] H := hP
  have hD : va_D A [(h0, .inr (0, [.ref tr, .ref ea, .ref ca, .null, .int 0, .int 0])), (tr, .inr (1, [.ref t1, .ref t2, .ref t3, .int 0, .int 0])), (t1, .inl (k 0, 400, .inl (fun _ => 0))), (t2, .inl (k 3, 61, .inr (.inr (.inr (.inr (fun _ => none)))))), (t3, .inl (k 4, 10, .inr (.inr (.inr (.inr (fun _ => none)))))), (ea, .inl (k 5, 9, .inr (.inr (.inr (.inr (fun _ => none)))))), (ca, .inr (2, [.ref c1, .ref c2, .int 0, .int 0, .int 0, .int 0])), (c1, .inl (k 0, 40, .inl (fun _ => 0))), (c2, .inl (k 0, 61, .inl (fun _ => 0))), (ed, .inr (3, [.null, .null, .int 0, .long 0, .long 0, .long 0]))] := hD
  refine lv_dup hx hb d_Q_init_39 rfl ?_
  have hPc := hP.sub (ws' := [(ed, .inr (3, [.null, .null, .int 0, .long 0, .long 0, .long 0]))]) [9] rfl
  have hDc := hD.sub (ws' := [(ed, .inr (3, [.null, .null, .int 0, .long 0, .long 0, .long 0]))]) [9] (by decide) rfl
  have hFc := va_free (wc := [(ed, .inr (3, [.null, .null, .int 0, .long 0, .long 0, .long 0]))]) hD hS hA [9] rfl
  refine va_callv (va_runIN (As := []) (rest := [.ref ed, .ref h0]) ⟨hx, hb, hml, hown, htz⟩ (c_Ed_init l dC dI k H.size ed) ⟨va_cnB 0 htz (z_gI (fun _ h => h) m_Ed_init) rfl rfl rfl (hE.1 _ km_Q_29) (htz _ ini_Ed) (by decide +kernel) ⟨(Nat.le_of_ble_eq_true rfl), (Nat.le_of_ble_eq_true rfl)⟩, rfl, (htz _ in_Ed_init)⟩ ⟨z_blind, fun U hU hW => ⟨rfl, by rw [hU], hE.call hS hFc hU hW, by rw [hU]; exact hPc, va_K.moved hW.alike hK, hDc.weaken (fun _ _ _ _ => trivial)⟩⟩ rfl rfl hl.1 rfl (lv_room (Nat.le_of_ble_eq_true rfl)) d_Q_init_40 ⟨(Nat.le_of_ble_eq_true rfl), (Nat.le_of_ble_eq_true rfl)⟩) hS (fun q _ h => hFc q h) hFc (fun u t H1 locs ht hvm hw hB hz1 hk1 hS => ?_)
  obtain ⟨e1, e2⟩ := u
  obtain ⟨hP1, hK1, hD1⟩ := hB
  rw [ht] at hP1
  try dsimp only at hw
  obtain ⟨hP, hD⟩ := va_join (wr := [(h0, .inr (0, [.ref tr, .ref ea, .ref ca, .null, .int 0, .int 0])), (tr, .inr (1, [.ref t1, .ref t2, .ref t3, .int 0, .int 0])), (t1, .inl (k 0, 400, .inl (fun _ => 0))), (t2, .inl (k 3, 61, .inr (.inr (.inr (.inr (fun _ => none)))))), (t3, .inl (k 4, 10, .inr (.inr (.inr (.inr (fun _ => none)))))), (ea, .inl (k 5, 9, .inr (.inr (.inr (.inr (fun _ => none)))))), (ca, .inr (2, [.ref c1, .ref c2, .int 0, .int 0, .int 0, .int 0])), (c1, .inl (k 0, 40, .inl (fun _ => 0))), (c2, .inl (k 0, 61, .inl (fun _ => 0)))]) (w1 := [(ed, .inr (3, [.ref e1, .ref e2, .int 0, .long 0, .long 0, .long 0])), (e1, .inl (k 3, 61, .inr (.inr (.inr (.inr (fun _ => none)))))), (e2, .inl (k 4, 10, .inr (.inr (.inr (.inr (fun _ => none))))))]) hP hD [9] [0, 1, 2, 3, 4, 5, 6, 7, 8] rfl rfl (by decide) (by decide) hk1 hFc hP1 hD1
  generalize H1 = H at hP hS ⊢
  have hP : va_P (dC, dI) classes [(h0, .inr (0, [.ref tr, .ref ea, .ref ca, .null, .int 0, .int 0])), (tr, .inr (1, [.ref t1, .ref t2, .ref t3, .int 0, .int 0])), (t1, .inl (k 0, 400, .inl (fun _ => 0))), (t2, .inl (k 3, 61, .inr (.inr (.inr (.inr (fun _ => none)))))), (t3, .inl (k 4, 10, .inr (.inr (.inr (.inr (fun _ => none)))))), (ea, .inl (k 5, 9, .inr (.inr (.inr (.inr (fun _ => none)))))), (ca, .inr (2, [.ref c1, .ref c2, .int 0, .int 0, .int 0, .int 0])), (c1, .inl (k 0, 40, .inl (fun _ => 0))), (c2, .inl (k 0, 61, .inl (fun _ => 0))), (ed, .inr (3, [.ref e1, .ref e2, .int 0, .long 0, .long 0, .long 0])), (e1, .inl (k 3, 61, .inr (.inr (.inr (.inr (fun _ => none)))))), (e2, .inl (k 4, 10, .inr (.inr (.inr (.inr (fun _ => none))))))] H := hP
  have hD : va_D A [(h0, .inr (0, [.ref tr, .ref ea, .ref ca, .null, .int 0, .int 0])), (tr, .inr (1, [.ref t1, .ref t2, .ref t3, .int 0, .int 0])), (t1, .inl (k 0, 400, .inl (fun _ => 0))), (t2, .inl (k 3, 61, .inr (.inr (.inr (.inr (fun _ => none)))))), (t3, .inl (k 4, 10, .inr (.inr (.inr (.inr (fun _ => none)))))), (ea, .inl (k 5, 9, .inr (.inr (.inr (.inr (fun _ => none)))))), (ca, .inr (2, [.ref c1, .ref c2, .int 0, .int 0, .int 0, .int 0])), (c1, .inl (k 0, 40, .inl (fun _ => 0))), (c2, .inl (k 0, 61, .inl (fun _ => 0))), (ed, .inr (3, [.ref e1, .ref e2, .int 0, .long 0, .long 0, .long 0])), (e1, .inl (k 3, 61, .inr (.inr (.inr (.inr (fun _ => none)))))), (e2, .inl (k 4, 10, .inr (.inr (.inr (.inr (fun _ => none))))))] := hD
  refine va_put (D := (dC, dI)) (ci := 0) (v := .ref ed) (ty := .object "QuestionText$Edition") (C := R_Q) (T := F_Q) (N := 6) hx hb htz i_Q t_Q o_Q n_Q hown hK hP hD hS 0 rfl rfl 3 (by decide) (htz _ kf_Q_30) (fun _ h9 => h9) rfl (by decide +kernel) rfl rfl (Nat.le_of_ble_eq_true rfl) d_Q_init_43 (fun H locs hP hD hS => ?_)
  have hP : va_P (dC, dI) classes [(h0, .inr (0, [.ref tr, .ref ea, .ref ca, .ref ed, .int 0, .int 0])), (tr, .inr (1, [.ref t1, .ref t2, .ref t3, .int 0, .int 0])), (t1, .inl (k 0, 400, .inl (fun _ => 0))), (t2, .inl (k 3, 61, .inr (.inr (.inr (.inr (fun _ => none)))))), (t3, .inl (k 4, 10, .inr (.inr (.inr (.inr (fun _ => none)))))), (ea, .inl (k 5, 9, .inr (.inr (.inr (.inr (fun _ => none)))))), (ca, .inr (2, [.ref c1, .ref c2, .int 0, .int 0, .int 0, .int 0])), (c1, .inl (k 0, 40, .inl (fun _ => 0))), (c2, .inl (k 0, 61, .inl (fun _ => 0))), (ed, .inr (3, [.ref e1, .ref e2, .int 0, .long 0, .long 0, .long 0])), (e1, .inl (k 3, 61, .inr (.inr (.inr (.inr (fun _ => none)))))), (e2, .inl (k 4, 10, .inr (.inr (.inr (.inr (fun _ => none))))))] H := hP
  have hD : va_D A [(h0, .inr (0, [.ref tr, .ref ea, .ref ca, .ref ed, .int 0, .int 0])), (tr, .inr (1, [.ref t1, .ref t2, .ref t3, .int 0, .int 0])), (t1, .inl (k 0, 400, .inl (fun _ => 0))), (t2, .inl (k 3, 61, .inr (.inr (.inr (.inr (fun _ => none)))))), (t3, .inl (k 4, 10, .inr (.inr (.inr (.inr (fun _ => none)))))), (ea, .inl (k 5, 9, .inr (.inr (.inr (.inr (fun _ => none)))))), (ca, .inr (2, [.ref c1, .ref c2, .int 0, .int 0, .int 0, .int 0])), (c1, .inl (k 0, 40, .inl (fun _ => 0))), (c2, .inl (k 0, 61, .inl (fun _ => 0))), (ed, .inr (3, [.ref e1, .ref e2, .int 0, .long 0, .long 0, .long 0])), (e1, .inl (k 3, 61, .inr (.inr (.inr (.inr (fun _ => none)))))), (e2, .inl (k 4, 10, .inr (.inr (.inr (.inr (fun _ => none))))))] := hD
  refine lv_aload_n hx hb d_Q_init_46 rfl (lv_at hl 0 rfl) ?_
  refine lv_iconst (v := 0) hx hb d_Q_init_47 (by decide) ?_
  refine va_put (D := (dC, dI)) (ci := 0) (v := .int 0) (ty := .int) (C := R_Q) (T := F_Q) (N := 6) hx hb htz i_Q t_Q o_Q n_Q hown hK hP hD hS 0 rfl rfl 4 (by decide) (htz _ kf_Q_34) (fun _ h9 => h9) rfl (by decide +kernel) rfl rfl (Nat.le_of_ble_eq_true rfl) d_Q_init_48 (fun H locs hP hD hS => ?_)
  have hP : va_P (dC, dI) classes [(h0, .inr (0, [.ref tr, .ref ea, .ref ca, .ref ed, .int 0, .int 0])), (tr, .inr (1, [.ref t1, .ref t2, .ref t3, .int 0, .int 0])), (t1, .inl (k 0, 400, .inl (fun _ => 0))), (t2, .inl (k 3, 61, .inr (.inr (.inr (.inr (fun _ => none)))))), (t3, .inl (k 4, 10, .inr (.inr (.inr (.inr (fun _ => none)))))), (ea, .inl (k 5, 9, .inr (.inr (.inr (.inr (fun _ => none)))))), (ca, .inr (2, [.ref c1, .ref c2, .int 0, .int 0, .int 0, .int 0])), (c1, .inl (k 0, 40, .inl (fun _ => 0))), (c2, .inl (k 0, 61, .inl (fun _ => 0))), (ed, .inr (3, [.ref e1, .ref e2, .int 0, .long 0, .long 0, .long 0])), (e1, .inl (k 3, 61, .inr (.inr (.inr (.inr (fun _ => none)))))), (e2, .inl (k 4, 10, .inr (.inr (.inr (.inr (fun _ => none))))))] H := hP
  have hD : va_D A [(h0, .inr (0, [.ref tr, .ref ea, .ref ca, .ref ed, .int 0, .int 0])), (tr, .inr (1, [.ref t1, .ref t2, .ref t3, .int 0, .int 0])), (t1, .inl (k 0, 400, .inl (fun _ => 0))), (t2, .inl (k 3, 61, .inr (.inr (.inr (.inr (fun _ => none)))))), (t3, .inl (k 4, 10, .inr (.inr (.inr (.inr (fun _ => none)))))), (ea, .inl (k 5, 9, .inr (.inr (.inr (.inr (fun _ => none)))))), (ca, .inr (2, [.ref c1, .ref c2, .int 0, .int 0, .int 0, .int 0])), (c1, .inl (k 0, 40, .inl (fun _ => 0))), (c2, .inl (k 0, 61, .inl (fun _ => 0))), (ed, .inr (3, [.ref e1, .ref e2, .int 0, .long 0, .long 0, .long 0])), (e1, .inl (k 3, 61, .inr (.inr (.inr (.inr (fun _ => none)))))), (e2, .inl (k 4, 10, .inr (.inr (.inr (.inr (fun _ => none))))))] := hD
  refine lv_aload_n hx hb d_Q_init_51 rfl (lv_at hl 0 rfl) ?_
  refine lv_iconst (v := -1) hx hb d_Q_init_52 (by decide) ?_
  refine va_put (D := (dC, dI)) (ci := 0) (v := .int (-1)) (ty := .int) (C := R_Q) (T := F_Q) (N := 6) hx hb htz i_Q t_Q o_Q n_Q hown hK hP hD hS 0 rfl rfl 5 (by decide) (htz _ kf_Q_38) (fun _ h9 => h9) rfl (by decide +kernel) rfl rfl (Nat.le_of_ble_eq_true rfl) d_Q_init_53 (fun H locs hP hD hS => ?_)
  have hP : va_P (dC, dI) classes [(h0, .inr (0, [.ref tr, .ref ea, .ref ca, .ref ed, .int 0, .int (-1)])), (tr, .inr (1, [.ref t1, .ref t2, .ref t3, .int 0, .int 0])), (t1, .inl (k 0, 400, .inl (fun _ => 0))), (t2, .inl (k 3, 61, .inr (.inr (.inr (.inr (fun _ => none)))))), (t3, .inl (k 4, 10, .inr (.inr (.inr (.inr (fun _ => none)))))), (ea, .inl (k 5, 9, .inr (.inr (.inr (.inr (fun _ => none)))))), (ca, .inr (2, [.ref c1, .ref c2, .int 0, .int 0, .int 0, .int 0])), (c1, .inl (k 0, 40, .inl (fun _ => 0))), (c2, .inl (k 0, 61, .inl (fun _ => 0))), (ed, .inr (3, [.ref e1, .ref e2, .int 0, .long 0, .long 0, .long 0])), (e1, .inl (k 3, 61, .inr (.inr (.inr (.inr (fun _ => none)))))), (e2, .inl (k 4, 10, .inr (.inr (.inr (.inr (fun _ => none))))))] H := hP
  have hD : va_D A [(h0, .inr (0, [.ref tr, .ref ea, .ref ca, .ref ed, .int 0, .int (-1)])), (tr, .inr (1, [.ref t1, .ref t2, .ref t3, .int 0, .int 0])), (t1, .inl (k 0, 400, .inl (fun _ => 0))), (t2, .inl (k 3, 61, .inr (.inr (.inr (.inr (fun _ => none)))))), (t3, .inl (k 4, 10, .inr (.inr (.inr (.inr (fun _ => none)))))), (ea, .inl (k 5, 9, .inr (.inr (.inr (.inr (fun _ => none)))))), (ca, .inr (2, [.ref c1, .ref c2, .int 0, .int 0, .int 0, .int 0])), (c1, .inl (k 0, 40, .inl (fun _ => 0))), (c2, .inl (k 0, 61, .inl (fun _ => 0))), (ed, .inr (3, [.ref e1, .ref e2, .int 0, .long 0, .long 0, .long 0])), (e1, .inl (k 3, 61, .inr (.inr (.inr (.inr (fun _ => none)))))), (e2, .inl (k 4, 10, .inr (.inr (.inr (.inr (fun _ => none))))))] := hD
  refine lv_aload_n hx hb d_Q_init_56 rfl (lv_at hl 0 rfl) ?_
  refine va_get (D := (dC, dI)) (ci := 0) (v := .ref ea) (C := R_Q) (T := F_Q) (N := 6) hx hb htz i_Q hown hK hP 0 rfl rfl 1 (by decide) (htz _ kf_Q_18) (fun _ h9 => h9) rfl d_Q_init_57 ?_
  refine lv_iconst (v := 0) hx hb d_Q_init_60 (by decide) ?_
  refine lv_aload_n hx hb d_Q_init_61 rfl (lv_at hl 0 rfl) ?_
  refine va_get (D := (dC, dI)) (ci := 0) (v := .ref ed) (C := R_Q) (T := F_Q) (N := 6) hx hb htz i_Q hown hK hP 0 rfl rfl 3 (by decide) (htz _ kf_Q_30) (fun _ h9 => h9) rfl d_Q_init_62 ?_
  refine va_astq hx hb hK hP hD hS 5 5 9 3 rfl rfl rfl rfl (by unfold vp_in; decide) d_Q_init_65 (fun H locs hP hD hS => ?_)
  have hP : va_P (dC, dI) classes [(h0, .inr (0, [.ref tr, .ref ea, .ref ca, .ref ed, .int 0, .int (-1)])), (tr, .inr (1, [.ref t1, .ref t2, .ref t3, .int 0, .int 0])), (t1, .inl (k 0, 400, .inl (fun _ => 0))), (t2, .inl (k 3, 61, .inr (.inr (.inr (.inr (fun _ => none)))))), (t3, .inl (k 4, 10, .inr (.inr (.inr (.inr (fun _ => none)))))), (ea, .inl (k 5, 9, .inr (.inr (.inr (.inr (va_up (fun _ => none) 0 (some ed))))))), (ca, .inr (2, [.ref c1, .ref c2, .int 0, .int 0, .int 0, .int 0])), (c1, .inl (k 0, 40, .inl (fun _ => 0))), (c2, .inl (k 0, 61, .inl (fun _ => 0))), (ed, .inr (3, [.ref e1, .ref e2, .int 0, .long 0, .long 0, .long 0])), (e1, .inl (k 3, 61, .inr (.inr (.inr (.inr (fun _ => none)))))), (e2, .inl (k 4, 10, .inr (.inr (.inr (.inr (fun _ => none))))))] H := hP
  have hD : va_D A [(h0, .inr (0, [.ref tr, .ref ea, .ref ca, .ref ed, .int 0, .int (-1)])), (tr, .inr (1, [.ref t1, .ref t2, .ref t3, .int 0, .int 0])), (t1, .inl (k 0, 400, .inl (fun _ => 0))), (t2, .inl (k 3, 61, .inr (.inr (.inr (.inr (fun _ => none)))))), (t3, .inl (k 4, 10, .inr (.inr (.inr (.inr (fun _ => none)))))), (ea, .inl (k 5, 9, .inr (.inr (.inr (.inr (va_up (fun _ => none) 0 (some ed))))))), (ca, .inr (2, [.ref c1, .ref c2, .int 0, .int 0, .int 0, .int 0])), (c1, .inl (k 0, 40, .inl (fun _ => 0))), (c2, .inl (k 0, 61, .inl (fun _ => 0))), (ed, .inr (3, [.ref e1, .ref e2, .int 0, .long 0, .long 0, .long 0])), (e1, .inl (k 3, 61, .inr (.inr (.inr (.inr (fun _ => none)))))), (e2, .inl (k 4, 10, .inr (.inr (.inr (.inr (fun _ => none))))))] := hD
  refine W.widen (k := 12) (n := 700) (Nat.le_of_ble_eq_true rfl) (Nat.le_of_ble_eq_true rfl) ?_
  have hP9 := hP.sub (ws' := [(h0, .inr (0, [.ref tr, .ref ea, .ref ca, .ref ed, .int 0, .int (-1)])), (tr, .inr (1, [.ref t1, .ref t2, .ref t3, .int 0, .int 0])), (t1, .inl (k 0, 400, .inl (fun _ => 0))), (t2, .inl (k 3, 61, .inr (.inr (.inr (.inr (fun _ => none)))))), (t3, .inl (k 4, 10, .inr (.inr (.inr (.inr (fun _ => none)))))), (ea, .inl (k 5, 9, .inr (.inr (.inr (.inr (va_up (fun _ => none) 0 (some ed))))))), (ca, .inr (2, [.ref c1, .ref c2, .int 0, .int 0, .int 0, .int 0])), (c1, .inl (k 0, 40, .inl (fun _ => 0))), (c2, .inl (k 0, 61, .inl (fun _ => 0))), (ed, .inr (3, [.ref e1, .ref e2, .int 0, .long 0, .long 0, .long 0])), (e1, .inl (k 3, 61, .inr (.inr (.inr (.inr (fun _ => none)))))), (e2, .inl (k 4, 10, .inr (.inr (.inr (.inr (fun _ => none))))))]) [0, 1, 2, 3, 4, 5, 6, 7, 8, 9, 10, 11] rfl
  have hD9 := hD.sub (ws' := [(h0, .inr (0, [.ref tr, .ref ea, .ref ca, .ref ed, .int 0, .int (-1)])), (tr, .inr (1, [.ref t1, .ref t2, .ref t3, .int 0, .int 0])), (t1, .inl (k 0, 400, .inl (fun _ => 0))), (t2, .inl (k 3, 61, .inr (.inr (.inr (.inr (fun _ => none)))))), (t3, .inl (k 4, 10, .inr (.inr (.inr (.inr (fun _ => none)))))), (ea, .inl (k 5, 9, .inr (.inr (.inr (.inr (va_up (fun _ => none) 0 (some ed))))))), (ca, .inr (2, [.ref c1, .ref c2, .int 0, .int 0, .int 0, .int 0])), (c1, .inl (k 0, 40, .inl (fun _ => 0))), (c2, .inl (k 0, 61, .inl (fun _ => 0))), (ed, .inr (3, [.ref e1, .ref e2, .int 0, .long 0, .long 0, .long 0])), (e1, .inl (k 3, 61, .inr (.inr (.inr (.inr (fun _ => none)))))), (e2, .inl (k 4, 10, .inr (.inr (.inr (.inr (fun _ => none))))))]) [0, 1, 2, 3, 4, 5, 6, 7, 8, 9, 10, 11] (by decide) rfl
  exact W.vret hx hb hr (fun t ht hW => ⟨⟨(tr, t1, t2, t3, ea, ca, c1, c2, ed, e1, e2), rfl, trivial, by rw [ht]; exact hP9, va_K.moved hW.alike hK, hD9⟩, hS.F ht⟩) hS.2.2 d_Q_init_66
