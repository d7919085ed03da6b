def zc_AL_size (C : CT) (Post : Int32 → va_W → Prop) (c0 s0 pc : Nat) (loc : List (Nat × Value)) (st : List Value) (ws : va_W) : Prop := zW C (z_rm 0 0 0) 1 (oI C 0 0 Post) c0 s0 pc loc st ws
set_option maxHeartbeats 1000000 in
set_option maxRecDepth 100000 in
theorem k_AL_size_0 {C : CT} (X : cM C "java/util/ArrayList" b_AL_size 1 (some .int)) (Post : Int32 → va_W → Prop) (P : va_W) (h0 : Nat) (mc0 : Int32) (e0 : Nat) (sz : Int32) (i1 : Nat) (c0 s0 : Nat) (hf : P[i1]? = some (h0, .inr (11, [.int mc0, .ref e0, .int sz])))
    (b_4 : c0 ≤ 0 ∧ s0 ≤ 0)
    (q_4 : Post (sz) (P)) : zc_AL_size C Post c0 s0 0 [(0, .ref h0)] [] (P) := by
  obtain ⟨⟨l, dC, dI, k, a⟩, p, e, s, m, args, below, meth, c, A⟩ := C
  obtain ⟨hx, hb, hr, htz, hown, hlocks, hml, hE, hK, hA⟩ := X
  intro H locs ls hl hP hD hS
  have hl : lv_has ls 1 [(0, .ref h0)] := hl
  have hP : va_P (dC, dI) classes (P) H := hP
  have hD : va_D A (P) := hD
  show W p l e (z_rm 0 0 0) s m args below meth c H locs c0 s0 _ (F0 m 0 ls [])
  refine lv_aload_n hx hb d_AL_size_0 rfl (lv_at hl 0 rfl) ?_
  refine va_get (D := (dC, dI)) (ci := 11) (v := .int sz) (C := R_AL) (T := F_AL) (N := 3) hx hb htz i_AL hown hK hP (i1 + 0) hf rfl 2 (by decide) (htz _ kf_AL_48) (fun _ h9 => h9) rfl d_AL_size_1 ?_
  refine W.widen (k := 0) (n := 0) b_4.1 b_4.2 ?_
  exact W.iret (v := sz) hx hb hr (fun t ht hW => ⟨⟨_, (P), rfl, q_4, by rw [ht]; exact hP, va_K.moved hW.alike hK, hD⟩, hS.F ht⟩) hS.2.2 d_AL_size_4
set_option maxHeartbeats 1000000 in
set_option maxRecDepth 100000 in
theorem e_AL_size (T : ST) (Post : Int32 → va_W → Prop) (P : va_W) (h0 : Nat) (mc0 : Int32) (e0 : Nat) (sz : Int32) (h : ∀ C : CT, C.1 = T → cM C "java/util/ArrayList" b_AL_size 1 (some .int) → zc_AL_size C Post 0 0 0 [(0, .ref h0)] [] (P)) : uI T y_AL_size (Cond.code y_AL_size b_AL_size 1 (some .int)) 0 0 0 [.ref h0] (P) Post := by
  obtain ⟨l, dC, dI, k, a⟩ := T
  intro sz
  refine Met.ofW (cc := b_AL_size) (maxL := 1) (ret := (some .int)) (by decide) rfl ?_
  intro p e s m args below meth c s₁ B hml hv
  obtain ⟨rfl, hsz, hE, hP, hK, hD0⟩ := hv
  have hts := atoms_spec (ws := (Cond.code y_AL_size b_AL_size 1 (some .int)) :: z_T) B.pre
  have htz : ∀ w ∈ z_T, w.before _ s = true := fun w h => hts w (z_cons w h)
  subst hsz
  have hD := hD0.self (sz := s.heap.size)
  generalize hAe : va_A (P) s.heap.size = A at hD hE ⊢
  have hA : ∀ q : Nat, s.heap.size ≤ q → A q := fun q h => by rw [← hAe]; exact Or.inr h
  have hl := lv_entry ([.ref h0]) (n := 1) (Nat.le_of_ble_eq_true rfl)
  rw [lg_entry_eq]
  generalize (lg_sl ([.ref h0]) ++ List.replicate (1 - (lg_sl ([.ref h0])).length) Slot.unset).toArray = ls at hl ⊢
  exact h ((l, dC, dI, k, a), p, e, s, m, ([.ref h0] : List Value).toArray, below, meth, c, A) rfl ⟨B.exec, B.bytes, B.returns, htz, findClass_of_methodNamed B.named, B.notSynchronized, hml, hE, hK, hA⟩ s.heap [] ls hl hP hD va_S.rf
def zc_PC_checkIndex (C : CT) (Post : Int32 → va_W → Prop) (c0 s0 pc : Nat) (loc : List (Nat × Value)) (st : List Value) (ws : va_W) : Prop := zW C (z_rm 0 0 0) 3 (oI C 0 0 Post) c0 s0 pc loc st ws
set_option maxHeartbeats 1000000 in
set_option maxRecDepth 100000 in
theorem k_PC_checkIndex_0 {C : CT} (X : cM C "jdk/internal/util/Preconditions" b_PC_checkIndex 3 (some .int)) (Post : Int32 → va_W → Prop) (x0 : Int32) (x1 : Int32) (c0 s0 : Nat)
    (z_9 : (x0 < 0) → False)
    (b_17 : (¬ x0 < 0) → (x0 < x1) → c0 ≤ 0 ∧ s0 ≤ 0)
    (q_17 : (¬ x0 < 0) → (x0 < x1) → Post (x0) ([]))
    (z_9_1 : (¬ x0 < 0) → (¬ x0 < x1) → False) : zc_PC_checkIndex C Post c0 s0 0 [(0, .int x0), (1, .int x1), (2, .null)] [] ([]) := by
  obtain ⟨⟨l, dC, dI, k, a⟩, p, e, s, m, args, below, meth, c, A⟩ := C
  obtain ⟨hx, hb, hr, htz, hown, hlocks, hml, hE, hK, hA⟩ := X
  intro H locs ls hl hP hD hS
  have hl : lv_has ls 3 [(0, .int x0), (1, .int x1), (2, .null)] := hl
  have hP : va_P (dC, dI) classes ([]) H := hP
  have hD : va_D A ([]) := hD
  show W p l e (z_rm 0 0 0) s m args below meth c H locs c0 s0 _ (F0 m 0 ls [])
  refine lv_iload_n hx hb d_PC_checkIndex_0 rfl (lv_at hl 0 rfl) ?_
  refine lv_if_lt (tgt := 9) hx hb d_PC_checkIndex_1 (by decide) (fun c_1 => ?_) (fun c_1 => ?_)
  · exact (z_9 c_1).elim
  · refine lv_iload_n hx hb d_PC_checkIndex_4 rfl (lv_at hl 0 rfl) ?_
    refine lv_iload_n hx hb d_PC_checkIndex_5 rfl (lv_at hl 1 rfl) ?_
    refine lv_icmp_lt (tgt := 16) hx hb d_PC_checkIndex_6 (by decide) (fun c_6 => ?_) (fun c_6 => ?_)
    · refine lv_iload_n hx hb d_PC_checkIndex_16 rfl (lv_at hl 0 rfl) ?_
      refine W.widen (k := 0) (n := 0) (b_17 c_1 c_6).1 (b_17 c_1 c_6).2 ?_
      exact W.iret (v := x0) hx hb hr (fun t ht hW => ⟨⟨_, ([]), rfl, (q_17 c_1 c_6), by rw [ht]; exact hP, va_K.moved hW.alike hK, hD⟩, hS.F ht⟩) hS.2.2 d_PC_checkIndex_17
    · exact (z_9_1 c_1 c_6).elim
set_option maxHeartbeats 1000000 in
set_option maxRecDepth 100000 in
theorem e_PC_checkIndex (T : ST) (Post : Int32 → va_W → Prop) (x0 : Int32) (x1 : Int32) (h : ∀ C : CT, C.1 = T → cM C "jdk/internal/util/Preconditions" b_PC_checkIndex 3 (some .int) → zc_PC_checkIndex C Post 0 0 0 [(0, .int x0), (1, .int x1), (2, .null)] [] ([])) : uI T y_PC_checkIndex (Cond.code y_PC_checkIndex b_PC_checkIndex 3 (some .int)) 0 0 0 [.int x0, .int x1, .null] ([]) Post := by
  obtain ⟨l, dC, dI, k, a⟩ := T
  intro sz
  refine Met.ofW (cc := b_PC_checkIndex) (maxL := 3) (ret := (some .int)) (by decide) rfl ?_
  intro p e s m args below meth c s₁ B hml hv
  obtain ⟨rfl, hsz, hE, hP, hK, hD0⟩ := hv
  have hts := atoms_spec (ws := (Cond.code y_PC_checkIndex b_PC_checkIndex 3 (some .int)) :: z_T) B.pre
  have htz : ∀ w ∈ z_T, w.before _ s = true := fun w h => hts w (z_cons w h)
  subst hsz
  have hD := hD0.self (sz := s.heap.size)
  generalize hAe : va_A ([]) s.heap.size = A at hD hE ⊢
  have hA : ∀ q : Nat, s.heap.size ≤ q → A q := fun q h => by rw [← hAe]; exact Or.inr h
  have hl := lv_entry ([.int x0, .int x1, .null]) (n := 3) (Nat.le_of_ble_eq_true rfl)
  rw [lg_entry_eq]
  generalize (lg_sl ([.int x0, .int x1, .null]) ++ List.replicate (3 - (lg_sl ([.int x0, .int x1, .null])).length) Slot.unset).toArray = ls at hl ⊢
  exact h ((l, dC, dI, k, a), p, e, s, m, ([.int x0, .int x1, .null] : List Value).toArray, below, meth, c, A) rfl ⟨B.exec, B.bytes, B.returns, htz, findClass_of_methodNamed B.named, B.notSynchronized, hml, hE, hK, hA⟩ s.heap [] ls hl hP hD va_S.rf
def zc_OB_checkIndex (C : CT) (Post : Int32 → va_W → Prop) (c0 s0 pc : Nat) (loc : List (Nat × Value)) (st : List Value) (ws : va_W) : Prop := zW C (z_rm 1 0 0) 2 (oI C 0 0 Post) c0 s0 pc loc st ws
set_option maxHeartbeats 1000000 in
set_option maxRecDepth 100000 in
theorem k_OB_checkIndex_0 {C : CT} (X : cM C "java/util/Objects" b_OB_checkIndex 2 (some .int)) (Post : Int32 → va_W → Prop) {P_3 : Int32 → va_W → Prop} (x0 : Int32) (x1 : Int32) (c0 s0 : Nat)
    (b_3 : c0 ≤ 0 ∧ s0 ≤ 0)
    (m_3 : uI C.1 y_PC_checkIndex (Cond.code y_PC_checkIndex b_PC_checkIndex 3 (some .int)) 0 0 0 [.int x0, .int x1, .null] ([]) P_3)
    (k_3 : ∀ (r : Int32) (u : va_W), P_3 r u → zc_OB_checkIndex C Post c0 s0 6 [(0, .int x0), (1, .int x1)] [.int r] ([])) : zc_OB_checkIndex C Post c0 s0 0 [(0, .int x0), (1, .int x1)] [] ([]) := by
  obtain ⟨⟨l, dC, dI, k, a⟩, p, e, s, m, args, below, meth, c, A⟩ := C
  obtain ⟨hx, hb, hr, htz, hown, hlocks, hml, hE, hK, hA⟩ := X
  intro H locs ls hl hP hD hS
  have hl : lv_has ls 2 [(0, .int x0), (1, .int x1)] := hl
  have hP : va_P (dC, dI) classes ([]) H := hP
  have hD : va_D A ([]) := hD
  show W p l e (z_rm 1 0 0) s m args below meth c H locs c0 s0 _ (F0 m 0 ls [])
  refine lv_iload_n hx hb d_OB_checkIndex_0 rfl (lv_at hl 0 rfl) ?_
  refine lv_iload_n hx hb d_OB_checkIndex_1 rfl (lv_at hl 1 rfl) ?_
  refine lv_null hx hb d_OB_checkIndex_2 ?_
  have hFc : ∀ q, va_A [] H.size q → A q := fun q h => h.elim (fun z => by obtain ⟨i9, e9, h9⟩ := z; cases h9) (fun z => hA q (Nat.le_trans hS.1 z))
  refine va_calli (va_runS (As := [.int x0, .int x1, .null]) (rest := []) ⟨hx, hb, hml, hown, htz⟩ (m_3 H.size) (va_cwS 3 htz (z_gS (fun _ h => h) km_OB_105 st_PC_checkIndex ini_PC m_PC_checkIndex) rfl rfl rfl (by decide +kernel) ⟨(Nat.le_of_ble_eq_true rfl), (Nat.le_of_ble_eq_true rfl)⟩) ⟨z_blind, fun U hU hW => ⟨rfl, by rw [hU], hE.call hS hFc hU hW, by rw [hU]; exact zP0, va_K.moved hW.alike hK, zD0⟩⟩ rfl rfl hl.1 rfl (lv_room (Nat.le_of_ble_eq_true rfl)) d_OB_checkIndex_3 b_3) hS (fun q _ h => hFc q h) hFc (fun r u t H1 locs ht hvm hw hB hz1 hk1 hS => ?_)
  obtain ⟨hP1, hK1, hD1⟩ := hB
  rw [ht] at hP1
  have hP : va_P (dC, dI) classes ([]) H1 := hP.kept (fun j q hq => hk1 q.1 (hP j q hq).lt (fun z => z.elim (fun z => by obtain ⟨i9, e9, h9⟩ := z; cases h9) (fun z => absurd z (Nat.not_le.mpr (hP j q hq).lt))))
  exact k_3 r _ hw H1 locs ls (lv_sub hl [0, 1] rfl) hP hD hS
set_option maxHeartbeats 1000000 in
set_option maxRecDepth 100000 in
theorem k_OB_checkIndex_6 {C : CT} (X : cM C "java/util/Objects" b_OB_checkIndex 2 (some .int)) (Post : Int32 → va_W → Prop) (x0 : Int32) (x1 : Int32) (y0 : Int32) (c0 s0 : Nat)
    (b_6 : c0 ≤ 0 ∧ s0 ≤ 0)
    (q_6 : Post (y0) ([])) : zc_OB_checkIndex C Post c0 s0 6 [(0, .int x0), (1, .int x1)] [.int y0] ([]) := by
  obtain ⟨⟨l, dC, dI, k, a⟩, p, e, s, m, args, below, meth, c, A⟩ := C
  obtain ⟨hx, hb, hr, htz, hown, hlocks, hml, hE, hK, hA⟩ := X
  intro H locs ls hl hP hD hS
  have hl : lv_has ls 2 [(0, .int x0), (1, .int x1)] := hl
  have hP : va_P (dC, dI) classes ([]) H := hP
  have hD : va_D A ([]) := hD
  show W p l e (z_rm 1 0 0) s m args below meth c H locs c0 s0 _ (F0 m 6 ls [.int y0])
  refine W.widen (k := 0) (n := 0) b_6.1 b_6.2 ?_
  exact W.iret (v := y0) hx hb hr (fun t ht hW => ⟨⟨_, ([]), rfl, q_6, by rw [ht]; exact hP, va_K.moved hW.alike hK, hD⟩, hS.F ht⟩) hS.2.2 d_OB_checkIndex_6
set_option maxHeartbeats 1000000 in
set_option maxRecDepth 100000 in
theorem e_OB_checkIndex (T : ST) (Post : Int32 → va_W → Prop) (x0 : Int32) (x1 : Int32) (h : ∀ C : CT, C.1 = T → cM C "java/util/Objects" b_OB_checkIndex 2 (some .int) → zc_OB_checkIndex C Post 0 0 0 [(0, .int x0), (1, .int x1)] [] ([])) : uI T y_OB_checkIndex (Cond.code y_OB_checkIndex b_OB_checkIndex 2 (some .int)) 1 0 0 [.int x0, .int x1] ([]) Post := by
  obtain ⟨l, dC, dI, k, a⟩ := T
  intro sz
  refine Met.ofW (cc := b_OB_checkIndex) (maxL := 2) (ret := (some .int)) (by decide) rfl ?_
  intro p e s m args below meth c s₁ B hml hv
  obtain ⟨rfl, hsz, hE, hP, hK, hD0⟩ := hv
  have hts := atoms_spec (ws := (Cond.code y_OB_checkIndex b_OB_checkIndex 2 (some .int)) :: z_T) B.pre
  have htz : ∀ w ∈ z_T, w.before _ s = true := fun w h => hts w (z_cons w h)
  subst hsz
  have hD := hD0.self (sz := s.heap.size)
  generalize hAe : va_A ([]) s.heap.size = A at hD hE ⊢
  have hA : ∀ q : Nat, s.heap.size ≤ q → A q := fun q h => by rw [← hAe]; exact Or.inr h
  have hl := lv_entry ([.int x0, .int x1]) (n := 2) (Nat.le_of_ble_eq_true rfl)
  rw [lg_entry_eq]
  generalize (lg_sl ([.int x0, .int x1]) ++ List.replicate (2 - (lg_sl ([.int x0, .int x1])).length) Slot.unset).toArray = ls at hl ⊢
  exact h ((l, dC, dI, k, a), p, e, s, m, ([.int x0, .int x1] : List Value).toArray, below, meth, c, A) rfl ⟨B.exec, B.bytes, B.returns, htz, findClass_of_methodNamed B.named, B.notSynchronized, hml, hE, hK, hA⟩ s.heap [] ls hl hP hD va_S.rf
def zc_AL_elementData (C : CT) (Post : Option Nat → va_W → Prop) (c0 s0 pc : Nat) (loc : List (Nat × Value)) (st : List Value) (ws : va_W) : Prop := zW C (z_rm 0 0 0) 2 (oR C 0 0 Post) c0 s0 pc loc st ws
set_option maxHeartbeats 1000000 in
set_option maxRecDepth 100000 in
theorem k_AL_elementData_0 {C : CT} (X : cM C "java/util/ArrayList" b_AL_elementData 2 (some (.object "java/lang/Object"))) (Post : Option Nat → va_W → Prop) (x1 : Int32) (P : va_W) (h0 : Nat) (mc0 : Int32) (e0 : Nat) (sz : Int32) (fa : Nat → Option Nat) (i1 : Nat) (i2 : Nat) (c0 s0 : Nat) (hf : P[i1]? = some (h0, .inr (11, [.int mc0, .ref e0, .int sz]))) (he : P[i2]? = some (e0, .inl (C.1.2.2.2.1 6, 10, .inr (.inr (.inr (.inr fa))))))
    (h_5 : vp_in (x1) 10)
    (b_6 : c0 ≤ 0 ∧ s0 ≤ 0)
    (q_6 : Post (fa (x1 : Int32).toNatClampNeg) (P)) : zc_AL_elementData C Post c0 s0 0 [(0, .ref h0), (1, .int x1)] [] (P) := by
  obtain ⟨⟨l, dC, dI, k, a⟩, p, e, s, m, args, below, meth, c, A⟩ := C
  obtain ⟨hx, hb, hr, htz, hown, hlocks, hml, hE, hK, hA⟩ := X
  intro H locs ls hl hP hD hS
  have hl : lv_has ls 2 [(0, .ref h0), (1, .int x1)] := hl
  have hP : va_P (dC, dI) classes (P) H := hP
  have hD : va_D A (P) := hD
  show W p l e (z_rm 0 0 0) s m args below meth c H locs c0 s0 _ (F0 m 0 ls [])
  refine lv_aload_n hx hb d_AL_elementData_0 rfl (lv_at hl 0 rfl) ?_
  refine va_get (D := (dC, dI)) (ci := 11) (v := .ref e0) (C := R_AL) (T := F_AL) (N := 3) hx hb htz i_AL hown hK hP (i1 + 0) hf rfl 1 (by decide) (htz _ kf_AL_9) (fun _ h9 => h9) rfl d_AL_elementData_1 ?_
  refine lv_iload_n hx hb d_AL_elementData_4 rfl (lv_at hl 1 rfl) ?_
  refine va_aldq hx hb hK hP (i2 + 0) 6 he rfl h_5 d_AL_elementData_5 ?_
  refine W.widen (k := 0) (n := 0) b_6.1 b_6.2 ?_
  exact W.aret (v := va_rf (fa (x1 : Int32).toNatClampNeg)) hx hb hr (Or.inl ⟨_, rfl⟩) (by cases (fa (x1 : Int32).toNatClampNeg) <;> simp [va_rf]) (fun t ht hW => ⟨⟨fa (x1 : Int32).toNatClampNeg, (P), rfl, q_6, by rw [ht]; exact hP, va_K.moved hW.alike hK, hD⟩, hS.F ht⟩) hS.2.2 d_AL_elementData_6
set_option maxHeartbeats 1000000 in
set_option maxRecDepth 100000 in
theorem e_AL_elementData (T : ST) (Post : Option Nat → va_W → Prop) (x1 : Int32) (P : va_W) (h0 : Nat) (mc0 : Int32) (e0 : Nat) (sz : Int32) (fa : Nat → Option Nat) (h : ∀ C : CT, C.1 = T → cM C "java/util/ArrayList" b_AL_elementData 2 (some (.object "java/lang/Object")) → zc_AL_elementData C Post 0 0 0 [(0, .ref h0), (1, .int x1)] [] (P)) : uR T y_AL_elementData (Cond.code y_AL_elementData b_AL_elementData 2 (some (.object "java/lang/Object"))) 0 0 0 [.ref h0, .int x1] (P) Post := by
  obtain ⟨l, dC, dI, k, a⟩ := T
  intro sz
  refine Met.ofW (cc := b_AL_elementData) (maxL := 2) (ret := (some (.object "java/lang/Object"))) (by decide) rfl ?_
  intro p e s m args below meth c s₁ B hml hv
  obtain ⟨rfl, hsz, hE, hP, hK, hD0⟩ := hv
  have hts := atoms_spec (ws := (Cond.code y_AL_elementData b_AL_elementData 2 (some (.object "java/lang/Object"))) :: z_T) B.pre
  have htz : ∀ w ∈ z_T, w.before _ s = true := fun w h => hts w (z_cons w h)
  subst hsz
  have hD := hD0.self (sz := s.heap.size)
  generalize hAe : va_A (P) s.heap.size = A at hD hE ⊢
  have hA : ∀ q : Nat, s.heap.size ≤ q → A q := fun q h => by rw [← hAe]; exact Or.inr h
  have hl := lv_entry ([.ref h0, .int x1]) (n := 2) (Nat.le_of_ble_eq_true rfl)
  rw [lg_entry_eq]
  generalize (lg_sl ([.ref h0, .int x1]) ++ List.replicate (2 - (lg_sl ([.ref h0, .int x1])).length) Slot.unset).toArray = ls at hl ⊢
  exact h ((l, dC, dI, k, a), p, e, s, m, ([.ref h0, .int x1] : List Value).toArray, below, meth, c, A) rfl ⟨B.exec, B.bytes, B.returns, htz, findClass_of_methodNamed B.named, B.notSynchronized, hml, hE, hK, hA⟩ s.heap [] ls hl hP hD va_S.rf
def zc_AL_get (C : CT) (Post : Option Nat → va_W → Prop) (c0 s0 pc : Nat) (loc : List (Nat × Value)) (st : List Value) (ws : va_W) : Prop := zW C (z_rm 2 0 0) 2 (oR C 0 0 Post) c0 s0 pc loc st ws
set_option maxHeartbeats 1000000 in
set_option maxRecDepth 100000 in
theorem k_AL_get_0 {C : CT} (X : cM C "java/util/ArrayList" b_AL_get 2 (some (.object "java/lang/Object"))) (Post : Option Nat → va_W → Prop) {P_5 : Int32 → va_W → Prop} (x1 : Int32) (P : va_W) (h0 : Nat) (mc0 : Int32) (e0 : Nat) (sz : Int32) (fa : Nat → Option Nat) (i1 : Nat) (i2 : Nat) (c0 s0 : Nat) (hf : P[i1]? = some (h0, .inr (11, [.int mc0, .ref e0, .int sz]))) (he : P[i2]? = some (e0, .inl (C.1.2.2.2.1 6, 10, .inr (.inr (.inr (.inr fa))))))
    (b_5 : c0 ≤ 0 ∧ s0 ≤ 0)
    (m_5 : uI C.1 y_OB_checkIndex (Cond.code y_OB_checkIndex b_OB_checkIndex 2 (some .int)) 1 0 0 [.int x1, .int sz] ([]) P_5)
    (k_5 : ∀ (r : Int32) (u : va_W), P_5 r u → zc_AL_get C Post c0 s0 8 [(0, .ref h0), (1, .int x1)] [.int r] (P)) : zc_AL_get C Post c0 s0 0 [(0, .ref h0), (1, .int x1)] [] (P) := by
  obtain ⟨⟨l, dC, dI, k, a⟩, p, e, s, m, args, below, meth, c, A⟩ := C
  obtain ⟨hx, hb, hr, htz, hown, hlocks, hml, hE, hK, hA⟩ := X
  intro H locs ls hl hP hD hS
  have hl : lv_has ls 2 [(0, .ref h0), (1, .int x1)] := hl
  have hP : va_P (dC, dI) classes (P) H := hP
  have hD : va_D A (P) := hD
  show W p l e (z_rm 2 0 0) s m args below meth c H locs c0 s0 _ (F0 m 0 ls [])
  refine lv_iload_n hx hb d_AL_get_0 rfl (lv_at hl 1 rfl) ?_
  refine lv_aload_n hx hb d_AL_get_1 rfl (lv_at hl 0 rfl) ?_
  refine va_get (D := (dC, dI)) (ci := 11) (v := .int sz) (C := R_AL) (T := F_AL) (N := 3) hx hb htz i_AL hown hK hP (i1 + 0) hf rfl 2 (by decide) (htz _ kf_AL_48) (fun _ h9 => h9) rfl d_AL_get_2 ?_
  have hFc : ∀ q, va_A [] H.size q → A q := fun q h => h.elim (fun z => by obtain ⟨i9, e9, h9⟩ := z; cases h9) (fun z => hA q (Nat.le_trans hS.1 z))
  refine va_calli (va_runS (As := [.int x1, .int sz]) (rest := []) ⟨hx, hb, hml, hown, htz⟩ (m_5 H.size) (va_cwS 2 htz (z_gS (fun _ h => h) km_AL_118 st_OB_checkIndex ini_OB m_OB_checkIndex) rfl rfl rfl (by decide +kernel) ⟨(Nat.le_of_ble_eq_true rfl), (Nat.le_of_ble_eq_true rfl)⟩) ⟨z_blind, fun U hU hW => ⟨rfl, by rw [hU], hE.call hS hFc hU hW, by rw [hU]; exact zP0, va_K.moved hW.alike hK, zD0⟩⟩ rfl rfl hl.1 rfl (lv_room (Nat.le_of_ble_eq_true rfl)) d_AL_get_5 b_5) hS (fun q _ h => hFc q h) hFc (fun r u t H1 locs ht hvm hw hB hz1 hk1 hS => ?_)
  obtain ⟨hP1, hK1, hD1⟩ := hB
  rw [ht] at hP1
  have hP : va_P (dC, dI) classes (P) H1 := hP.kept (fun j q hq => hk1 q.1 (hP j q hq).lt (fun z => z.elim (fun z => by obtain ⟨i9, e9, h9⟩ := z; cases h9) (fun z => absurd z (Nat.not_le.mpr (hP j q hq).lt))))
  exact k_5 r _ hw H1 locs ls (lv_sub hl [0, 1] rfl) hP hD hS
set_option maxHeartbeats 1000000 in
set_option maxRecDepth 100000 in
theorem k_AL_get_8 {C : CT} (X : cM C "java/util/ArrayList" b_AL_get 2 (some (.object "java/lang/Object"))) (Post : Option Nat → va_W → Prop) {P_11 : Option Nat → va_W → Prop} (x1 : Int32) (y0 : Int32) (P : va_W) (h0 : Nat) (mc0 : Int32) (e0 : Nat) (sz : Int32) (fa : Nat → Option Nat) (i1 : Nat) (i2 : Nat) (c0 s0 : Nat) (hf : P[i1]? = some (h0, .inr (11, [.int mc0, .ref e0, .int sz]))) (he : P[i2]? = some (e0, .inl (C.1.2.2.2.1 6, 10, .inr (.inr (.inr (.inr fa))))))
    (b_11 : c0 ≤ 0 ∧ s0 ≤ 0)
    (m_11 : uR C.1 y_AL_elementData (Cond.code y_AL_elementData b_AL_elementData 2 (some (.object "java/lang/Object"))) 0 0 0 [.ref h0, .int x1] (P) P_11)
    (k_11 : ∀ (r : Option Nat) (u : va_W), P_11 r u → zc_AL_get C Post c0 s0 14 [(0, .ref h0), (1, .int x1)] [va_rf r] (u)) : zc_AL_get C Post c0 s0 8 [(0, .ref h0), (1, .int x1)] [.int y0] (P) := by
  obtain ⟨⟨l, dC, dI, k, a⟩, p, e, s, m, args, below, meth, c, A⟩ := C
  obtain ⟨hx, hb, hr, htz, hown, hlocks, hml, hE, hK, hA⟩ := X
  intro H locs ls hl hP hD hS
  have hl : lv_has ls 2 [(0, .ref h0), (1, .int x1)] := hl
  have hP : va_P (dC, dI) classes (P) H := hP
  have hD : va_D A (P) := hD
  show W p l e (z_rm 2 0 0) s m args below meth c H locs c0 s0 _ (F0 m 8 ls [.int y0])
  refine lv_pop hx hb d_AL_get_8 rfl ?_
  refine lv_aload_n hx hb d_AL_get_9 rfl (lv_at hl 0 rfl) ?_
  refine lv_iload_n hx hb d_AL_get_10 rfl (lv_at hl 1 rfl) ?_
  have hFc : ∀ q, va_A (P) H.size q → A q := fun q h => h.elim (fun z => by obtain ⟨i9, e9, h9⟩ := z; exact hD.2 i9 _ h9) (fun z => hA q (Nat.le_trans hS.1 z))
  refine va_callq (va_runV (As := [.int x1]) (rest := []) ⟨hx, hb, hml, hown, htz⟩ (m_11 H.size) (cwV 1 htz (z_gV (fun _ h => h) km_AL_123 in_AL_elementData se_AL_elementData ini_AL m_AL_elementData) rfl rfl rfl (by decide +kernel) ⟨(Nat.le_of_ble_eq_true rfl), (Nat.le_of_ble_eq_true rfl)⟩) ⟨z_blind, va_recv hK hP (ci := 11) (q0 := (i1 + 0)) rfl hf, fun U hU hW => ⟨rfl, by rw [hU], hE.call hS hFc hU hW, by rw [hU]; exact hP, va_K.moved hW.alike hK, (hD.weaken (fun _ _ _ _ => trivial))⟩⟩ rfl rfl hl.1 rfl (lv_room (Nat.le_of_ble_eq_true rfl)) d_AL_get_11 b_11) hS (fun q _ h => hFc q h) hFc (fun r u t H1 locs ht hvm hw hB hz1 hk1 hS => ?_)
  obtain ⟨hP1, hK1, hD1⟩ := hB
  rw [ht] at hP1
  have hP := hP1
  have hD := hD1.weaken (fun _ q _ h => hFc _ h)
  exact k_11 r _ hw H1 locs ls (lv_sub hl [0, 1] rfl) hP hD hS
set_option maxHeartbeats 1000000 in
set_option maxRecDepth 100000 in
theorem k_AL_get_14 {C : CT} (X : cM C "java/util/ArrayList" b_AL_get 2 (some (.object "java/lang/Object"))) (Post : Option Nat → va_W → Prop) (x1 : Int32) (y0 : Option Nat) (P : va_W) (h0 : Nat) (mc0 : Int32) (e0 : Nat) (sz : Int32) (fa : Nat → Option Nat) (i1 : Nat) (i2 : Nat) (c0 s0 : Nat) (hf : P[i1]? = some (h0, .inr (11, [.int mc0, .ref e0, .int sz]))) (he : P[i2]? = some (e0, .inl (C.1.2.2.2.1 6, 10, .inr (.inr (.inr (.inr fa))))))
    (b_14 : c0 ≤ 0 ∧ s0 ≤ 0)
    (q_14 : Post y0 (P)) : zc_AL_get C Post c0 s0 14 [(0, .ref h0), (1, .int x1)] [va_rf y0] (P) := by
  obtain ⟨⟨l, dC, dI, k, a⟩, p, e, s, m, args, below, meth, c, A⟩ := C
  obtain ⟨hx, hb, hr, htz, hown, hlocks, hml, hE, hK, hA⟩ := X
  intro H locs ls hl hP hD hS
  have hl : lv_has ls 2 [(0, .ref h0), (1, .int x1)] := hl
  have hP : va_P (dC, dI) classes (P) H := hP
  have hD : va_D A (P) := hD
  show W p l e (z_rm 2 0 0) s m args below meth c H locs c0 s0 _ (F0 m 14 ls [va_rf y0])
  refine W.widen (k := 0) (n := 0) b_14.1 b_14.2 ?_
  exact W.aret (v := va_rf y0) hx hb hr (Or.inl ⟨_, rfl⟩) (by cases y0 <;> simp [va_rf]) (fun t ht hW => ⟨⟨y0, (P), rfl, q_14, by rw [ht]; exact hP, va_K.moved hW.alike hK, hD⟩, hS.F ht⟩) hS.2.2 d_AL_get_14
set_option maxHeartbeats 1000000 in
set_option maxRecDepth 100000 in
theorem e_AL_get (T : ST) (Post : Option Nat → va_W → Prop) (x1 : Int32) (P : va_W) (h0 : Nat) (mc0 : Int32) (e0 : Nat) (sz : Int32) (fa : Nat → Option Nat) (h : ∀ C : CT, C.1 = T → cM C "java/util/ArrayList" b_AL_get 2 (some (.object "java/lang/Object")) → zc_AL_get C Post 0 0 0 [(0, .ref h0), (1, .int x1)] [] (P)) : uR T y_AL_get (Cond.code y_AL_get b_AL_get 2 (some (.object "java/lang/Object"))) 2 0 0 [.ref h0, .int x1] (P) Post := by
  obtain ⟨l, dC, dI, k, a⟩ := T
  intro sz
  refine Met.ofW (cc := b_AL_get) (maxL := 2) (ret := (some (.object "java/lang/Object"))) (by decide) rfl ?_
  intro p e s m args below meth c s₁ B hml hv
  obtain ⟨rfl, hsz, hE, hP, hK, hD0⟩ := hv
  have hts := atoms_spec (ws := (Cond.code y_AL_get b_AL_get 2 (some (.object "java/lang/Object"))) :: z_T) B.pre
  have htz : ∀ w ∈ z_T, w.before _ s = true := fun w h => hts w (z_cons w h)
  subst hsz
  have hD := hD0.self (sz := s.heap.size)
  generalize hAe : va_A (P) s.heap.size = A at hD hE ⊢
  have hA : ∀ q : Nat, s.heap.size ≤ q → A q := fun q h => by rw [← hAe]; exact Or.inr h
  have hl := lv_entry ([.ref h0, .int x1]) (n := 2) (Nat.le_of_ble_eq_true rfl)
  rw [lg_entry_eq]
  generalize (lg_sl ([.ref h0, .int x1]) ++ List.replicate (2 - (lg_sl ([.ref h0, .int x1])).length) Slot.unset).toArray = ls at hl ⊢
  exact h ((l, dC, dI, k, a), p, e, s, m, ([.ref h0, .int x1] : List Value).toArray, below, meth, c, A) rfl ⟨B.exec, B.bytes, B.returns, htz, findClass_of_methodNamed B.named, B.notSynchronized, hml, hE, hK, hA⟩ s.heap [] ls hl hP hD va_S.rf
def zc_Sp_has (C : CT) (Post : Int32 → va_W → Prop) (c0 s0 pc : Nat) (loc : List (Nat × Value)) (st : List Value) (ws : va_W) : Prop := zW C (z_rm 0 0 0) 2 (oI C 0 0 Post) c0 s0 pc loc st ws
set_option maxHeartbeats 1000000 in
set_option maxRecDepth 100000 in
theorem k_Sp_has_0 {C : CT} (X : cM C "QuestionText$Span" b_Sp_has 2 (some .boolean)) (Post : Int32 → va_W → Prop) (x1 : Int32) (P : va_W) (h0 : Nat) (lo : Int32) (hi : Int32) (i3 : Nat) (c0 s0 : Nat) (hs : P[i3]? = some (h0, .inr (7, [.int lo, .int hi])))
    (k_20 : (x1 < lo) → zc_Sp_has C Post c0 s0 20 [(0, .ref h0), (1, .int x1)] [] (P))
    (k_20_1 : (¬ x1 < lo) → (hi < x1) → zc_Sp_has C Post c0 s0 20 [(0, .ref h0), (1, .int x1)] [] (P))
    (k_21 : (¬ x1 < lo) → (¬ hi < x1) → zc_Sp_has C Post c0 s0 21 [(0, .ref h0), (1, .int x1)] [.int 1] (P)) : zc_Sp_has C Post c0 s0 0 [(0, .ref h0), (1, .int x1)] [] (P) := by
  obtain ⟨⟨l, dC, dI, k, a⟩, p, e, s, m, args, below, meth, c, A⟩ := C
  obtain ⟨hx, hb, hr, htz, hown, hlocks, hml, hE, hK, hA⟩ := X
  intro H locs ls hl hP hD hS
  have hl : lv_has ls 2 [(0, .ref h0), (1, .int x1)] := hl
  have hP : va_P (dC, dI) classes (P) H := hP
  have hD : va_D A (P) := hD
  show W p l e (z_rm 0 0 0) s m args below meth c H locs c0 s0 _ (F0 m 0 ls [])
  refine lv_iload_n hx hb d_Sp_has_0 rfl (lv_at hl 1 rfl) ?_
  refine lv_aload_n hx hb d_Sp_has_1 rfl (lv_at hl 0 rfl) ?_
  refine va_get (D := (dC, dI)) (ci := 7) (v := .int lo) (C := R_Sp) (T := F_Sp) (N := 2) hx hb htz i_Sp hown hK hP (i3 + 0) hs rfl 0 (by decide) (htz _ kf_Sp_7) (fun _ h9 => h9) rfl d_Sp_has_2 ?_
  refine lv_icmp_lt (tgt := 20) hx hb d_Sp_has_5 (by decide) (fun c_5 => ?_) (fun c_5 => ?_)
  · exact (k_20 c_5) H locs ls (lv_sub hl [0, 1] rfl) hP hD hS
  · refine lv_iload_n hx hb d_Sp_has_8 rfl (lv_at hl 1 rfl) ?_
    refine lv_aload_n hx hb d_Sp_has_9 rfl (lv_at hl 0 rfl) ?_
    refine va_get (D := (dC, dI)) (ci := 7) (v := .int hi) (C := R_Sp) (T := F_Sp) (N := 2) hx hb htz i_Sp hown hK hP (i3 + 0) hs rfl 1 (by decide) (htz _ kf_Sp_13) (fun _ h9 => h9) rfl d_Sp_has_10 ?_
    refine lv_icmp_gt (tgt := 20) hx hb d_Sp_has_13 (by decide) (fun c_13 => ?_) (fun c_13 => ?_)
    · exact (k_20_1 c_5 c_13) H locs ls (lv_sub hl [0, 1] rfl) hP hD hS
    · refine lv_iconst (v := 1) hx hb d_Sp_has_16 (by decide) ?_
      refine lv_goto (tgt := 21) hx hb d_Sp_has_17 (by decide) ?_
      exact (k_21 c_5 c_13) H locs ls (lv_sub hl [0, 1] rfl) hP hD hS
set_option maxHeartbeats 1000000 in
set_option maxRecDepth 100000 in
theorem k_Sp_has_20 {C : CT} (X : cM C "QuestionText$Span" b_Sp_has 2 (some .boolean)) (Post : Int32 → va_W → Prop) (x1 : Int32) (P : va_W) (h0 : Nat) (lo : Int32) (hi : Int32) (i3 : Nat) (c0 s0 : Nat) (hs : P[i3]? = some (h0, .inr (7, [.int lo, .int hi])))
    (k_21 : zc_Sp_has C Post c0 s0 21 [(0, .ref h0), (1, .int x1)] [.int 0] (P)) : zc_Sp_has C Post c0 s0 20 [(0, .ref h0), (1, .int x1)] [] (P) := by
  obtain ⟨⟨l, dC, dI, k, a⟩, p, e, s, m, args, below, meth, c, A⟩ := C
  obtain ⟨hx, hb, hr, htz, hown, hlocks, hml, hE, hK, hA⟩ := X
  intro H locs ls hl hP hD hS
  have hl : lv_has ls 2 [(0, .ref h0), (1, .int x1)] := hl
  have hP : va_P (dC, dI) classes (P) H := hP
  have hD : va_D A (P) := hD
  show W p l e (z_rm 0 0 0) s m args below meth c H locs c0 s0 _ (F0 m 20 ls [])
  refine lv_iconst (v := 0) hx hb d_Sp_has_20 (by decide) ?_
  exact k_21 H locs ls (lv_sub hl [0, 1] rfl) hP hD hS
set_option maxHeartbeats 1000000 in
set_option maxRecDepth 100000 in
theorem k_Sp_has_21 {C : CT} (X : cM C "QuestionText$Span" b_Sp_has 2 (some .boolean)) (Post : Int32 → va_W → Prop) (x1 : Int32) (y0 : Int32) (P : va_W) (h0 : Nat) (lo : Int32) (hi : Int32) (i3 : Nat) (c0 s0 : Nat) (hs : P[i3]? = some (h0, .inr (7, [.int lo, .int hi])))
    (b_21 : c0 ≤ 0 ∧ s0 ≤ 0)
    (q_21 : Post (y0) (P))
    (z_21 : narrow .boolean (.int (y0)) = .int (y0)) : zc_Sp_has C Post c0 s0 21 [(0, .ref h0), (1, .int x1)] [.int y0] (P) := by
  obtain ⟨⟨l, dC, dI, k, a⟩, p, e, s, m, args, below, meth, c, A⟩ := C
  obtain ⟨hx, hb, hr, htz, hown, hlocks, hml, hE, hK, hA⟩ := X
  intro H locs ls hl hP hD hS
  have hl : lv_has ls 2 [(0, .ref h0), (1, .int x1)] := hl
  have hP : va_P (dC, dI) classes (P) H := hP
  have hD : va_D A (P) := hD
  show W p l e (z_rm 0 0 0) s m args below meth c H locs c0 s0 _ (F0 m 21 ls [.int y0])
  refine W.widen (k := 0) (n := 0) b_21.1 b_21.2 ?_
  exact W.zret (v := y0) (ty := .boolean) hx hb hr z_21 (fun t ht hW => ⟨⟨_, (P), rfl, q_21, by rw [ht]; exact hP, va_K.moved hW.alike hK, hD⟩, hS.F ht⟩) hS.2.2 d_Sp_has_21
set_option maxHeartbeats 1000000 in
set_option maxRecDepth 100000 in
theorem e_Sp_has (T : ST) (Post : Int32 → va_W → Prop) (x1 : Int32) (P : va_W) (h0 : Nat) (lo : Int32) (hi : Int32) (h : ∀ C : CT, C.1 = T → cM C "QuestionText$Span" b_Sp_has 2 (some .boolean) → zc_Sp_has C Post 0 0 0 [(0, .ref h0), (1, .int x1)] [] (P)) : uI T y_Sp_has (Cond.code y_Sp_has b_Sp_has 2 (some .boolean)) 0 0 0 [.ref h0, .int x1] (P) Post := by
  obtain ⟨l, dC, dI, k, a⟩ := T
  intro sz
  refine Met.ofW (cc := b_Sp_has) (maxL := 2) (ret := (some .boolean)) (by decide) rfl ?_
  intro p e s m args below meth c s₁ B hml hv
  obtain ⟨rfl, hsz, hE, hP, hK, hD0⟩ := hv
  have hts := atoms_spec (ws := (Cond.code y_Sp_has b_Sp_has 2 (some .boolean)) :: z_T) B.pre
  have htz : ∀ w ∈ z_T, w.before _ s = true := fun w h => hts w (z_cons w h)
  subst hsz
  have hD := hD0.self (sz := s.heap.size)
  generalize hAe : va_A (P) s.heap.size = A at hD hE ⊢
  have hA : ∀ q : Nat, s.heap.size ≤ q → A q := fun q h => by rw [← hAe]; exact Or.inr h
  have hl := lv_entry ([.ref h0, .int x1]) (n := 2) (Nat.le_of_ble_eq_true rfl)
  rw [lg_entry_eq]
  generalize (lg_sl ([.ref h0, .int x1]) ++ List.replicate (2 - (lg_sl ([.ref h0, .int x1])).length) Slot.unset).toArray = ls at hl ⊢
  exact h ((l, dC, dI, k, a), p, e, s, m, ([.ref h0, .int x1] : List Value).toArray, below, meth, c, A) rfl ⟨B.exec, B.bytes, B.returns, htz, findClass_of_methodNamed B.named, B.notSynchronized, hml, hE, hK, hA⟩ s.heap [] ls hl hP hD va_S.rf
def zc_Qu_allows (C : CT) (Post : Int32 → va_W → Prop) (c0 s0 pc : Nat) (loc : List (Nat × Value)) (st : List Value) (ws : va_W) : Prop := zW C (z_rm 1 0 0) 2 (oI C 0 0 Post) c0 s0 pc loc st ws
set_option maxHeartbeats 1000000 in
set_option maxRecDepth 100000 in
theorem k_Qu_allows_0 {C : CT} (X : cM C "QuestionText$Question" b_Qu_allows 2 (some .boolean)) (Post : Int32 → va_W → Prop) {P_25 : Int32 → va_W → Prop} (x1 : Int32) (P : va_W) (h0 : Nat) (mu : Int32) (sp : Nat) (wa : Nat) (wb : Nat) (l0 : Nat) (jx : Nat) (lo : Int32) (hi : Int32) (i1 : Nat) (i3 : Nat) (c0 s0 : Nat) (hf : P[i1]? = some (h0, .inr (6, [.int mu, .ref sp, .ref wa, .ref wb, .ref l0, .ref jx]))) (hs : P[i3]? = some (sp, .inr (7, [.int lo, .int hi])))
    (b_25 : (¬ x1 = (-1)) → c0 ≤ 0 ∧ s0 ≤ 0)
    (m_25 : (¬ x1 = (-1)) → uI C.1 y_Sp_has (Cond.code y_Sp_has b_Sp_has 2 (some .boolean)) 0 0 0 [.ref sp, .int x1] (P) P_25)
    (k_25 : (¬ x1 = (-1)) → ∀ (r : Int32) (u : va_W), P_25 r u → zc_Qu_allows C Post c0 s0 28 [(0, .ref h0), (1, .int x1)] [.int r] (u))
    (k_28 : (x1 = (-1)) → (¬ mu = 0) → zc_Qu_allows C Post c0 s0 28 [(0, .ref h0), (1, .int x1)] [.int 0] (P))
    (k_28_1 : (x1 = (-1)) → (mu = 0) → zc_Qu_allows C Post c0 s0 28 [(0, .ref h0), (1, .int x1)] [.int 1] (P)) : zc_Qu_allows C Post c0 s0 0 [(0, .ref h0), (1, .int x1)] [] (P) := by
  obtain ⟨⟨l, dC, dI, k, a⟩, p, e, s, m, args, below, meth, c, A⟩ := C
  obtain ⟨hx, hb, hr, htz, hown, hlocks, hml, hE, hK, hA⟩ := X
  intro H locs ls hl hP hD hS
  have hl : lv_has ls 2 [(0, .ref h0), (1, .int x1)] := hl
  have hP : va_P (dC, dI) classes (P) H := hP
  have hD : va_D A (P) := hD
  show W p l e (z_rm 1 0 0) s m args below meth c H locs c0 s0 _ (F0 m 0 ls [])
  refine lv_iload_n hx hb d_Qu_allows_0 rfl (lv_at hl 1 rfl) ?_
  refine lv_iconst (v := -1) hx hb d_Qu_allows_1 (by decide) ?_
  refine lv_icmp_ne (tgt := 20) hx hb d_Qu_allows_2 (by decide) (fun c_2 => ?_) (fun c_2 => ?_)
  · refine lv_aload_n hx hb d_Qu_allows_20 rfl (lv_at hl 0 rfl) ?_
    refine va_get (D := (dC, dI)) (ci := 6) (v := .ref sp) (C := R_Qu) (T := F_Qu) (N := 6) hx hb htz i_Qu hown hK hP (i1 + 0) hf rfl 1 (by decide) (htz _ kf_Qu_15) (fun _ h9 => h9) rfl d_Qu_allows_21 ?_
    refine lv_iload_n hx hb d_Qu_allows_24 rfl (lv_at hl 1 rfl) ?_
    have hFc : ∀ q, va_A (P) H.size q → A q := fun q h => h.elim (fun z => by obtain ⟨i9, e9, h9⟩ := z; exact hD.2 i9 _ h9) (fun z => hA q (Nat.le_trans hS.1 z))
    refine va_calli (va_runV (As := [.int x1]) (rest := []) ⟨hx, hb, hml, hown, htz⟩ ((m_25 c_2) H.size) (cwV 1 htz (z_gV (fun _ h => h) km_Qu_34 in_Sp_has se_Sp_has ini_Sp m_Sp_has) rfl rfl rfl (by decide +kernel) ⟨(Nat.le_of_ble_eq_true rfl), (Nat.le_of_ble_eq_true rfl)⟩) ⟨z_blind, va_recv hK hP (ci := 7) (q0 := (i3 + 0)) rfl hs, fun U hU hW => ⟨rfl, by rw [hU], hE.call hS hFc hU hW, by rw [hU]; exact hP, va_K.moved hW.alike hK, (hD.weaken (fun _ _ _ _ => trivial))⟩⟩ rfl rfl hl.1 rfl (lv_room (Nat.le_of_ble_eq_true rfl)) d_Qu_allows_25 (b_25 c_2)) hS (fun q _ h => hFc q h) hFc (fun r u t H1 locs ht hvm hw hB hz1 hk1 hS => ?_)
    obtain ⟨hP1, hK1, hD1⟩ := hB
    rw [ht] at hP1
    have hP := hP1
    have hD := hD1.weaken (fun _ q _ h => hFc _ h)
    exact (k_25 c_2) r _ hw H1 locs ls (lv_sub hl [0, 1] rfl) hP hD hS
  · refine lv_aload_n hx hb d_Qu_allows_5 rfl (lv_at hl 0 rfl) ?_
    refine va_get (D := (dC, dI)) (ci := 6) (v := .int mu) (C := R_Qu) (T := F_Qu) (N := 6) hx hb htz i_Qu hown hK hP (i1 + 0) hf rfl 0 (by decide) (htz _ kf_Qu_9) (fun _ h9 => h9) rfl d_Qu_allows_6 ?_
    refine lv_if_ne (tgt := 16) hx hb d_Qu_allows_9 (by decide) (fun c_9 => ?_) (fun c_9 => ?_)
    · refine lv_iconst (v := 0) hx hb d_Qu_allows_16 (by decide) ?_
      refine lv_goto (tgt := 28) hx hb d_Qu_allows_17 (by decide) ?_
      exact (k_28 c_2 c_9) H locs ls (lv_sub hl [0, 1] rfl) hP hD hS
    · refine lv_iconst (v := 1) hx hb d_Qu_allows_12 (by decide) ?_
      refine lv_goto (tgt := 28) hx hb d_Qu_allows_13 (by decide) ?_
      exact (k_28_1 c_2 c_9) H locs ls (lv_sub hl [0, 1] rfl) hP hD hS
set_option maxHeartbeats 1000000 in
set_option maxRecDepth 100000 in
theorem k_Qu_allows_28 {C : CT} (X : cM C "QuestionText$Question" b_Qu_allows 2 (some .boolean)) (Post : Int32 → va_W → Prop) (x1 : Int32) (y0 : Int32) (P : va_W) (h0 : Nat) (mu : Int32) (sp : Nat) (wa : Nat) (wb : Nat) (l0 : Nat) (jx : Nat) (lo : Int32) (hi : Int32) (i1 : Nat) (i3 : Nat) (c0 s0 : Nat) (hf : P[i1]? = some (h0, .inr (6, [.int mu, .ref sp, .ref wa, .ref wb, .ref l0, .ref jx]))) (hs : P[i3]? = some (sp, .inr (7, [.int lo, .int hi])))
    (b_28 : c0 ≤ 0 ∧ s0 ≤ 0)
    (q_28 : Post (y0) (P))
    (z_28 : narrow .boolean (.int (y0)) = .int (y0)) : zc_Qu_allows C Post c0 s0 28 [(0, .ref h0), (1, .int x1)] [.int y0] (P) := by
  obtain ⟨⟨l, dC, dI, k, a⟩, p, e, s, m, args, below, meth, c, A⟩ := C
  obtain ⟨hx, hb, hr, htz, hown, hlocks, hml, hE, hK, hA⟩ := X
  intro H locs ls hl hP hD hS
  have hl : lv_has ls 2 [(0, .ref h0), (1, .int x1)] := hl
  have hP : va_P (dC, dI) classes (P) H := hP
  have hD : va_D A (P) := hD
  show W p l e (z_rm 1 0 0) s m args below meth c H locs c0 s0 _ (F0 m 28 ls [.int y0])
  refine W.widen (k := 0) (n := 0) b_28.1 b_28.2 ?_
  exact W.zret (v := y0) (ty := .boolean) hx hb hr z_28 (fun t ht hW => ⟨⟨_, (P), rfl, q_28, by rw [ht]; exact hP, va_K.moved hW.alike hK, hD⟩, hS.F ht⟩) hS.2.2 d_Qu_allows_28
set_option maxHeartbeats 1000000 in
set_option maxRecDepth 100000 in
theorem e_Qu_allows (T : ST) (Post : Int32 → va_W → Prop) (x1 : Int32) (P : va_W) (h0 : Nat) (mu : Int32) (sp : Nat) (wa : Nat) (wb : Nat) (l0 : Nat) (jx : Nat) (lo : Int32) (hi : Int32) (h : ∀ C : CT, C.1 = T → cM C "QuestionText$Question" b_Qu_allows 2 (some .boolean) → zc_Qu_allows C Post 0 0 0 [(0, .ref h0), (1, .int x1)] [] (P)) : uI T y_Qu_allows (Cond.code y_Qu_allows b_Qu_allows 2 (some .boolean)) 1 0 0 [.ref h0, .int x1] (P) Post := by
  obtain ⟨l, dC, dI, k, a⟩ := T
  intro sz
  refine Met.ofW (cc := b_Qu_allows) (maxL := 2) (ret := (some .boolean)) (by decide) rfl ?_
  intro p e s m args below meth c s₁ B hml hv
  obtain ⟨rfl, hsz, hE, hP, hK, hD0⟩ := hv
  have hts := atoms_spec (ws := (Cond.code y_Qu_allows b_Qu_allows 2 (some .boolean)) :: z_T) B.pre
  have htz : ∀ w ∈ z_T, w.before _ s = true := fun w h => hts w (z_cons w h)
  subst hsz
  have hD := hD0.self (sz := s.heap.size)
  generalize hAe : va_A (P) s.heap.size = A at hD hE ⊢
  have hA : ∀ q : Nat, s.heap.size ≤ q → A q := fun q h => by rw [← hAe]; exact Or.inr h
  have hl := lv_entry ([.ref h0, .int x1]) (n := 2) (Nat.le_of_ble_eq_true rfl)
  rw [lg_entry_eq]
  generalize (lg_sl ([.ref h0, .int x1]) ++ List.replicate (2 - (lg_sl ([.ref h0, .int x1])).length) Slot.unset).toArray = ls at hl ⊢
  exact h ((l, dC, dI, k, a), p, e, s, m, ([.ref h0, .int x1] : List Value).toArray, below, meth, c, A) rfl ⟨B.exec, B.bytes, B.returns, htz, findClass_of_methodNamed B.named, B.notSynchronized, hml, hE, hK, hA⟩ s.heap [] ls hl hP hD va_S.rf
def zc_Qu_jumpFor (C : CT) (Post : Option Nat → va_W → Prop) (c0 s0 pc : Nat) (loc : List (Nat × Value)) (st : List Value) (ws : va_W) : Prop := zW C (z_rm 3 0 0) 3 (oR C 0 0 Post) c0 s0 pc loc st ws
set_option maxHeartbeats 1000000 in
set_option maxRecDepth 100000 in
theorem k_Qu_jumpFor_0 {C : CT} (X : cM C "QuestionText$Question" b_Qu_jumpFor 3 (some (.object "QuestionText$Jump"))) (Post : Option Nat → va_W → Prop) (x1 : Int32) (P : va_W) (h0 : Nat) (mu : Int32) (sp : Nat) (wa : Nat) (wb : Nat) (l0 : Nat) (jx : Nat) (i1 : Nat) (c0 s0 : Nat) (hf : P[i1]? = some (h0, .inr (6, [.int mu, .ref sp, .ref wa, .ref wb, .ref l0, .ref jx])))
    (k_2 : zc_Qu_jumpFor C Post c0 s0 2 [(0, .ref h0), (1, .int x1), (2, .int 0)] [] (P)) : zc_Qu_jumpFor C Post c0 s0 0 [(0, .ref h0), (1, .int x1)] [] (P) := by
  obtain ⟨⟨l, dC, dI, k, a⟩, p, e, s, m, args, below, meth, c, A⟩ := C
  obtain ⟨hx, hb, hr, htz, hown, hlocks, hml, hE, hK, hA⟩ := X
  intro H locs ls hl hP hD hS
  have hl : lv_has ls 3 [(0, .ref h0), (1, .int x1)] := hl
  have hP : va_P (dC, dI) classes (P) H := hP
  have hD : va_D A (P) := hD
  show W p l e (z_rm 3 0 0) s m args below meth c H locs c0 s0 _ (F0 m 0 ls [])
  refine lv_iconst (v := 0) hx hb d_Qu_jumpFor_0 (by decide) ?_
  refine lv_istore_n (lv' := [(2, .int 0), (0, .ref h0), (1, .int x1)]) hx hb d_Qu_jumpFor_1 rfl hl (by decide) rfl (fun ls hl => ?_)
  exact k_2 H locs ls (lv_sub hl [1, 2, 0] rfl) hP hD hS
set_option maxHeartbeats 1000000 in
set_option maxRecDepth 100000 in
theorem k_Qu_jumpFor_2 {C : CT} (X : cM C "QuestionText$Question" b_Qu_jumpFor 3 (some (.object "QuestionText$Jump"))) (Post : Option Nat → va_W → Prop) {P_7 : Int32 → va_W → Prop} (x1 : Int32) (x2 : Int32) (P : va_W) (h0 : Nat) (mu : Int32) (sp : Nat) (wa : Nat) (wb : Nat) (l0 : Nat) (jx : Nat) (i1 : Nat) (c0 s0 : Nat) (hf : P[i1]? = some (h0, .inr (6, [.int mu, .ref sp, .ref wa, .ref wb, .ref l0, .ref jx])))
    (b_7 : c0 ≤ 0 ∧ s0 ≤ 0)
    (m_7 : uI C.1 y_AL_size (Cond.code y_AL_size b_AL_size 1 (some .int)) 0 0 0 [.ref l0] (P) P_7)
    (k_7 : ∀ (r : Int32) (u : va_W), P_7 r u → zc_Qu_jumpFor C Post c0 s0 12 [(0, .ref h0), (1, .int x1), (2, .int x2)] [.int r, .int x2] (u))
    (r_7 : ∃ (i : Nat) (fs : List Value), P[i]? = some (l0, .inr (11, fs))) : zc_Qu_jumpFor C Post c0 s0 2 [(0, .ref h0), (1, .int x1), (2, .int x2)] [] (P) := by
  obtain ⟨⟨l, dC, dI, k, a⟩, p, e, s, m, args, below, meth, c, A⟩ := C
  obtain ⟨hx, hb, hr, htz, hown, hlocks, hml, hE, hK, hA⟩ := X
  intro H locs ls hl hP hD hS
  have hl : lv_has ls 3 [(0, .ref h0), (1, .int x1), (2, .int x2)] := hl
  have hP : va_P (dC, dI) classes (P) H := hP
  have hD : va_D A (P) := hD
  show W p l e (z_rm 3 0 0) s m args below meth c H locs c0 s0 _ (F0 m 2 ls [])
  refine lv_iload_n hx hb d_Qu_jumpFor_2 rfl (lv_at hl 2 rfl) ?_
  refine lv_aload_n hx hb d_Qu_jumpFor_3 rfl (lv_at hl 0 rfl) ?_
  refine va_get (D := (dC, dI)) (ci := 6) (v := .ref l0) (C := R_Qu) (T := F_Qu) (N := 6) hx hb htz i_Qu hown hK hP (i1 + 0) hf rfl 4 (by decide) (htz _ kf_Qu_26) (fun _ h9 => h9) rfl d_Qu_jumpFor_4 ?_
  have hPf : va_P (dC, dI) classes (([]) ++ ((P) ++ ([]))) H := by rw [List.append_nil]; exact hP
  have hDf : va_D A (([]) ++ ((P) ++ ([]))) := by rw [List.append_nil]; exact hD
  have hFc := zfree hDf hS hA
  obtain ⟨i9, fs9, h9r⟩ := r_7
  have h9a := h9r
  refine va_callFi (va_runF (hK.1 11 _ rfl).2 (As := []) (rest := [.int x2]) ⟨hx, hb, hml, hown, htz⟩ (m_7 H.size) (va_cwF 0 htz (z_gF (fun _ h => h) km_Qu_40 sx_AL_size in_AL_size ini_AL m_AL_size) rfl rfl rfl (hE.1.1 (⟨"java/util/List", "size", "()I"⟩, y_AL_size) (by decide +kernel)) (by decide +kernel) ⟨(Nat.le_of_ble_eq_true rfl), (Nat.le_of_ble_eq_true rfl)⟩) ⟨z_blind, va_recv hK (zPc hPf) (ci := 11) (q0 := i9) rfl h9a, fun U hU hW => ⟨rfl, by rw [hU], hE.call hS hFc hU hW, by rw [hU]; exact (zPc hPf), va_K.moved hW.alike hK, (zDc hDf)⟩⟩ rfl rfl hl.1 rfl (lv_room (Nat.le_of_ble_eq_true rfl)) d_Qu_jumpFor_7 b_7) hS (fun q _ h => hFc q h) hFc (fun r u t H1 locs ht hvm hw hB hz1 hk1 hS => ?_)
  obtain ⟨hP1, hK1, hD1⟩ := hB
  rw [ht] at hP1
  obtain ⟨hP, hD⟩ := zf hPf hDf hk1 hFc hP1 hD1
  rw [List.append_nil] at hP hD
  exact k_7 r _ hw H1 locs ls (lv_sub hl [0, 1, 2] rfl) hP hD hS
set_option maxHeartbeats 1000000 in
set_option maxRecDepth 100000 in
theorem k_Qu_jumpFor_12 {C : CT} (X : cM C "QuestionText$Question" b_Qu_jumpFor 3 (some (.object "QuestionText$Jump"))) (Post : Option Nat → va_W → Prop) {P_20 : Option Nat → va_W → Prop} (x1 : Int32) (x2 : Int32) (y0 : Int32) (y1 : Int32) (P : va_W) (h0 : Nat) (mu : Int32) (sp : Nat) (wa : Nat) (wb : Nat) (l0 : Nat) (jx : Nat) (i1 : Nat) (c0 s0 : Nat) (hf : P[i1]? = some (h0, .inr (6, [.int mu, .ref sp, .ref wa, .ref wb, .ref l0, .ref jx])))
    (b_62 : (y0 ≤ y1) → c0 ≤ 0 ∧ s0 ≤ 0)
    (q_62 : (y0 ≤ y1) → Post (some jx) (P))
    (b_20 : (¬ y0 ≤ y1) → c0 ≤ 0 ∧ s0 ≤ 0)
    (m_20 : (¬ y0 ≤ y1) → uR C.1 y_AL_get (Cond.code y_AL_get b_AL_get 2 (some (.object "java/lang/Object"))) 2 0 0 [.ref l0, .int x2] (P) P_20)
    (k_20 : (¬ y0 ≤ y1) → ∀ (r : Option Nat) (u : va_W), P_20 r u → zc_Qu_jumpFor C Post c0 s0 25 [(0, .ref h0), (1, .int x1), (2, .int x2)] [va_rf r] (u))
    (r_20 : (¬ y0 ≤ y1) → ∃ (i : Nat) (fs : List Value), P[i]? = some (l0, .inr (11, fs))) : zc_Qu_jumpFor C Post c0 s0 12 [(0, .ref h0), (1, .int x1), (2, .int x2)] [.int y0, .int y1] (P) := by
  obtain ⟨⟨l, dC, dI, k, a⟩, p, e, s, m, args, below, meth, c, A⟩ := C
  obtain ⟨hx, hb, hr, htz, hown, hlocks, hml, hE, hK, hA⟩ := X
  intro H locs ls hl hP hD hS
  have hl : lv_has ls 3 [(0, .ref h0), (1, .int x1), (2, .int x2)] := hl
  have hP : va_P (dC, dI) classes (P) H := hP
  have hD : va_D A (P) := hD
  show W p l e (z_rm 3 0 0) s m args below meth c H locs c0 s0 _ (F0 m 12 ls [.int y0, .int y1])
  refine lv_icmp_ge (tgt := 58) hx hb d_Qu_jumpFor_12 (by decide) (fun c_12 => ?_) (fun c_12 => ?_)
  · refine lv_aload_n hx hb d_Qu_jumpFor_58 rfl (lv_at hl 0 rfl) ?_
    refine va_get (D := (dC, dI)) (ci := 6) (v := .ref jx) (C := R_Qu) (T := F_Qu) (N := 6) hx hb htz i_Qu hown hK hP (i1 + 0) hf rfl 5 (by decide) (htz _ kf_Qu_30) (fun _ h9 => h9) rfl d_Qu_jumpFor_59 ?_
    refine W.widen (k := 0) (n := 0) (b_62 c_12).1 (b_62 c_12).2 ?_
    exact W.aret (v := .ref jx) hx hb hr (Or.inl ⟨_, rfl⟩) (Or.inr ⟨_, rfl⟩) (fun t ht hW => ⟨⟨(some jx), (P), rfl, (q_62 c_12), by rw [ht]; exact hP, va_K.moved hW.alike hK, hD⟩, hS.F ht⟩) hS.2.2 d_Qu_jumpFor_62
  · refine lv_aload_n hx hb d_Qu_jumpFor_15 rfl (lv_at hl 0 rfl) ?_
    refine va_get (D := (dC, dI)) (ci := 6) (v := .ref l0) (C := R_Qu) (T := F_Qu) (N := 6) hx hb htz i_Qu hown hK hP (i1 + 0) hf rfl 4 (by decide) (htz _ kf_Qu_26) (fun _ h9 => h9) rfl d_Qu_jumpFor_16 ?_
    refine lv_iload_n hx hb d_Qu_jumpFor_19 rfl (lv_at hl 2 rfl) ?_
    have hPf : va_P (dC, dI) classes (([]) ++ ((P) ++ ([]))) H := by rw [List.append_nil]; exact hP
    have hDf : va_D A (([]) ++ ((P) ++ ([]))) := by rw [List.append_nil]; exact hD
    have hFc := zfree hDf hS hA
    obtain ⟨i9, fs9, h9r⟩ := (r_20 c_12)
    have h9a := h9r
    refine va_callFq (va_runF (hK.1 11 _ rfl).2 (As := [.int x2]) (rest := []) ⟨hx, hb, hml, hown, htz⟩ ((m_20 c_12) H.size) (va_cwF 1 htz (z_gF (fun _ h => h) km_Qu_46 sx_AL_get in_AL_get ini_AL m_AL_get) rfl rfl rfl (hE.1.1 (⟨"java/util/List", "get", "(I)Ljava/lang/Object;"⟩, y_AL_get) (by decide +kernel)) (by decide +kernel) ⟨(Nat.le_of_ble_eq_true rfl), (Nat.le_of_ble_eq_true rfl)⟩) ⟨z_blind, va_recv hK (zPc hPf) (ci := 11) (q0 := i9) rfl h9a, fun U hU hW => ⟨rfl, by rw [hU], hE.call hS hFc hU hW, by rw [hU]; exact (zPc hPf), va_K.moved hW.alike hK, (zDc hDf)⟩⟩ rfl rfl hl.1 rfl (lv_room (Nat.le_of_ble_eq_true rfl)) d_Qu_jumpFor_20 (b_20 c_12)) hS (fun q _ h => hFc q h) hFc (fun r u t H1 locs ht hvm hw hB hz1 hk1 hS => ?_)
    obtain ⟨hP1, hK1, hD1⟩ := hB
    rw [ht] at hP1
    obtain ⟨hP, hD⟩ := zf hPf hDf hk1 hFc hP1 hD1
    rw [List.append_nil] at hP hD
    exact (k_20 c_12) r _ hw H1 locs ls (lv_sub hl [0, 1, 2] rfl) hP hD hS
set_option maxHeartbeats 1000000 in
set_option maxRecDepth 100000 in
theorem k_Qu_jumpFor_25 {C : CT} (X : cM C "QuestionText$Question" b_Qu_jumpFor 3 (some (.object "QuestionText$Jump"))) (Post : Option Nat → va_W → Prop) {P_32 : Int32 → va_W → Prop} (x1 : Int32) (x2 : Int32) (y0 : Nat) (P : va_W) (h0 : Nat) (mu : Int32) (sp : Nat) (wa : Nat) (wb : Nat) (l0 : Nat) (jx : Nat) (sj : Nat) (t0 : Int32) (p0 : Int32) (lo : Int32) (hi : Int32) (i1 : Nat) (i2 : Nat) (i3 : Nat) (c0 s0 : Nat) (hf : P[i1]? = some (h0, .inr (6, [.int mu, .ref sp, .ref wa, .ref wb, .ref l0, .ref jx]))) (hj : P[i2]? = some (y0, .inr (8, [.ref sj, .int t0, .int p0]))) (hs : P[i3]? = some (sj, .inr (7, [.int lo, .int hi])))
    (b_32 : c0 ≤ 0 ∧ s0 ≤ 0)
    (m_32 : uI C.1 y_Sp_has (Cond.code y_Sp_has b_Sp_has 2 (some .boolean)) 0 0 0 [.ref sj, .int x1] (P) P_32)
    (k_32 : ∀ (r : Int32) (u : va_W), P_32 r u → zc_Qu_jumpFor C Post c0 s0 35 [(0, .ref h0), (1, .int x1), (2, .int x2)] [.int r] (u)) : zc_Qu_jumpFor C Post c0 s0 25 [(0, .ref h0), (1, .int x1), (2, .int x2)] [.ref y0] (P) := by
  obtain ⟨⟨l, dC, dI, k, a⟩, p, e, s, m, args, below, meth, c, A⟩ := C
  obtain ⟨hx, hb, hr, htz, hown, hlocks, hml, hE, hK, hA⟩ := X
  intro H locs ls hl hP hD hS
  have hl : lv_has ls 3 [(0, .ref h0), (1, .int x1), (2, .int x2)] := hl
  have hP : va_P (dC, dI) classes (P) H := hP
  have hD : va_D A (P) := hD
  show W p l e (z_rm 3 0 0) s m args below meth c H locs c0 s0 _ (F0 m 25 ls [.ref y0])
  refine va_castY hx hb hown (htz _ kc_Qu_50) (hE.2.1 _ cs_Ju) (va_recv hK hP (ci := 8) (q0 := (i2 + 0)) rfl hj) d_Qu_jumpFor_25 ?_
  refine va_getN (D := (dC, dI)) (ci := 8) (v := .ref sj) (C := R_Ju) (T := F_Ju) (N := 3) hx hb htz i_Ju hown hK hP (i2 + 0) hj rfl 0 (by decide) (va_Nw.use rfl (hE.2.1 _ kf_Qu_52)) (fun _ h9 => h9) rfl d_Qu_jumpFor_28 ?_
  refine lv_iload_n hx hb d_Qu_jumpFor_31 rfl (lv_at hl 1 rfl) ?_
  have hFc : ∀ q, va_A (P) H.size q → A q := fun q h => h.elim (fun z => by obtain ⟨i9, e9, h9⟩ := z; exact hD.2 i9 _ h9) (fun z => hA q (Nat.le_trans hS.1 z))
  refine va_calli (va_runV (As := [.int x1]) (rest := []) ⟨hx, hb, hml, hown, htz⟩ (m_32 H.size) (cwV 1 htz (z_gV (fun _ h => h) km_Qu_34 in_Sp_has se_Sp_has ini_Sp m_Sp_has) rfl rfl rfl (by decide +kernel) ⟨(Nat.le_of_ble_eq_true rfl), (Nat.le_of_ble_eq_true rfl)⟩) ⟨z_blind, va_recv hK hP (ci := 7) (q0 := (i3 + 0)) rfl hs, fun U hU hW => ⟨rfl, by rw [hU], hE.call hS hFc hU hW, by rw [hU]; exact hP, va_K.moved hW.alike hK, (hD.weaken (fun _ _ _ _ => trivial))⟩⟩ rfl rfl hl.1 rfl (lv_room (Nat.le_of_ble_eq_true rfl)) d_Qu_jumpFor_32 b_32) hS (fun q _ h => hFc q h) hFc (fun r u t H1 locs ht hvm hw hB hz1 hk1 hS => ?_)
  obtain ⟨hP1, hK1, hD1⟩ := hB
  rw [ht] at hP1
  have hP := hP1
  have hD := hD1.weaken (fun _ q _ h => hFc _ h)
  exact k_32 r _ hw H1 locs ls (lv_sub hl [0, 1, 2] rfl) hP hD hS
set_option maxHeartbeats 1000000 in
set_option maxRecDepth 100000 in
theorem k_Qu_jumpFor_35 {C : CT} (X : cM C "QuestionText$Question" b_Qu_jumpFor 3 (some (.object "QuestionText$Jump"))) (Post : Option Nat → va_W → Prop) {P_43 : Option Nat → va_W → Prop} (x1 : Int32) (x2 : Int32) (y0 : Int32) (P : va_W) (h0 : Nat) (mu : Int32) (sp : Nat) (wa : Nat) (wb : Nat) (l0 : Nat) (jx : Nat) (i1 : Nat) (c0 s0 : Nat) (hf : P[i1]? = some (h0, .inr (6, [.int mu, .ref sp, .ref wa, .ref wb, .ref l0, .ref jx])))
    (k_2 : (y0 = 0) → zc_Qu_jumpFor C Post c0 s0 2 [(0, .ref h0), (1, .int x1), (2, .int (x2 + 1))] [] (P))
    (b_43 : (¬ y0 = 0) → c0 ≤ 0 ∧ s0 ≤ 0)
    (m_43 : (¬ y0 = 0) → uR C.1 y_AL_get (Cond.code y_AL_get b_AL_get 2 (some (.object "java/lang/Object"))) 2 0 0 [.ref l0, .int x2] (P) P_43)
    (k_43 : (¬ y0 = 0) → ∀ (r : Option Nat) (u : va_W), P_43 r u → zc_Qu_jumpFor C Post c0 s0 48 [(0, .ref h0), (1, .int x1), (2, .int x2)] [va_rf r] (u))
    (r_43 : (¬ y0 = 0) → ∃ (i : Nat) (fs : List Value), P[i]? = some (l0, .inr (11, fs))) : zc_Qu_jumpFor C Post c0 s0 35 [(0, .ref h0), (1, .int x1), (2, .int x2)] [.int y0] (P) := by
  obtain ⟨⟨l, dC, dI, k, a⟩, p, e, s, m, args, below, meth, c, A⟩ := C
  obtain ⟨hx, hb, hr, htz, hown, hlocks, hml, hE, hK, hA⟩ := X
  intro H locs ls hl hP hD hS
  have hl : lv_has ls 3 [(0, .ref h0), (1, .int x1), (2, .int x2)] := hl
  have hP : va_P (dC, dI) classes (P) H := hP
  have hD : va_D A (P) := hD
  show W p l e (z_rm 3 0 0) s m args below meth c H locs c0 s0 _ (F0 m 35 ls [.int y0])
  refine lv_if_eq (tgt := 52) hx hb d_Qu_jumpFor_35 (by decide) (fun c_35 => ?_) (fun c_35 => ?_)
  · refine lv_iinc (v := x2 + 1) (lv' := [(2, .int (x2 + 1)), (0, .ref h0), (1, .int x1)]) hx hb d_Qu_jumpFor_52 hl (k := 2) rfl (rfl) (by decide) rfl (fun ls hl => ?_)
    refine lv_goto (tgt := 2) hx hb d_Qu_jumpFor_55 (by decide) ?_
    exact (k_2 c_35) H locs ls (lv_sub hl [1, 2, 0] rfl) hP hD hS
  · refine lv_aload_n hx hb d_Qu_jumpFor_38 rfl (lv_at hl 0 rfl) ?_
    refine va_get (D := (dC, dI)) (ci := 6) (v := .ref l0) (C := R_Qu) (T := F_Qu) (N := 6) hx hb htz i_Qu hown hK hP (i1 + 0) hf rfl 4 (by decide) (htz _ kf_Qu_26) (fun _ h9 => h9) rfl d_Qu_jumpFor_39 ?_
    refine lv_iload_n hx hb d_Qu_jumpFor_42 rfl (lv_at hl 2 rfl) ?_
    have hPf : va_P (dC, dI) classes (([]) ++ ((P) ++ ([]))) H := by rw [List.append_nil]; exact hP
    have hDf : va_D A (([]) ++ ((P) ++ ([]))) := by rw [List.append_nil]; exact hD
    have hFc := zfree hDf hS hA
    obtain ⟨i9, fs9, h9r⟩ := (r_43 c_35)
    have h9a := h9r
    refine va_callFq (va_runF (hK.1 11 _ rfl).2 (As := [.int x2]) (rest := []) ⟨hx, hb, hml, hown, htz⟩ ((m_43 c_35) H.size) (va_cwF 1 htz (z_gF (fun _ h => h) km_Qu_46 sx_AL_get in_AL_get ini_AL m_AL_get) rfl rfl rfl (hE.1.1 (⟨"java/util/List", "get", "(I)Ljava/lang/Object;"⟩, y_AL_get) (by decide +kernel)) (by decide +kernel) ⟨(Nat.le_of_ble_eq_true rfl), (Nat.le_of_ble_eq_true rfl)⟩) ⟨z_blind, va_recv hK (zPc hPf) (ci := 11) (q0 := i9) rfl h9a, fun U hU hW => ⟨rfl, by rw [hU], hE.call hS hFc hU hW, by rw [hU]; exact (zPc hPf), va_K.moved hW.alike hK, (zDc hDf)⟩⟩ rfl rfl hl.1 rfl (lv_room (Nat.le_of_ble_eq_true rfl)) d_Qu_jumpFor_43 (b_43 c_35)) hS (fun q _ h => hFc q h) hFc (fun r u t H1 locs ht hvm hw hB hz1 hk1 hS => ?_)
    obtain ⟨hP1, hK1, hD1⟩ := hB
    rw [ht] at hP1
    obtain ⟨hP, hD⟩ := zf hPf hDf hk1 hFc hP1 hD1
    rw [List.append_nil] at hP hD
    exact (k_43 c_35) r _ hw H1 locs ls (lv_sub hl [0, 1, 2] rfl) hP hD hS
set_option maxHeartbeats 1000000 in
set_option maxRecDepth 100000 in
theorem k_Qu_jumpFor_48 {C : CT} (X : cM C "QuestionText$Question" b_Qu_jumpFor 3 (some (.object "QuestionText$Jump"))) (Post : Option Nat → va_W → Prop) (x1 : Int32) (x2 : Int32) (y0 : Nat) (P : va_W) (h0 : Nat) (mu : Int32) (sp : Nat) (wa : Nat) (wb : Nat) (l0 : Nat) (jx : Nat) (sj : Nat) (t0 : Int32) (p0 : Int32) (i1 : Nat) (i2 : Nat) (c0 s0 : Nat) (hf : P[i1]? = some (h0, .inr (6, [.int mu, .ref sp, .ref wa, .ref wb, .ref l0, .ref jx]))) (hj : P[i2]? = some (y0, .inr (8, [.ref sj, .int t0, .int p0])))
    (b_51 : c0 ≤ 0 ∧ s0 ≤ 0)
    (q_51 : Post (some y0) (P)) : zc_Qu_jumpFor C Post c0 s0 48 [(0, .ref h0), (1, .int x1), (2, .int x2)] [.ref y0] (P) := by
  obtain ⟨⟨l, dC, dI, k, a⟩, p, e, s, m, args, below, meth, c, A⟩ := C
  obtain ⟨hx, hb, hr, htz, hown, hlocks, hml, hE, hK, hA⟩ := X
  intro H locs ls hl hP hD hS
  have hl : lv_has ls 3 [(0, .ref h0), (1, .int x1), (2, .int x2)] := hl
  have hP : va_P (dC, dI) classes (P) H := hP
  have hD : va_D A (P) := hD
  show W p l e (z_rm 3 0 0) s m args below meth c H locs c0 s0 _ (F0 m 48 ls [.ref y0])
  refine va_castY hx hb hown (htz _ kc_Qu_50) (hE.2.1 _ cs_Ju) (va_recv hK hP (ci := 8) (q0 := (i2 + 0)) rfl hj) d_Qu_jumpFor_48 ?_
  refine W.widen (k := 0) (n := 0) b_51.1 b_51.2 ?_
  exact W.aret (v := .ref y0) hx hb hr (Or.inl ⟨_, rfl⟩) (Or.inr ⟨_, rfl⟩) (fun t ht hW => ⟨⟨(some y0), (P), rfl, q_51, by rw [ht]; exact hP, va_K.moved hW.alike hK, hD⟩, hS.F ht⟩) hS.2.2 d_Qu_jumpFor_51
set_option maxHeartbeats 1000000 in
set_option maxRecDepth 100000 in
theorem e_Qu_jumpFor (T : ST) (Post : Option Nat → va_W → Prop) (x1 : Int32) (P : va_W) (h0 : Nat) (mu : Int32) (sp : Nat) (wa : Nat) (wb : Nat) (l0 : Nat) (jx : Nat) (h : ∀ C : CT, C.1 = T → cM C "QuestionText$Question" b_Qu_jumpFor 3 (some (.object "QuestionText$Jump")) → zc_Qu_jumpFor C Post 0 0 0 [(0, .ref h0), (1, .int x1)] [] (P)) : uR T y_Qu_jumpFor (Cond.code y_Qu_jumpFor b_Qu_jumpFor 3 (some (.object "QuestionText$Jump"))) 3 0 0 [.ref h0, .int x1] (P) Post := by
  obtain ⟨l, dC, dI, k, a⟩ := T
  intro sz
  refine Met.ofW (cc := b_Qu_jumpFor) (maxL := 3) (ret := (some (.object "QuestionText$Jump"))) (by decide) rfl ?_
  intro p e s m args below meth c s₁ B hml hv
  obtain ⟨rfl, hsz, hE, hP, hK, hD0⟩ := hv
  have hts := atoms_spec (ws := (Cond.code y_Qu_jumpFor b_Qu_jumpFor 3 (some (.object "QuestionText$Jump"))) :: z_T) B.pre
  have htz : ∀ w ∈ z_T, w.before _ s = true := fun w h => hts w (z_cons w h)
  subst hsz
  have hD := hD0.self (sz := s.heap.size)
  generalize hAe : va_A (P) s.heap.size = A at hD hE ⊢
  have hA : ∀ q : Nat, s.heap.size ≤ q → A q := fun q h => by rw [← hAe]; exact Or.inr h
  have hl := lv_entry ([.ref h0, .int x1]) (n := 3) (Nat.le_of_ble_eq_true rfl)
  rw [lg_entry_eq]
  generalize (lg_sl ([.ref h0, .int x1]) ++ List.replicate (3 - (lg_sl ([.ref h0, .int x1])).length) Slot.unset).toArray = ls at hl ⊢
  exact h ((l, dC, dI, k, a), p, e, s, m, ([.ref h0, .int x1] : List Value).toArray, below, meth, c, A) rfl ⟨B.exec, B.bytes, B.returns, htz, findClass_of_methodNamed B.named, B.notSynchronized, hml, hE, hK, hA⟩ s.heap [] ls hl hP hD va_S.rf
def zc_Te_holds (C : CT) (Post : Int32 → va_W → Prop) (c0 s0 pc : Nat) (loc : List (Nat × Value)) (st : List Value) (ws : va_W) : Prop := zW C (z_rm 0 0 0) 3 (oI C 0 0 Post) c0 s0 pc loc st ws
set_option maxHeartbeats 1000000 in
set_option maxRecDepth 100000 in
theorem k_Te_holds_0 {C : CT} (X : cM C "QuestionText$Term" b_Te_holds 3 (some .boolean)) (Post : Int32 → va_W → Prop) (f_c : FT) (g_c : GT) (P : va_W) (h0 : Nat) (ab : Int32) (re : Int32) (va : Int32) (i1 : Nat) (c0 s0 : Nat) (hf : P[i1]? = some (h0, .inr (9, [.int ab, .int re, .int va])))
    (h_22 : (¬ ab = 0) → vp_in (ab) 61)
    (k_23 : (¬ ab = 0) → zc_Te_holds C Post c0 s0 23 [(0, .ref h0), (1, .ref (ad C.1 26))] [.int ((g_c 1) (ab : Int32).toNatClampNeg)] (s_c C.1.2.2.2.1 C.1.2.2.2.2 f_c g_c ++ (P)))
    (k_23_1 : (ab = 0) → zc_Te_holds C Post c0 s0 23 [(0, .ref h0), (1, .ref (ad C.1 26))] [.int (f_c 2)] (s_c C.1.2.2.2.1 C.1.2.2.2.2 f_c g_c ++ (P))) : zc_Te_holds C Post c0 s0 0 [(0, .ref h0), (1, .ref (ad C.1 26))] [] (s_c C.1.2.2.2.1 C.1.2.2.2.2 f_c g_c ++ (P)) := by
  obtain ⟨⟨l, dC, dI, k, a⟩, p, e, s, m, args, below, meth, c, A⟩ := C
  obtain ⟨hx, hb, hr, htz, hown, hlocks, hml, hE, hK, hA⟩ := X
  intro H locs ls hl hP hD hS
  have hl : lv_has ls 3 [(0, .ref h0), (1, .ref (a 26))] := hl
  have hP : va_P (dC, dI) classes (s_c k a f_c g_c ++ (P)) H := hP
  have hD : va_D A (s_c k a f_c g_c ++ (P)) := hD
  show W p l e (z_rm 0 0 0) s m args below meth c H locs c0 s0 _ (F0 m 0 ls [])
  refine lv_aload_n hx hb d_Te_holds_0 rfl (lv_at hl 0 rfl) ?_
  refine va_get (D := (dC, dI)) (ci := 9) (v := .int ab) (C := R_Te) (T := F_Te) (N := 3) hx hb htz i_Te hown hK hP (i1 + 3) hf rfl 0 (by decide) (htz _ kf_Te_9) (fun _ h9 => h9) rfl d_Te_holds_1 ?_
  refine lv_if_ne (tgt := 14) hx hb d_Te_holds_4 (by decide) (fun c_4 => ?_) (fun c_4 => ?_)
  · refine lv_aload_n hx hb d_Te_holds_14 rfl (lv_at hl 1 rfl) ?_
    refine va_getN (D := (dC, dI)) (ci := 2) (v := .ref (a 28)) (C := R_Ca) (T := F_Ca) (N := 6) hx hb htz i_Ca hown hK hP 0 rfl rfl 1 (by decide) (va_Nw.use rfl (hE.2.1 _ kf_Te_26)) (fun _ h9 => h9) rfl d_Te_holds_15 ?_
    refine lv_aload_n hx hb d_Te_holds_18 rfl (lv_at hl 0 rfl) ?_
    refine va_get (D := (dC, dI)) (ci := 9) (v := .int ab) (C := R_Te) (T := F_Te) (N := 3) hx hb htz i_Te hown hK hP (i1 + 3) hf rfl 0 (by decide) (htz _ kf_Te_9) (fun _ h9 => h9) rfl d_Te_holds_19 ?_
    refine va_iald hx hb hK hP 2 0 rfl rfl (h_22 c_4) d_Te_holds_22 ?_
    exact (k_23 c_4) H locs ls (lv_sub hl [0, 1] rfl) hP hD hS
  · refine lv_aload_n hx hb d_Te_holds_7 rfl (lv_at hl 1 rfl) ?_
    refine va_getN (D := (dC, dI)) (ci := 2) (v := .int (f_c 2)) (C := R_Ca) (T := F_Ca) (N := 6) hx hb htz i_Ca hown hK hP 0 rfl rfl 4 (by decide) (va_Nw.use rfl (hE.2.1 _ kf_Te_21)) (fun _ h9 => h9) rfl d_Te_holds_8 ?_
    refine lv_goto (tgt := 23) hx hb d_Te_holds_11 (by decide) ?_
    exact (k_23_1 c_4) H locs ls (lv_sub hl [0, 1] rfl) hP hD hS
set_option maxHeartbeats 1000000 in
set_option maxRecDepth 100000 in
theorem k_Te_holds_23 {C : CT} (X : cM C "QuestionText$Term" b_Te_holds 3 (some .boolean)) (Post : Int32 → va_W → Prop) (y0 : Int32) (f_c : FT) (g_c : GT) (P : va_W) (h0 : Nat) (ab : Int32) (re : Int32) (va : Int32) (i1 : Nat) (c0 s0 : Nat) (hf : P[i1]? = some (h0, .inr (9, [.int ab, .int re, .int va])))
    (k_73 : (¬ y0 = (-1)) → (re = 60) → (va ≤ y0) → zc_Te_holds C Post c0 s0 73 [(0, .ref h0), (1, .ref (ad C.1 26)), (2, .int y0)] [.int 0] (s_c C.1.2.2.2.1 C.1.2.2.2.2 f_c g_c ++ (P)))
    (k_73_1 : (¬ y0 = (-1)) → (re = 60) → (¬ va ≤ y0) → zc_Te_holds C Post c0 s0 73 [(0, .ref h0), (1, .ref (ad C.1 26)), (2, .int y0)] [.int 1] (s_c C.1.2.2.2.1 C.1.2.2.2.2 f_c g_c ++ (P)))
    (k_87 : (¬ y0 = (-1)) → (¬ re = 60) → (re = 62) → (y0 ≤ va) → zc_Te_holds C Post c0 s0 87 [(0, .ref h0), (1, .ref (ad C.1 26)), (2, .int y0)] [.int 0] (s_c C.1.2.2.2.1 C.1.2.2.2.2 f_c g_c ++ (P)))
    (k_87_1 : (¬ y0 = (-1)) → (¬ re = 60) → (re = 62) → (¬ y0 ≤ va) → zc_Te_holds C Post c0 s0 87 [(0, .ref h0), (1, .ref (ad C.1 26)), (2, .int y0)] [.int 1] (s_c C.1.2.2.2.1 C.1.2.2.2.2 f_c g_c ++ (P)))
    (k_101 : (¬ y0 = (-1)) → (¬ re = 60) → (¬ re = 62) → (¬ y0 = va) → zc_Te_holds C Post c0 s0 101 [(0, .ref h0), (1, .ref (ad C.1 26)), (2, .int y0)] [.int 0] (s_c C.1.2.2.2.1 C.1.2.2.2.2 f_c g_c ++ (P)))
    (k_101_1 : (¬ y0 = (-1)) → (¬ re = 60) → (¬ re = 62) → (y0 = va) → zc_Te_holds C Post c0 s0 101 [(0, .ref h0), (1, .ref (ad C.1 26)), (2, .int y0)] [.int 1] (s_c C.1.2.2.2.1 C.1.2.2.2.2 f_c g_c ++ (P)))
    (b_30 : (y0 = (-1)) → c0 ≤ 0 ∧ s0 ≤ 0)
    (q_30 : (y0 = (-1)) → Post (0) (s_c C.1.2.2.2.1 C.1.2.2.2.2 f_c g_c ++ (P))) : zc_Te_holds C Post c0 s0 23 [(0, .ref h0), (1, .ref (ad C.1 26))] [.int y0] (s_c C.1.2.2.2.1 C.1.2.2.2.2 f_c g_c ++ (P)) := by
  obtain ⟨⟨l, dC, dI, k, a⟩, p, e, s, m, args, below, meth, c, A⟩ := C
  obtain ⟨hx, hb, hr, htz, hown, hlocks, hml, hE, hK, hA⟩ := X
  intro H locs ls hl hP hD hS
  have hl : lv_has ls 3 [(0, .ref h0), (1, .ref (a 26))] := hl
  have hP : va_P (dC, dI) classes (s_c k a f_c g_c ++ (P)) H := hP
  have hD : va_D A (s_c k a f_c g_c ++ (P)) := hD
  show W p l e (z_rm 0 0 0) s m args below meth c H locs c0 s0 _ (F0 m 23 ls [.int y0])
  refine lv_istore_n (lv' := [(2, .int y0), (0, .ref h0), (1, .ref (a 26))]) hx hb d_Te_holds_23 rfl hl (by decide) rfl (fun ls hl => ?_)
  refine lv_iload_n hx hb d_Te_holds_24 rfl (lv_at hl 0 rfl) ?_
  refine lv_iconst (v := -1) hx hb d_Te_holds_25 (by decide) ?_
  refine lv_icmp_ne (tgt := 31) hx hb d_Te_holds_26 (by decide) (fun c_26 => ?_) (fun c_26 => ?_)
  · refine lv_aload_n hx hb d_Te_holds_31 rfl (lv_at hl 1 rfl) ?_
    refine va_get (D := (dC, dI)) (ci := 9) (v := .int re) (C := R_Te) (T := F_Te) (N := 3) hx hb htz i_Te hown hK hP (i1 + 3) hf rfl 1 (by decide) (htz _ kf_Te_15) (fun _ h9 => h9) rfl d_Te_holds_32 ?_
    by_cases c_35_0 : re = 60
    · refine lv_lookup (off := 25) (tgt := 60) hx hb d_Te_holds_35 (by decide) (show Op.lookupswitch.offset [(60, 25), (62, 39)] 53 (re : Int32).toInt = 25 from by rw [c_35_0]; decide +kernel) (by decide) ?_
      refine lv_iload_n hx hb d_Te_holds_60 rfl (lv_at hl 0 rfl) ?_
      refine lv_aload_n hx hb d_Te_holds_61 rfl (lv_at hl 1 rfl) ?_
      refine va_get (D := (dC, dI)) (ci := 9) (v := .int va) (C := R_Te) (T := F_Te) (N := 3) hx hb htz i_Te hown hK hP (i1 + 3) hf rfl 2 (by decide) (htz _ kf_Te_18) (fun _ h9 => h9) rfl d_Te_holds_62 ?_
      refine lv_icmp_ge (tgt := 72) hx hb d_Te_holds_65 (by decide) (fun c_65 => ?_) (fun c_65 => ?_)
      · refine lv_iconst (v := 0) hx hb d_Te_holds_72 (by decide) ?_
        exact (k_73 c_26 c_35_0 c_65) H locs ls (lv_sub hl [1, 2, 0] rfl) hP hD hS
      · refine lv_iconst (v := 1) hx hb d_Te_holds_68 (by decide) ?_
        refine lv_goto (tgt := 73) hx hb d_Te_holds_69 (by decide) ?_
        exact (k_73_1 c_26 c_35_0 c_65) H locs ls (lv_sub hl [1, 2, 0] rfl) hP hD hS
    · by_cases c_35_1 : re = 62
      · refine lv_lookup (off := 39) (tgt := 74) hx hb d_Te_holds_35 (by decide) (show Op.lookupswitch.offset [(60, 25), (62, 39)] 53 (re : Int32).toInt = 39 from by rw [lv_osw (k := 60) c_35_0 (by decide +kernel)]; rw [c_35_1]; decide +kernel) (by decide) ?_
        refine lv_iload_n hx hb d_Te_holds_74 rfl (lv_at hl 0 rfl) ?_
        refine lv_aload_n hx hb d_Te_holds_75 rfl (lv_at hl 1 rfl) ?_
        refine va_get (D := (dC, dI)) (ci := 9) (v := .int va) (C := R_Te) (T := F_Te) (N := 3) hx hb htz i_Te hown hK hP (i1 + 3) hf rfl 2 (by decide) (htz _ kf_Te_18) (fun _ h9 => h9) rfl d_Te_holds_76 ?_
        refine lv_icmp_le (tgt := 86) hx hb d_Te_holds_79 (by decide) (fun c_79 => ?_) (fun c_79 => ?_)
        · refine lv_iconst (v := 0) hx hb d_Te_holds_86 (by decide) ?_
          exact (k_87 c_26 c_35_0 c_35_1 c_79) H locs ls (lv_sub hl [1, 2, 0] rfl) hP hD hS
        · refine lv_iconst (v := 1) hx hb d_Te_holds_82 (by decide) ?_
          refine lv_goto (tgt := 87) hx hb d_Te_holds_83 (by decide) ?_
          exact (k_87_1 c_26 c_35_0 c_35_1 c_79) H locs ls (lv_sub hl [1, 2, 0] rfl) hP hD hS
      · refine lv_lookup (off := 53) (tgt := 88) hx hb d_Te_holds_35 (by decide) (show Op.lookupswitch.offset [(60, 25), (62, 39)] 53 (re : Int32).toInt = 53 from by rw [lv_osw (k := 60) c_35_0 (by decide +kernel)]; rw [lv_osw (k := 62) c_35_1 (by decide +kernel)]; rfl) (by decide) ?_
        refine lv_iload_n hx hb d_Te_holds_88 rfl (lv_at hl 0 rfl) ?_
        refine lv_aload_n hx hb d_Te_holds_89 rfl (lv_at hl 1 rfl) ?_
        refine va_get (D := (dC, dI)) (ci := 9) (v := .int va) (C := R_Te) (T := F_Te) (N := 3) hx hb htz i_Te hown hK hP (i1 + 3) hf rfl 2 (by decide) (htz _ kf_Te_18) (fun _ h9 => h9) rfl d_Te_holds_90 ?_
        refine lv_icmp_ne (tgt := 100) hx hb d_Te_holds_93 (by decide) (fun c_93 => ?_) (fun c_93 => ?_)
        · refine lv_iconst (v := 0) hx hb d_Te_holds_100 (by decide) ?_
          exact (k_101 c_26 c_35_0 c_35_1 c_93) H locs ls (lv_sub hl [1, 2, 0] rfl) hP hD hS
        · refine lv_iconst (v := 1) hx hb d_Te_holds_96 (by decide) ?_
          refine lv_goto (tgt := 101) hx hb d_Te_holds_97 (by decide) ?_
          exact (k_101_1 c_26 c_35_0 c_35_1 c_93) H locs ls (lv_sub hl [1, 2, 0] rfl) hP hD hS
  · refine lv_iconst (v := 0) hx hb d_Te_holds_29 (by decide) ?_
    refine W.widen (k := 0) (n := 0) (b_30 c_26).1 (b_30 c_26).2 ?_
    exact W.zret (v := 0) (ty := .boolean) hx hb hr rfl (fun t ht hW => ⟨⟨_, (s_c k a f_c g_c ++ (P)), rfl, (q_30 c_26), by rw [ht]; exact hP, va_K.moved hW.alike hK, hD⟩, hS.F ht⟩) hS.2.2 d_Te_holds_30
set_option maxHeartbeats 1000000 in
set_option maxRecDepth 100000 in
theorem k_Te_holds_73 {C : CT} (X : cM C "QuestionText$Term" b_Te_holds 3 (some .boolean)) (Post : Int32 → va_W → Prop) (x2 : Int32) (y0 : Int32) (f_c : FT) (g_c : GT) (P : va_W) (h0 : Nat) (ab : Int32) (re : Int32) (va : Int32) (i1 : Nat) (c0 s0 : Nat) (hf : P[i1]? = some (h0, .inr (9, [.int ab, .int re, .int va])))
    (b_73 : c0 ≤ 0 ∧ s0 ≤ 0)
    (q_73 : Post (y0) (s_c C.1.2.2.2.1 C.1.2.2.2.2 f_c g_c ++ (P)))
    (z_73 : narrow .boolean (.int (y0)) = .int (y0)) : zc_Te_holds C Post c0 s0 73 [(0, .ref h0), (1, .ref (ad C.1 26)), (2, .int x2)] [.int y0] (s_c C.1.2.2.2.1 C.1.2.2.2.2 f_c g_c ++ (P)) := by
  obtain ⟨⟨l, dC, dI, k, a⟩, p, e, s, m, args, below, meth, c, A⟩ := C
  obtain ⟨hx, hb, hr, htz, hown, hlocks, hml, hE, hK, hA⟩ := X
  intro H locs ls hl hP hD hS
  have hl : lv_has ls 3 [(0, .ref h0), (1, .ref (a 26)), (2, .int x2)] := hl
  have hP : va_P (dC, dI) classes (s_c k a f_c g_c ++ (P)) H := hP
  have hD : va_D A (s_c k a f_c g_c ++ (P)) := hD
  show W p l e (z_rm 0 0 0) s m args below meth c H locs c0 s0 _ (F0 m 73 ls [.int y0])
  refine W.widen (k := 0) (n := 0) b_73.1 b_73.2 ?_
  exact W.zret (v := y0) (ty := .boolean) hx hb hr z_73 (fun t ht hW => ⟨⟨_, (s_c k a f_c g_c ++ (P)), rfl, q_73, by rw [ht]; exact hP, va_K.moved hW.alike hK, hD⟩, hS.F ht⟩) hS.2.2 d_Te_holds_73
set_option maxHeartbeats 1000000 in
set_option maxRecDepth 100000 in
theorem k_Te_holds_87 {C : CT} (X : cM C "QuestionText$Term" b_Te_holds 3 (some .boolean)) (Post : Int32 → va_W → Prop) (x2 : Int32) (y0 : Int32) (f_c : FT) (g_c : GT) (P : va_W) (h0 : Nat) (ab : Int32) (re : Int32) (va : Int32) (i1 : Nat) (c0 s0 : Nat) (hf : P[i1]? = some (h0, .inr (9, [.int ab, .int re, .int va])))
    (b_87 : c0 ≤ 0 ∧ s0 ≤ 0)
    (q_87 : Post (y0) (s_c C.1.2.2.2.1 C.1.2.2.2.2 f_c g_c ++ (P)))
    (z_87 : narrow .boolean (.int (y0)) = .int (y0)) : zc_Te_holds C Post c0 s0 87 [(0, .ref h0), (1, .ref (ad C.1 26)), (2, .int x2)] [.int y0] (s_c C.1.2.2.2.1 C.1.2.2.2.2 f_c g_c ++ (P)) := by
  obtain ⟨⟨l, dC, dI, k, a⟩, p, e, s, m, args, below, meth, c, A⟩ := C
  obtain ⟨hx, hb, hr, htz, hown, hlocks, hml, hE, hK, hA⟩ := X
  intro H locs ls hl hP hD hS
  have hl : lv_has ls 3 [(0, .ref h0), (1, .ref (a 26)), (2, .int x2)] := hl
  have hP : va_P (dC, dI) classes (s_c k a f_c g_c ++ (P)) H := hP
  have hD : va_D A (s_c k a f_c g_c ++ (P)) := hD
  show W p l e (z_rm 0 0 0) s m args below meth c H locs c0 s0 _ (F0 m 87 ls [.int y0])
  refine W.widen (k := 0) (n := 0) b_87.1 b_87.2 ?_
  exact W.zret (v := y0) (ty := .boolean) hx hb hr z_87 (fun t ht hW => ⟨⟨_, (s_c k a f_c g_c ++ (P)), rfl, q_87, by rw [ht]; exact hP, va_K.moved hW.alike hK, hD⟩, hS.F ht⟩) hS.2.2 d_Te_holds_87
set_option maxHeartbeats 1000000 in
set_option maxRecDepth 100000 in
theorem k_Te_holds_101 {C : CT} (X : cM C "QuestionText$Term" b_Te_holds 3 (some .boolean)) (Post : Int32 → va_W → Prop) (x2 : Int32) (y0 : Int32) (f_c : FT) (g_c : GT) (P : va_W) (h0 : Nat) (ab : Int32) (re : Int32) (va : Int32) (i1 : Nat) (c0 s0 : Nat) (hf : P[i1]? = some (h0, .inr (9, [.int ab, .int re, .int va])))
    (b_101 : c0 ≤ 0 ∧ s0 ≤ 0)
    (q_101 : Post (y0) (s_c C.1.2.2.2.1 C.1.2.2.2.2 f_c g_c ++ (P)))
    (z_101 : narrow .boolean (.int (y0)) = .int (y0)) : zc_Te_holds C Post c0 s0 101 [(0, .ref h0), (1, .ref (ad C.1 26)), (2, .int x2)] [.int y0] (s_c C.1.2.2.2.1 C.1.2.2.2.2 f_c g_c ++ (P)) := by
  obtain ⟨⟨l, dC, dI, k, a⟩, p, e, s, m, args, below, meth, c, A⟩ := C
  obtain ⟨hx, hb, hr, htz, hown, hlocks, hml, hE, hK, hA⟩ := X
  intro H locs ls hl hP hD hS
  have hl : lv_has ls 3 [(0, .ref h0), (1, .ref (a 26)), (2, .int x2)] := hl
  have hP : va_P (dC, dI) classes (s_c k a f_c g_c ++ (P)) H := hP
  have hD : va_D A (s_c k a f_c g_c ++ (P)) := hD
  show W p l e (z_rm 0 0 0) s m args below meth c H locs c0 s0 _ (F0 m 101 ls [.int y0])
  refine W.widen (k := 0) (n := 0) b_101.1 b_101.2 ?_
  exact W.zret (v := y0) (ty := .boolean) hx hb hr z_101 (fun t ht hW => ⟨⟨_, (s_c k a f_c g_c ++ (P)), rfl, q_101, by rw [ht]; exact hP, va_K.moved hW.alike hK, hD⟩, hS.F ht⟩) hS.2.2 d_Te_holds_101
set_option maxHeartbeats 1000000 in
set_option maxRecDepth 100000 in
theorem e_Te_holds (T : ST) (Post : Int32 → va_W → Prop) (f_c : FT) (g_c : GT) (P : va_W) (h0 : Nat) (ab : Int32) (re : Int32) (va : Int32) (h : ∀ C : CT, C.1 = T → cM C "QuestionText$Term" b_Te_holds 3 (some .boolean) → zc_Te_holds C Post 0 0 0 [(0, .ref h0), (1, .ref (ad C.1 26))] [] (s_c C.1.2.2.2.1 C.1.2.2.2.2 f_c g_c ++ (P))) : uI T y_Te_holds (Cond.code y_Te_holds b_Te_holds 3 (some .boolean)) 0 0 0 [.ref h0, .ref (ad T 26)] (s_c T.2.2.2.1 T.2.2.2.2 f_c g_c ++ (P)) Post := by
  obtain ⟨l, dC, dI, k, a⟩ := T
  intro sz
  refine Met.ofW (cc := b_Te_holds) (maxL := 3) (ret := (some .boolean)) (by decide) rfl ?_
  intro p e s m args below meth c s₁ B hml hv
  obtain ⟨rfl, hsz, hE, hP, hK, hD0⟩ := hv
  have hts := atoms_spec (ws := (Cond.code y_Te_holds b_Te_holds 3 (some .boolean)) :: z_T) B.pre
  have htz : ∀ w ∈ z_T, w.before _ s = true := fun w h => hts w (z_cons w h)
  subst hsz
  have hD := hD0.self (sz := s.heap.size)
  generalize hAe : va_A (s_c k a f_c g_c ++ (P)) s.heap.size = A at hD hE ⊢
  have hA : ∀ q : Nat, s.heap.size ≤ q → A q := fun q h => by rw [← hAe]; exact Or.inr h
  have hl := lv_entry ([.ref h0, .ref (a 26)]) (n := 3) (Nat.le_of_ble_eq_true rfl)
  rw [lg_entry_eq]
  generalize (lg_sl ([.ref h0, .ref (a 26)]) ++ List.replicate (3 - (lg_sl ([.ref h0, .ref (a 26)])).length) Slot.unset).toArray = ls at hl ⊢
  exact h ((l, dC, dI, k, a), p, e, s, m, ([.ref h0, .ref (a 26)] : List Value).toArray, below, meth, c, A) rfl ⟨B.exec, B.bytes, B.returns, htz, findClass_of_methodNamed B.named, B.notSynchronized, hml, hE, hK, hA⟩ s.heap [] ls hl hP hD va_S.rf
def zc_Co_holds (C : CT) (Post : Int32 → va_W → Prop) (c0 s0 pc : Nat) (loc : List (Nat × Value)) (st : List Value) (ws : va_W) : Prop := zW C (z_rm 3 0 0) 3 (oI C 0 0 Post) c0 s0 pc loc st ws
set_option maxHeartbeats 1000000 in
set_option maxRecDepth 100000 in
theorem k_Co_holds_0 {C : CT} (X : cM C "QuestionText$Condition" b_Co_holds 3 (some .boolean)) (Post : Int32 → va_W → Prop) (f_c : FT) (g_c : GT) (P : va_W) (h0 : Nat) (l1 : Nat) (pc : Int32) (i1 : Nat) (c0 s0 : Nat) (hf : P[i1]? = some (h0, .inr (10, [.ref l1, .int pc])))
    (k_2 : zc_Co_holds C Post c0 s0 2 [(0, .ref h0), (1, .ref (ad C.1 26)), (2, .int 0)] [] (s_c C.1.2.2.2.1 C.1.2.2.2.2 f_c g_c ++ (P))) : zc_Co_holds C Post c0 s0 0 [(0, .ref h0), (1, .ref (ad C.1 26))] [] (s_c C.1.2.2.2.1 C.1.2.2.2.2 f_c g_c ++ (P)) := by
  obtain ⟨⟨l, dC, dI, k, a⟩, p, e, s, m, args, below, meth, c, A⟩ := C
  obtain ⟨hx, hb, hr, htz, hown, hlocks, hml, hE, hK, hA⟩ := X
  intro H locs ls hl hP hD hS
  have hl : lv_has ls 3 [(0, .ref h0), (1, .ref (a 26))] := hl
  have hP : va_P (dC, dI) classes (s_c k a f_c g_c ++ (P)) H := hP
  have hD : va_D A (s_c k a f_c g_c ++ (P)) := hD
  show W p l e (z_rm 3 0 0) s m args below meth c H locs c0 s0 _ (F0 m 0 ls [])
  refine lv_iconst (v := 0) hx hb d_Co_holds_0 (by decide) ?_
  refine lv_istore_n (lv' := [(2, .int 0), (0, .ref h0), (1, .ref (a 26))]) hx hb d_Co_holds_1 rfl hl (by decide) rfl (fun ls hl => ?_)
  exact k_2 H locs ls (lv_sub hl [1, 2, 0] rfl) hP hD hS
set_option maxHeartbeats 1000000 in
set_option maxRecDepth 100000 in
theorem k_Co_holds_2 {C : CT} (X : cM C "QuestionText$Condition" b_Co_holds 3 (some .boolean)) (Post : Int32 → va_W → Prop) {P_7 : Int32 → va_W → Prop} (x2 : Int32) (f_c : FT) (g_c : GT) (P : va_W) (h0 : Nat) (l1 : Nat) (pc : Int32) (i1 : Nat) (c0 s0 : Nat) (hf : P[i1]? = some (h0, .inr (10, [.ref l1, .int pc])))
    (b_7 : c0 ≤ 0 ∧ s0 ≤ 0)
    (m_7 : uI C.1 y_AL_size (Cond.code y_AL_size b_AL_size 1 (some .int)) 0 0 0 [.ref l1] (P) P_7)
    (k_7 : ∀ (r : Int32) (u : va_W), P_7 r u → zc_Co_holds C Post c0 s0 12 [(0, .ref h0), (1, .ref (ad C.1 26)), (2, .int x2)] [.int r, .int x2] (s_c C.1.2.2.2.1 C.1.2.2.2.2 f_c g_c ++ (u)))
    (r_7 : ∃ (i : Nat) (fs : List Value), P[i]? = some (l1, .inr (11, fs))) : zc_Co_holds C Post c0 s0 2 [(0, .ref h0), (1, .ref (ad C.1 26)), (2, .int x2)] [] (s_c C.1.2.2.2.1 C.1.2.2.2.2 f_c g_c ++ (P)) := by
  obtain ⟨⟨l, dC, dI, k, a⟩, p, e, s, m, args, below, meth, c, A⟩ := C
  obtain ⟨hx, hb, hr, htz, hown, hlocks, hml, hE, hK, hA⟩ := X
  intro H locs ls hl hP hD hS
  have hl : lv_has ls 3 [(0, .ref h0), (1, .ref (a 26)), (2, .int x2)] := hl
  have hP : va_P (dC, dI) classes (s_c k a f_c g_c ++ (P)) H := hP
  have hD : va_D A (s_c k a f_c g_c ++ (P)) := hD
  show W p l e (z_rm 3 0 0) s m args below meth c H locs c0 s0 _ (F0 m 2 ls [])
  refine lv_iload_n hx hb d_Co_holds_2 rfl (lv_at hl 2 rfl) ?_
  refine lv_aload_n hx hb d_Co_holds_3 rfl (lv_at hl 0 rfl) ?_
  refine va_get (D := (dC, dI)) (ci := 10) (v := .ref l1) (C := R_Co) (T := F_Co) (N := 2) hx hb htz i_Co hown hK hP (i1 + 3) hf rfl 0 (by decide) (htz _ kf_Co_7) (fun _ h9 => h9) rfl d_Co_holds_4 ?_
  have hPf : va_P (dC, dI) classes ((s_c k a f_c g_c) ++ ((P) ++ ([]))) H := by rw [List.append_nil]; exact hP
  have hDf : va_D A ((s_c k a f_c g_c) ++ ((P) ++ ([]))) := by rw [List.append_nil]; exact hD
  have hFc := zfree hDf hS hA
  obtain ⟨i9, fs9, h9r⟩ := r_7
  have h9a := h9r
  refine va_callFi (va_runF (hK.1 11 _ rfl).2 (As := []) (rest := [.int x2]) ⟨hx, hb, hml, hown, htz⟩ (m_7 H.size) (va_cwF 0 htz (z_gF (fun _ h => h) km_Co_17 sx_AL_size in_AL_size ini_AL m_AL_size) rfl rfl rfl (hE.1.1 (⟨"java/util/List", "size", "()I"⟩, y_AL_size) (by decide +kernel)) (by decide +kernel) ⟨(Nat.le_of_ble_eq_true rfl), (Nat.le_of_ble_eq_true rfl)⟩) ⟨z_blind, va_recv hK (zPc hPf) (ci := 11) (q0 := i9) rfl h9a, fun U hU hW => ⟨rfl, by rw [hU], hE.call hS hFc hU hW, by rw [hU]; exact (zPc hPf), va_K.moved hW.alike hK, (zDc hDf)⟩⟩ rfl rfl hl.1 rfl (lv_room (Nat.le_of_ble_eq_true rfl)) d_Co_holds_7 b_7) hS (fun q _ h => hFc q h) hFc (fun r u t H1 locs ht hvm hw hB hz1 hk1 hS => ?_)
  obtain ⟨hP1, hK1, hD1⟩ := hB
  rw [ht] at hP1
  obtain ⟨hP, hD⟩ := zf hPf hDf hk1 hFc hP1 hD1
  rw [List.append_nil] at hP hD
  exact k_7 r _ hw H1 locs ls (lv_sub hl [0, 1, 2] rfl) hP hD hS
set_option maxHeartbeats 1000000 in
set_option maxRecDepth 100000 in
theorem k_Co_holds_12 {C : CT} (X : cM C "QuestionText$Condition" b_Co_holds 3 (some .boolean)) (Post : Int32 → va_W → Prop) {P_20 : Option Nat → va_W → Prop} (x2 : Int32) (y0 : Int32) (y1 : Int32) (f_c : FT) (g_c : GT) (P : va_W) (h0 : Nat) (l1 : Nat) (pc : Int32) (i1 : Nat) (c0 s0 : Nat) (hf : P[i1]? = some (h0, .inr (10, [.ref l1, .int pc])))
    (b_44 : (y0 ≤ y1) → c0 ≤ 0 ∧ s0 ≤ 0)
    (q_44 : (y0 ≤ y1) → Post (1) (s_c C.1.2.2.2.1 C.1.2.2.2.2 f_c g_c ++ (P)))
    (b_20 : (¬ y0 ≤ y1) → c0 ≤ 0 ∧ s0 ≤ 0)
    (m_20 : (¬ y0 ≤ y1) → uR C.1 y_AL_get (Cond.code y_AL_get b_AL_get 2 (some (.object "java/lang/Object"))) 2 0 0 [.ref l1, .int x2] (P) P_20)
    (k_20 : (¬ y0 ≤ y1) → ∀ (r : Option Nat) (u : va_W), P_20 r u → zc_Co_holds C Post c0 s0 25 [(0, .ref h0), (1, .ref (ad C.1 26)), (2, .int x2)] [va_rf r] (s_c C.1.2.2.2.1 C.1.2.2.2.2 f_c g_c ++ (u)))
    (r_20 : (¬ y0 ≤ y1) → ∃ (i : Nat) (fs : List Value), P[i]? = some (l1, .inr (11, fs))) : zc_Co_holds C Post c0 s0 12 [(0, .ref h0), (1, .ref (ad C.1 26)), (2, .int x2)] [.int y0, .int y1] (s_c C.1.2.2.2.1 C.1.2.2.2.2 f_c g_c ++ (P)) := by
  obtain ⟨⟨l, dC, dI, k, a⟩, p, e, s, m, args, below, meth, c, A⟩ := C
  obtain ⟨hx, hb, hr, htz, hown, hlocks, hml, hE, hK, hA⟩ := X
  intro H locs ls hl hP hD hS
  have hl : lv_has ls 3 [(0, .ref h0), (1, .ref (a 26)), (2, .int x2)] := hl
  have hP : va_P (dC, dI) classes (s_c k a f_c g_c ++ (P)) H := hP
  have hD : va_D A (s_c k a f_c g_c ++ (P)) := hD
  show W p l e (z_rm 3 0 0) s m args below meth c H locs c0 s0 _ (F0 m 12 ls [.int y0, .int y1])
  refine lv_icmp_ge (tgt := 43) hx hb d_Co_holds_12 (by decide) (fun c_12 => ?_) (fun c_12 => ?_)
  · refine lv_iconst (v := 1) hx hb d_Co_holds_43 (by decide) ?_
    refine W.widen (k := 0) (n := 0) (b_44 c_12).1 (b_44 c_12).2 ?_
    exact W.zret (v := 1) (ty := .boolean) hx hb hr rfl (fun t ht hW => ⟨⟨_, (s_c k a f_c g_c ++ (P)), rfl, (q_44 c_12), by rw [ht]; exact hP, va_K.moved hW.alike hK, hD⟩, hS.F ht⟩) hS.2.2 d_Co_holds_44
  · refine lv_aload_n hx hb d_Co_holds_15 rfl (lv_at hl 0 rfl) ?_
    refine va_get (D := (dC, dI)) (ci := 10) (v := .ref l1) (C := R_Co) (T := F_Co) (N := 2) hx hb htz i_Co hown hK hP (i1 + 3) hf rfl 0 (by decide) (htz _ kf_Co_7) (fun _ h9 => h9) rfl d_Co_holds_16 ?_
    refine lv_iload_n hx hb d_Co_holds_19 rfl (lv_at hl 2 rfl) ?_
    have hPf : va_P (dC, dI) classes ((s_c k a f_c g_c) ++ ((P) ++ ([]))) H := by rw [List.append_nil]; exact hP
    have hDf : va_D A ((s_c k a f_c g_c) ++ ((P) ++ ([]))) := by rw [List.append_nil]; exact hD
    have hFc := zfree hDf hS hA
    obtain ⟨i9, fs9, h9r⟩ := (r_20 c_12)
    have h9a := h9r
    refine va_callFq (va_runF (hK.1 11 _ rfl).2 (As := [.int x2]) (rest := []) ⟨hx, hb, hml, hown, htz⟩ ((m_20 c_12) H.size) (va_cwF 1 htz (z_gF (fun _ h => h) km_Co_23 sx_AL_get in_AL_get ini_AL m_AL_get) rfl rfl rfl (hE.1.1 (⟨"java/util/List", "get", "(I)Ljava/lang/Object;"⟩, y_AL_get) (by decide +kernel)) (by decide +kernel) ⟨(Nat.le_of_ble_eq_true rfl), (Nat.le_of_ble_eq_true rfl)⟩) ⟨z_blind, va_recv hK (zPc hPf) (ci := 11) (q0 := i9) rfl h9a, fun U hU hW => ⟨rfl, by rw [hU], hE.call hS hFc hU hW, by rw [hU]; exact (zPc hPf), va_K.moved hW.alike hK, (zDc hDf)⟩⟩ rfl rfl hl.1 rfl (lv_room (Nat.le_of_ble_eq_true rfl)) d_Co_holds_20 (b_20 c_12)) hS (fun q _ h => hFc q h) hFc (fun r u t H1 locs ht hvm hw hB hz1 hk1 hS => ?_)
    obtain ⟨hP1, hK1, hD1⟩ := hB
    rw [ht] at hP1
    obtain ⟨hP, hD⟩ := zf hPf hDf hk1 hFc hP1 hD1
    rw [List.append_nil] at hP hD
    exact (k_20 c_12) r _ hw H1 locs ls (lv_sub hl [0, 1, 2] rfl) hP hD hS
set_option maxHeartbeats 1000000 in
set_option maxRecDepth 100000 in
theorem k_Co_holds_25 {C : CT} (X : cM C "QuestionText$Condition" b_Co_holds 3 (some .boolean)) (Post : Int32 → va_W → Prop) {P_29 : Int32 → va_W → Prop} (x2 : Int32) (y0 : Nat) (f_c : FT) (g_c : GT) (P : va_W) (h0 : Nat) (l1 : Nat) (pc : Int32) (ab : Int32) (re : Int32) (va : Int32) (i1 : Nat) (i2 : Nat) (c0 s0 : Nat) (hf : P[i1]? = some (h0, .inr (10, [.ref l1, .int pc]))) (ht : P[i2]? = some (y0, .inr (9, [.int ab, .int re, .int va])))
    (b_29 : c0 ≤ 0 ∧ s0 ≤ 0)
    (m_29 : uI C.1 y_Te_holds (Cond.code y_Te_holds b_Te_holds 3 (some .boolean)) 0 0 0 [.ref y0, .ref (ad C.1 26)] (s_c C.1.2.2.2.1 C.1.2.2.2.2 f_c g_c ++ (P)) P_29)
    (k_29 : ∀ (r : Int32) (u : va_W), P_29 r u → zc_Co_holds C Post c0 s0 32 [(0, .ref h0), (1, .ref (ad C.1 26)), (2, .int x2)] [.int r] (u)) : zc_Co_holds C Post c0 s0 25 [(0, .ref h0), (1, .ref (ad C.1 26)), (2, .int x2)] [.ref y0] (s_c C.1.2.2.2.1 C.1.2.2.2.2 f_c g_c ++ (P)) := by
  obtain ⟨⟨l, dC, dI, k, a⟩, p, e, s, m, args, below, meth, c, A⟩ := C
  obtain ⟨hx, hb, hr, htz, hown, hlocks, hml, hE, hK, hA⟩ := X
  intro H locs ls hl hP hD hS
  have hl : lv_has ls 3 [(0, .ref h0), (1, .ref (a 26)), (2, .int x2)] := hl
  have hP : va_P (dC, dI) classes (s_c k a f_c g_c ++ (P)) H := hP
  have hD : va_D A (s_c k a f_c g_c ++ (P)) := hD
  show W p l e (z_rm 3 0 0) s m args below meth c H locs c0 s0 _ (F0 m 25 ls [.ref y0])
  refine va_castY hx hb hown (htz _ kc_Co_27) (hE.2.1 _ cs_Te) (va_recv hK hP (ci := 9) (q0 := (i2 + 3)) rfl ht) d_Co_holds_25 ?_
  refine lv_aload_n hx hb d_Co_holds_28 rfl (lv_at hl 1 rfl) ?_
  have hFc : ∀ q, va_A (s_c k a f_c g_c ++ (P)) H.size q → A q := fun q h => h.elim (fun z => by obtain ⟨i9, e9, h9⟩ := z; exact hD.2 i9 _ h9) (fun z => hA q (Nat.le_trans hS.1 z))
  refine va_calli (va_runV (As := [.ref (a 26)]) (rest := []) ⟨hx, hb, hml, hown, htz⟩ (m_29 H.size) (cwV 1 htz (z_gV (fun _ h => h) km_Co_29 in_Te_holds se_Te_holds ini_Te m_Te_holds) rfl rfl rfl (by decide +kernel) ⟨(Nat.le_of_ble_eq_true rfl), (Nat.le_of_ble_eq_true rfl)⟩) ⟨z_blind, va_recv hK hP (ci := 9) (q0 := (i2 + 3)) rfl ht, fun U hU hW => ⟨rfl, by rw [hU], hE.call hS hFc hU hW, by rw [hU]; exact hP, va_K.moved hW.alike hK, (hD.weaken (fun _ _ _ _ => trivial))⟩⟩ rfl rfl hl.1 rfl (lv_room (Nat.le_of_ble_eq_true rfl)) d_Co_holds_29 b_29) hS (fun q _ h => hFc q h) hFc (fun r u t H1 locs ht hvm hw hB hz1 hk1 hS => ?_)
  obtain ⟨hP1, hK1, hD1⟩ := hB
  rw [ht] at hP1
  have hP := hP1
  have hD := hD1.weaken (fun _ q _ h => hFc _ h)
  exact k_29 r _ hw H1 locs ls (lv_sub hl [0, 1, 2] rfl) hP hD hS
set_option maxHeartbeats 1000000 in
set_option maxRecDepth 100000 in
theorem k_Co_holds_32 {C : CT} (X : cM C "QuestionText$Condition" b_Co_holds 3 (some .boolean)) (Post : Int32 → va_W → Prop) (x2 : Int32) (y0 : Int32) (f_c : FT) (g_c : GT) (P : va_W) (h0 : Nat) (l1 : Nat) (pc : Int32) (i1 : Nat) (c0 s0 : Nat) (hf : P[i1]? = some (h0, .inr (10, [.ref l1, .int pc])))
    (k_2 : (¬ y0 = 0) → zc_Co_holds C Post c0 s0 2 [(0, .ref h0), (1, .ref (ad C.1 26)), (2, .int (x2 + 1))] [] (s_c C.1.2.2.2.1 C.1.2.2.2.2 f_c g_c ++ (P)))
    (b_36 : (y0 = 0) → c0 ≤ 0 ∧ s0 ≤ 0)
    (q_36 : (y0 = 0) → Post (0) (s_c C.1.2.2.2.1 C.1.2.2.2.2 f_c g_c ++ (P))) : zc_Co_holds C Post c0 s0 32 [(0, .ref h0), (1, .ref (ad C.1 26)), (2, .int x2)] [.int y0] (s_c C.1.2.2.2.1 C.1.2.2.2.2 f_c g_c ++ (P)) := by
  obtain ⟨⟨l, dC, dI, k, a⟩, p, e, s, m, args, below, meth, c, A⟩ := C
  obtain ⟨hx, hb, hr, htz, hown, hlocks, hml, hE, hK, hA⟩ := X
  intro H locs ls hl hP hD hS
  have hl : lv_has ls 3 [(0, .ref h0), (1, .ref (a 26)), (2, .int x2)] := hl
  have hP : va_P (dC, dI) classes (s_c k a f_c g_c ++ (P)) H := hP
  have hD : va_D A (s_c k a f_c g_c ++ (P)) := hD
  show W p l e (z_rm 3 0 0) s m args below meth c H locs c0 s0 _ (F0 m 32 ls [.int y0])
  refine lv_if_ne (tgt := 37) hx hb d_Co_holds_32 (by decide) (fun c_32 => ?_) (fun c_32 => ?_)
  · refine lv_iinc (v := x2 + 1) (lv' := [(2, .int (x2 + 1)), (0, .ref h0), (1, .ref (a 26))]) hx hb d_Co_holds_37 hl (k := 2) rfl (rfl) (by decide) rfl (fun ls hl => ?_)
    refine lv_goto (tgt := 2) hx hb d_Co_holds_40 (by decide) ?_
    exact (k_2 c_32) H locs ls (lv_sub hl [1, 2, 0] rfl) hP hD hS
  · refine lv_iconst (v := 0) hx hb d_Co_holds_35 (by decide) ?_
    refine W.widen (k := 0) (n := 0) (b_36 c_32).1 (b_36 c_32).2 ?_
    exact W.zret (v := 0) (ty := .boolean) hx hb hr rfl (fun t ht hW => ⟨⟨_, (s_c k a f_c g_c ++ (P)), rfl, (q_36 c_32), by rw [ht]; exact hP, va_K.moved hW.alike hK, hD⟩, hS.F ht⟩) hS.2.2 d_Co_holds_36
set_option maxHeartbeats 1000000 in
set_option maxRecDepth 100000 in
theorem e_Co_holds (T : ST) (Post : Int32 → va_W → Prop) (f_c : FT) (g_c : GT) (P : va_W) (h0 : Nat) (l1 : Nat) (pc : Int32) (h : ∀ C : CT, C.1 = T → cM C "QuestionText$Condition" b_Co_holds 3 (some .boolean) → zc_Co_holds C Post 0 0 0 [(0, .ref h0), (1, .ref (ad C.1 26))] [] (s_c C.1.2.2.2.1 C.1.2.2.2.2 f_c g_c ++ (P))) : uI T y_Co_holds (Cond.code y_Co_holds b_Co_holds 3 (some .boolean)) 3 0 0 [.ref h0, .ref (ad T 26)] (s_c T.2.2.2.1 T.2.2.2.2 f_c g_c ++ (P)) Post := by
  obtain ⟨l, dC, dI, k, a⟩ := T
  intro sz
  refine Met.ofW (cc := b_Co_holds) (maxL := 3) (ret := (some .boolean)) (by decide) rfl ?_
  intro p e s m args below meth c s₁ B hml hv
  obtain ⟨rfl, hsz, hE, hP, hK, hD0⟩ := hv
  have hts := atoms_spec (ws := (Cond.code y_Co_holds b_Co_holds 3 (some .boolean)) :: z_T) B.pre
  have htz : ∀ w ∈ z_T, w.before _ s = true := fun w h => hts w (z_cons w h)
  subst hsz
  have hD := hD0.self (sz := s.heap.size)
  generalize hAe : va_A (s_c k a f_c g_c ++ (P)) s.heap.size = A at hD hE ⊢
  have hA : ∀ q : Nat, s.heap.size ≤ q → A q := fun q h => by rw [← hAe]; exact Or.inr h
  have hl := lv_entry ([.ref h0, .ref (a 26)]) (n := 3) (Nat.le_of_ble_eq_true rfl)
  rw [lg_entry_eq]
  generalize (lg_sl ([.ref h0, .ref (a 26)]) ++ List.replicate (3 - (lg_sl ([.ref h0, .ref (a 26)])).length) Slot.unset).toArray = ls at hl ⊢
  exact h ((l, dC, dI, k, a), p, e, s, m, ([.ref h0, .ref (a 26)] : List Value).toArray, below, meth, c, A) rfl ⟨B.exec, B.bytes, B.returns, htz, findClass_of_methodNamed B.named, B.notSynchronized, hml, hE, hK, hA⟩ s.heap [] ls hl hP hD va_S.rf
def zc_Ki_priorityOf (C : CT) (Post : Int32 → va_W → Prop) (c0 s0 pc : Nat) (loc : List (Nat × Value)) (st : List Value) (ws : va_W) : Prop := zW C (z_rm 4 0 0) 3 (oI C 0 0 Post) c0 s0 pc loc st ws
set_option maxHeartbeats 1000000 in
set_option maxRecDepth 100000 in
theorem k_Ki_priorityOf_0 {C : CT} (X : cM C "QuestionText$Kind" b_Ki_priorityOf 3 (some .int)) (Post : Int32 → va_W → Prop) (f_c : FT) (g_c : GT) (P : va_W) (h0 : Nat) (fq : Int32) (pr : Int32) (l0 : Nat) (i1 : Nat) (c0 s0 : Nat) (hf : P[i1]? = some (h0, .inr (5, [.int fq, .int pr, .ref l0])))
    (k_2 : zc_Ki_priorityOf C Post c0 s0 2 [(0, .ref h0), (1, .ref (ad C.1 26)), (2, .int 0)] [] (s_c C.1.2.2.2.1 C.1.2.2.2.2 f_c g_c ++ (P))) : zc_Ki_priorityOf C Post c0 s0 0 [(0, .ref h0), (1, .ref (ad C.1 26))] [] (s_c C.1.2.2.2.1 C.1.2.2.2.2 f_c g_c ++ (P)) := by
  obtain ⟨⟨l, dC, dI, k, a⟩, p, e, s, m, args, below, meth, c, A⟩ := C
  obtain ⟨hx, hb, hr, htz, hown, hlocks, hml, hE, hK, hA⟩ := X
  intro H locs ls hl hP hD hS
  have hl : lv_has ls 3 [(0, .ref h0), (1, .ref (a 26))] := hl
  have hP : va_P (dC, dI) classes (s_c k a f_c g_c ++ (P)) H := hP
  have hD : va_D A (s_c k a f_c g_c ++ (P)) := hD
  show W p l e (z_rm 4 0 0) s m args below meth c H locs c0 s0 _ (F0 m 0 ls [])
  refine lv_iconst (v := 0) hx hb d_Ki_priorityOf_0 (by decide) ?_
  refine lv_istore_n (lv' := [(2, .int 0), (0, .ref h0), (1, .ref (a 26))]) hx hb d_Ki_priorityOf_1 rfl hl (by decide) rfl (fun ls hl => ?_)
  exact k_2 H locs ls (lv_sub hl [1, 2, 0] rfl) hP hD hS
set_option maxHeartbeats 1000000 in
set_option maxRecDepth 100000 in
theorem k_Ki_priorityOf_2 {C : CT} (X : cM C "QuestionText$Kind" b_Ki_priorityOf 3 (some .int)) (Post : Int32 → va_W → Prop) {P_7 : Int32 → va_W → Prop} (x2 : Int32) (f_c : FT) (g_c : GT) (P : va_W) (h0 : Nat) (fq : Int32) (pr : Int32) (l0 : Nat) (i1 : Nat) (c0 s0 : Nat) (hf : P[i1]? = some (h0, .inr (5, [.int fq, .int pr, .ref l0])))
    (b_7 : c0 ≤ 0 ∧ s0 ≤ 0)
    (m_7 : uI C.1 y_AL_size (Cond.code y_AL_size b_AL_size 1 (some .int)) 0 0 0 [.ref l0] (P) P_7)
    (k_7 : ∀ (r : Int32) (u : va_W), P_7 r u → zc_Ki_priorityOf C Post c0 s0 12 [(0, .ref h0), (1, .ref (ad C.1 26)), (2, .int x2)] [.int r, .int x2] (s_c C.1.2.2.2.1 C.1.2.2.2.2 f_c g_c ++ (u)))
    (r_7 : ∃ (i : Nat) (fs : List Value), P[i]? = some (l0, .inr (11, fs))) : zc_Ki_priorityOf C Post c0 s0 2 [(0, .ref h0), (1, .ref (ad C.1 26)), (2, .int x2)] [] (s_c C.1.2.2.2.1 C.1.2.2.2.2 f_c g_c ++ (P)) := by
  obtain ⟨⟨l, dC, dI, k, a⟩, p, e, s, m, args, below, meth, c, A⟩ := C
  obtain ⟨hx, hb, hr, htz, hown, hlocks, hml, hE, hK, hA⟩ := X
  intro H locs ls hl hP hD hS
  have hl : lv_has ls 3 [(0, .ref h0), (1, .ref (a 26)), (2, .int x2)] := hl
  have hP : va_P (dC, dI) classes (s_c k a f_c g_c ++ (P)) H := hP
  have hD : va_D A (s_c k a f_c g_c ++ (P)) := hD
  show W p l e (z_rm 4 0 0) s m args below meth c H locs c0 s0 _ (F0 m 2 ls [])
  refine lv_iload_n hx hb d_Ki_priorityOf_2 rfl (lv_at hl 2 rfl) ?_
  refine lv_aload_n hx hb d_Ki_priorityOf_3 rfl (lv_at hl 0 rfl) ?_
  refine va_get (D := (dC, dI)) (ci := 5) (v := .ref l0) (C := R_Ki) (T := F_Ki) (N := 3) hx hb htz i_Ki hown hK hP (i1 + 3) hf rfl 2 (by decide) (htz _ kf_Ki_16) (fun _ h9 => h9) rfl d_Ki_priorityOf_4 ?_
  have hPf : va_P (dC, dI) classes ((s_c k a f_c g_c) ++ ((P) ++ ([]))) H := by rw [List.append_nil]; exact hP
  have hDf : va_D A ((s_c k a f_c g_c) ++ ((P) ++ ([]))) := by rw [List.append_nil]; exact hD
  have hFc := zfree hDf hS hA
  obtain ⟨i9, fs9, h9r⟩ := r_7
  have h9a := h9r
  refine va_callFi (va_runF (hK.1 11 _ rfl).2 (As := []) (rest := [.int x2]) ⟨hx, hb, hml, hown, htz⟩ (m_7 H.size) (va_cwF 0 htz (z_gF (fun _ h => h) km_Ki_20 sx_AL_size in_AL_size ini_AL m_AL_size) rfl rfl rfl (hE.1.1 (⟨"java/util/List", "size", "()I"⟩, y_AL_size) (by decide +kernel)) (by decide +kernel) ⟨(Nat.le_of_ble_eq_true rfl), (Nat.le_of_ble_eq_true rfl)⟩) ⟨z_blind, va_recv hK (zPc hPf) (ci := 11) (q0 := i9) rfl h9a, fun U hU hW => ⟨rfl, by rw [hU], hE.call hS hFc hU hW, by rw [hU]; exact (zPc hPf), va_K.moved hW.alike hK, (zDc hDf)⟩⟩ rfl rfl hl.1 rfl (lv_room (Nat.le_of_ble_eq_true rfl)) d_Ki_priorityOf_7 b_7) hS (fun q _ h => hFc q h) hFc (fun r u t H1 locs ht hvm hw hB hz1 hk1 hS => ?_)
  obtain ⟨hP1, hK1, hD1⟩ := hB
  rw [ht] at hP1
  obtain ⟨hP, hD⟩ := zf hPf hDf hk1 hFc hP1 hD1
  rw [List.append_nil] at hP hD
  exact k_7 r _ hw H1 locs ls (lv_sub hl [0, 1, 2] rfl) hP hD hS
set_option maxHeartbeats 1000000 in
set_option maxRecDepth 100000 in
theorem k_Ki_priorityOf_12 {C : CT} (X : cM C "QuestionText$Kind" b_Ki_priorityOf 3 (some .int)) (Post : Int32 → va_W → Prop) {P_20 : Option Nat → va_W → Prop} (x2 : Int32) (y0 : Int32) (y1 : Int32) (f_c : FT) (g_c : GT) (P : va_W) (h0 : Nat) (fq : Int32) (pr : Int32) (l0 : Nat) (i1 : Nat) (c0 s0 : Nat) (hf : P[i1]? = some (h0, .inr (5, [.int fq, .int pr, .ref l0])))
    (b_62 : (y0 ≤ y1) → c0 ≤ 0 ∧ s0 ≤ 0)
    (q_62 : (y0 ≤ y1) → Post (pr) (s_c C.1.2.2.2.1 C.1.2.2.2.2 f_c g_c ++ (P)))
    (b_20 : (¬ y0 ≤ y1) → c0 ≤ 0 ∧ s0 ≤ 0)
    (m_20 : (¬ y0 ≤ y1) → uR C.1 y_AL_get (Cond.code y_AL_get b_AL_get 2 (some (.object "java/lang/Object"))) 2 0 0 [.ref l0, .int x2] (P) P_20)
    (k_20 : (¬ y0 ≤ y1) → ∀ (r : Option Nat) (u : va_W), P_20 r u → zc_Ki_priorityOf C Post c0 s0 25 [(0, .ref h0), (1, .ref (ad C.1 26)), (2, .int x2)] [va_rf r] (s_c C.1.2.2.2.1 C.1.2.2.2.2 f_c g_c ++ (u)))
    (r_20 : (¬ y0 ≤ y1) → ∃ (i : Nat) (fs : List Value), P[i]? = some (l0, .inr (11, fs))) : zc_Ki_priorityOf C Post c0 s0 12 [(0, .ref h0), (1, .ref (ad C.1 26)), (2, .int x2)] [.int y0, .int y1] (s_c C.1.2.2.2.1 C.1.2.2.2.2 f_c g_c ++ (P)) := by
  obtain ⟨⟨l, dC, dI, k, a⟩, p, e, s, m, args, below, meth, c, A⟩ := C
  obtain ⟨hx, hb, hr, htz, hown, hlocks, hml, hE, hK, hA⟩ := X
  intro H locs ls hl hP hD hS
  have hl : lv_has ls 3 [(0, .ref h0), (1, .ref (a 26)), (2, .int x2)] := hl
  have hP : va_P (dC, dI) classes (s_c k a f_c g_c ++ (P)) H := hP
  have hD : va_D A (s_c k a f_c g_c ++ (P)) := hD
  show W p l e (z_rm 4 0 0) s m args below meth c H locs c0 s0 _ (F0 m 12 ls [.int y0, .int y1])
  refine lv_icmp_ge (tgt := 58) hx hb d_Ki_priorityOf_12 (by decide) (fun c_12 => ?_) (fun c_12 => ?_)
  · refine lv_aload_n hx hb d_Ki_priorityOf_58 rfl (lv_at hl 0 rfl) ?_
    refine va_get (D := (dC, dI)) (ci := 5) (v := .int pr) (C := R_Ki) (T := F_Ki) (N := 3) hx hb htz i_Ki hown hK hP (i1 + 3) hf rfl 1 (by decide) (htz _ kf_Ki_13) (fun _ h9 => h9) rfl d_Ki_priorityOf_59 ?_
    refine W.widen (k := 0) (n := 0) (b_62 c_12).1 (b_62 c_12).2 ?_
    exact W.iret (v := pr) hx hb hr (fun t ht hW => ⟨⟨_, (s_c k a f_c g_c ++ (P)), rfl, (q_62 c_12), by rw [ht]; exact hP, va_K.moved hW.alike hK, hD⟩, hS.F ht⟩) hS.2.2 d_Ki_priorityOf_62
  · refine lv_aload_n hx hb d_Ki_priorityOf_15 rfl (lv_at hl 0 rfl) ?_
    refine va_get (D := (dC, dI)) (ci := 5) (v := .ref l0) (C := R_Ki) (T := F_Ki) (N := 3) hx hb htz i_Ki hown hK hP (i1 + 3) hf rfl 2 (by decide) (htz _ kf_Ki_16) (fun _ h9 => h9) rfl d_Ki_priorityOf_16 ?_
    refine lv_iload_n hx hb d_Ki_priorityOf_19 rfl (lv_at hl 2 rfl) ?_
    have hPf : va_P (dC, dI) classes ((s_c k a f_c g_c) ++ ((P) ++ ([]))) H := by rw [List.append_nil]; exact hP
    have hDf : va_D A ((s_c k a f_c g_c) ++ ((P) ++ ([]))) := by rw [List.append_nil]; exact hD
    have hFc := zfree hDf hS hA
    obtain ⟨i9, fs9, h9r⟩ := (r_20 c_12)
    have h9a := h9r
    refine va_callFq (va_runF (hK.1 11 _ rfl).2 (As := [.int x2]) (rest := []) ⟨hx, hb, hml, hown, htz⟩ ((m_20 c_12) H.size) (va_cwF 1 htz (z_gF (fun _ h => h) km_Ki_26 sx_AL_get in_AL_get ini_AL m_AL_get) rfl rfl rfl (hE.1.1 (⟨"java/util/List", "get", "(I)Ljava/lang/Object;"⟩, y_AL_get) (by decide +kernel)) (by decide +kernel) ⟨(Nat.le_of_ble_eq_true rfl), (Nat.le_of_ble_eq_true rfl)⟩) ⟨z_blind, va_recv hK (zPc hPf) (ci := 11) (q0 := i9) rfl h9a, fun U hU hW => ⟨rfl, by rw [hU], hE.call hS hFc hU hW, by rw [hU]; exact (zPc hPf), va_K.moved hW.alike hK, (zDc hDf)⟩⟩ rfl rfl hl.1 rfl (lv_room (Nat.le_of_ble_eq_true rfl)) d_Ki_priorityOf_20 (b_20 c_12)) hS (fun q _ h => hFc q h) hFc (fun r u t H1 locs ht hvm hw hB hz1 hk1 hS => ?_)
    obtain ⟨hP1, hK1, hD1⟩ := hB
    rw [ht] at hP1
    obtain ⟨hP, hD⟩ := zf hPf hDf hk1 hFc hP1 hD1
    rw [List.append_nil] at hP hD
    exact (k_20 c_12) r _ hw H1 locs ls (lv_sub hl [0, 1, 2] rfl) hP hD hS
set_option maxHeartbeats 1000000 in
set_option maxRecDepth 100000 in
theorem k_Ki_priorityOf_25 {C : CT} (X : cM C "QuestionText$Kind" b_Ki_priorityOf 3 (some .int)) (Post : Int32 → va_W → Prop) {P_29 : Int32 → va_W → Prop} (x2 : Int32) (y0 : Nat) (f_c : FT) (g_c : GT) (P : va_W) (h0 : Nat) (fq : Int32) (pr : Int32) (l0 : Nat) (l1 : Nat) (pc : Int32) (i1 : Nat) (i2 : Nat) (c0 s0 : Nat) (hf : P[i1]? = some (h0, .inr (5, [.int fq, .int pr, .ref l0]))) (hc : P[i2]? = some (y0, .inr (10, [.ref l1, .int pc])))
    (b_29 : c0 ≤ 0 ∧ s0 ≤ 0)
    (m_29 : uI C.1 y_Co_holds (Cond.code y_Co_holds b_Co_holds 3 (some .boolean)) 3 0 0 [.ref y0, .ref (ad C.1 26)] (s_c C.1.2.2.2.1 C.1.2.2.2.2 f_c g_c ++ (P)) P_29)
    (k_29 : ∀ (r : Int32) (u : va_W), P_29 r u → zc_Ki_priorityOf C Post c0 s0 32 [(0, .ref h0), (1, .ref (ad C.1 26)), (2, .int x2)] [.int r] (u)) : zc_Ki_priorityOf C Post c0 s0 25 [(0, .ref h0), (1, .ref (ad C.1 26)), (2, .int x2)] [.ref y0] (s_c C.1.2.2.2.1 C.1.2.2.2.2 f_c g_c ++ (P)) := by
  obtain ⟨⟨l, dC, dI, k, a⟩, p, e, s, m, args, below, meth, c, A⟩ := C
  obtain ⟨hx, hb, hr, htz, hown, hlocks, hml, hE, hK, hA⟩ := X
  intro H locs ls hl hP hD hS
  have hl : lv_has ls 3 [(0, .ref h0), (1, .ref (a 26)), (2, .int x2)] := hl
  have hP : va_P (dC, dI) classes (s_c k a f_c g_c ++ (P)) H := hP
  have hD : va_D A (s_c k a f_c g_c ++ (P)) := hD
  show W p l e (z_rm 4 0 0) s m args below meth c H locs c0 s0 _ (F0 m 25 ls [.ref y0])
  refine va_castY hx hb hown (htz _ kc_Ki_30) (hE.2.1 _ cs_Co) (va_recv hK hP (ci := 10) (q0 := (i2 + 3)) rfl hc) d_Ki_priorityOf_25 ?_
  refine lv_aload_n hx hb d_Ki_priorityOf_28 rfl (lv_at hl 1 rfl) ?_
  have hFc : ∀ q, va_A (s_c k a f_c g_c ++ (P)) H.size q → A q := fun q h => h.elim (fun z => by obtain ⟨i9, e9, h9⟩ := z; exact hD.2 i9 _ h9) (fun z => hA q (Nat.le_trans hS.1 z))
  refine va_calli (va_runV (As := [.ref (a 26)]) (rest := []) ⟨hx, hb, hml, hown, htz⟩ (m_29 H.size) (cwV 1 htz (z_gV (fun _ h => h) km_Ki_32 in_Co_holds se_Co_holds ini_Co m_Co_holds) rfl rfl rfl (by decide +kernel) ⟨(Nat.le_of_ble_eq_true rfl), (Nat.le_of_ble_eq_true rfl)⟩) ⟨z_blind, va_recv hK hP (ci := 10) (q0 := (i2 + 3)) rfl hc, fun U hU hW => ⟨rfl, by rw [hU], hE.call hS hFc hU hW, by rw [hU]; exact hP, va_K.moved hW.alike hK, (hD.weaken (fun _ _ _ _ => trivial))⟩⟩ rfl rfl hl.1 rfl (lv_room (Nat.le_of_ble_eq_true rfl)) d_Ki_priorityOf_29 b_29) hS (fun q _ h => hFc q h) hFc (fun r u t H1 locs ht hvm hw hB hz1 hk1 hS => ?_)
  obtain ⟨hP1, hK1, hD1⟩ := hB
  rw [ht] at hP1
  have hP := hP1
  have hD := hD1.weaken (fun _ q _ h => hFc _ h)
  exact k_29 r _ hw H1 locs ls (lv_sub hl [0, 1, 2] rfl) hP hD hS
set_option maxHeartbeats 1000000 in
set_option maxRecDepth 100000 in
theorem k_Ki_priorityOf_32 {C : CT} (X : cM C "QuestionText$Kind" b_Ki_priorityOf 3 (some .int)) (Post : Int32 → va_W → Prop) {P_40 : Option Nat → va_W → Prop} (x2 : Int32) (y0 : Int32) (f_c : FT) (g_c : GT) (P : va_W) (h0 : Nat) (fq : Int32) (pr : Int32) (l0 : Nat) (i1 : Nat) (c0 s0 : Nat) (hf : P[i1]? = some (h0, .inr (5, [.int fq, .int pr, .ref l0])))
    (k_2 : (y0 = 0) → zc_Ki_priorityOf C Post c0 s0 2 [(0, .ref h0), (1, .ref (ad C.1 26)), (2, .int (x2 + 1))] [] (s_c C.1.2.2.2.1 C.1.2.2.2.2 f_c g_c ++ (P)))
    (b_40 : (¬ y0 = 0) → c0 ≤ 0 ∧ s0 ≤ 0)
    (m_40 : (¬ y0 = 0) → uR C.1 y_AL_get (Cond.code y_AL_get b_AL_get 2 (some (.object "java/lang/Object"))) 2 0 0 [.ref l0, .int x2] (P) P_40)
    (k_40 : (¬ y0 = 0) → ∀ (r : Option Nat) (u : va_W), P_40 r u → zc_Ki_priorityOf C Post c0 s0 45 [(0, .ref h0), (1, .ref (ad C.1 26)), (2, .int x2)] [va_rf r] (s_c C.1.2.2.2.1 C.1.2.2.2.2 f_c g_c ++ (u)))
    (r_40 : (¬ y0 = 0) → ∃ (i : Nat) (fs : List Value), P[i]? = some (l0, .inr (11, fs))) : zc_Ki_priorityOf C Post c0 s0 32 [(0, .ref h0), (1, .ref (ad C.1 26)), (2, .int x2)] [.int y0] (s_c C.1.2.2.2.1 C.1.2.2.2.2 f_c g_c ++ (P)) := by
  obtain ⟨⟨l, dC, dI, k, a⟩, p, e, s, m, args, below, meth, c, A⟩ := C
  obtain ⟨hx, hb, hr, htz, hown, hlocks, hml, hE, hK, hA⟩ := X
  intro H locs ls hl hP hD hS
  have hl : lv_has ls 3 [(0, .ref h0), (1, .ref (a 26)), (2, .int x2)] := hl
  have hP : va_P (dC, dI) classes (s_c k a f_c g_c ++ (P)) H := hP
  have hD : va_D A (s_c k a f_c g_c ++ (P)) := hD
  show W p l e (z_rm 4 0 0) s m args below meth c H locs c0 s0 _ (F0 m 32 ls [.int y0])
  refine lv_if_eq (tgt := 52) hx hb d_Ki_priorityOf_32 (by decide) (fun c_32 => ?_) (fun c_32 => ?_)
  · refine lv_iinc (v := x2 + 1) (lv' := [(2, .int (x2 + 1)), (0, .ref h0), (1, .ref (a 26))]) hx hb d_Ki_priorityOf_52 hl (k := 2) rfl (rfl) (by decide) rfl (fun ls hl => ?_)
    refine lv_goto (tgt := 2) hx hb d_Ki_priorityOf_55 (by decide) ?_
    exact (k_2 c_32) H locs ls (lv_sub hl [1, 2, 0] rfl) hP hD hS
  · refine lv_aload_n hx hb d_Ki_priorityOf_35 rfl (lv_at hl 0 rfl) ?_
    refine va_get (D := (dC, dI)) (ci := 5) (v := .ref l0) (C := R_Ki) (T := F_Ki) (N := 3) hx hb htz i_Ki hown hK hP (i1 + 3) hf rfl 2 (by decide) (htz _ kf_Ki_16) (fun _ h9 => h9) rfl d_Ki_priorityOf_36 ?_
    refine lv_iload_n hx hb d_Ki_priorityOf_39 rfl (lv_at hl 2 rfl) ?_
    have hPf : va_P (dC, dI) classes ((s_c k a f_c g_c) ++ ((P) ++ ([]))) H := by rw [List.append_nil]; exact hP
    have hDf : va_D A ((s_c k a f_c g_c) ++ ((P) ++ ([]))) := by rw [List.append_nil]; exact hD
    have hFc := zfree hDf hS hA
    obtain ⟨i9, fs9, h9r⟩ := (r_40 c_32)
    have h9a := h9r
    refine va_callFq (va_runF (hK.1 11 _ rfl).2 (As := [.int x2]) (rest := []) ⟨hx, hb, hml, hown, htz⟩ ((m_40 c_32) H.size) (va_cwF 1 htz (z_gF (fun _ h => h) km_Ki_26 sx_AL_get in_AL_get ini_AL m_AL_get) rfl rfl rfl (hE.1.1 (⟨"java/util/List", "get", "(I)Ljava/lang/Object;"⟩, y_AL_get) (by decide +kernel)) (by decide +kernel) ⟨(Nat.le_of_ble_eq_true rfl), (Nat.le_of_ble_eq_true rfl)⟩) ⟨z_blind, va_recv hK (zPc hPf) (ci := 11) (q0 := i9) rfl h9a, fun U hU hW => ⟨rfl, by rw [hU], hE.call hS hFc hU hW, by rw [hU]; exact (zPc hPf), va_K.moved hW.alike hK, (zDc hDf)⟩⟩ rfl rfl hl.1 rfl (lv_room (Nat.le_of_ble_eq_true rfl)) d_Ki_priorityOf_40 (b_40 c_32)) hS (fun q _ h => hFc q h) hFc (fun r u t H1 locs ht hvm hw hB hz1 hk1 hS => ?_)
    obtain ⟨hP1, hK1, hD1⟩ := hB
    rw [ht] at hP1
    obtain ⟨hP, hD⟩ := zf hPf hDf hk1 hFc hP1 hD1
    rw [List.append_nil] at hP hD
    exact (k_40 c_32) r _ hw H1 locs ls (lv_sub hl [0, 1, 2] rfl) hP hD hS
set_option maxHeartbeats 1000000 in
set_option maxRecDepth 100000 in
theorem k_Ki_priorityOf_45 {C : CT} (X : cM C "QuestionText$Kind" b_Ki_priorityOf 3 (some .int)) (Post : Int32 → va_W → Prop) (x2 : Int32) (y0 : Nat) (f_c : FT) (g_c : GT) (P : va_W) (h0 : Nat) (fq : Int32) (pr : Int32) (l0 : Nat) (l1 : Nat) (pc : Int32) (i1 : Nat) (i2 : Nat) (c0 s0 : Nat) (hf : P[i1]? = some (h0, .inr (5, [.int fq, .int pr, .ref l0]))) (hc : P[i2]? = some (y0, .inr (10, [.ref l1, .int pc])))
    (b_51 : c0 ≤ 0 ∧ s0 ≤ 0)
    (q_51 : Post (pc) (s_c C.1.2.2.2.1 C.1.2.2.2.2 f_c g_c ++ (P))) : zc_Ki_priorityOf C Post c0 s0 45 [(0, .ref h0), (1, .ref (ad C.1 26)), (2, .int x2)] [.ref y0] (s_c C.1.2.2.2.1 C.1.2.2.2.2 f_c g_c ++ (P)) := by
  obtain ⟨⟨l, dC, dI, k, a⟩, p, e, s, m, args, below, meth, c, A⟩ := C
  obtain ⟨hx, hb, hr, htz, hown, hlocks, hml, hE, hK, hA⟩ := X
  intro H locs ls hl hP hD hS
  have hl : lv_has ls 3 [(0, .ref h0), (1, .ref (a 26)), (2, .int x2)] := hl
  have hP : va_P (dC, dI) classes (s_c k a f_c g_c ++ (P)) H := hP
  have hD : va_D A (s_c k a f_c g_c ++ (P)) := hD
  show W p l e (z_rm 4 0 0) s m args below meth c H locs c0 s0 _ (F0 m 45 ls [.ref y0])
  refine va_castY hx hb hown (htz _ kc_Ki_30) (hE.2.1 _ cs_Co) (va_recv hK hP (ci := 10) (q0 := (i2 + 3)) rfl hc) d_Ki_priorityOf_45 ?_
  refine va_getN (D := (dC, dI)) (ci := 10) (v := .int pc) (C := R_Co) (T := F_Co) (N := 2) hx hb htz i_Co hown hK hP (i2 + 3) hc rfl 1 (by decide) (va_Nw.use rfl (hE.2.1 _ kf_Ki_36)) (fun _ h9 => h9) rfl d_Ki_priorityOf_48 ?_
  refine W.widen (k := 0) (n := 0) b_51.1 b_51.2 ?_
  exact W.iret (v := pc) hx hb hr (fun t ht hW => ⟨⟨_, (s_c k a f_c g_c ++ (P)), rfl, q_51, by rw [ht]; exact hP, va_K.moved hW.alike hK, hD⟩, hS.F ht⟩) hS.2.2 d_Ki_priorityOf_51
set_option maxHeartbeats 1000000 in
set_option maxRecDepth 100000 in
theorem e_Ki_priorityOf (T : ST) (Post : Int32 → va_W → Prop) (f_c : FT) (g_c : GT) (P : va_W) (h0 : Nat) (fq : Int32) (pr : Int32) (l0 : Nat) (h : ∀ C : CT, C.1 = T → cM C "QuestionText$Kind" b_Ki_priorityOf 3 (some .int) → zc_Ki_priorityOf C Post 0 0 0 [(0, .ref h0), (1, .ref (ad C.1 26))] [] (s_c C.1.2.2.2.1 C.1.2.2.2.2 f_c g_c ++ (P))) : uI T y_Ki_priorityOf (Cond.code y_Ki_priorityOf b_Ki_priorityOf 3 (some .int)) 4 0 0 [.ref h0, .ref (ad T 26)] (s_c T.2.2.2.1 T.2.2.2.2 f_c g_c ++ (P)) Post := by
  obtain ⟨l, dC, dI, k, a⟩ := T
  intro sz
  refine Met.ofW (cc := b_Ki_priorityOf) (maxL := 3) (ret := (some .int)) (by decide) rfl ?_
  intro p e s m args below meth c s₁ B hml hv
  obtain ⟨rfl, hsz, hE, hP, hK, hD0⟩ := hv
  have hts := atoms_spec (ws := (Cond.code y_Ki_priorityOf b_Ki_priorityOf 3 (some .int)) :: z_T) B.pre
  have htz : ∀ w ∈ z_T, w.before _ s = true := fun w h => hts w (z_cons w h)
  subst hsz
  have hD := hD0.self (sz := s.heap.size)
  generalize hAe : va_A (s_c k a f_c g_c ++ (P)) s.heap.size = A at hD hE ⊢
  have hA : ∀ q : Nat, s.heap.size ≤ q → A q := fun q h => by rw [← hAe]; exact Or.inr h
  have hl := lv_entry ([.ref h0, .ref (a 26)]) (n := 3) (Nat.le_of_ble_eq_true rfl)
  rw [lg_entry_eq]
  generalize (lg_sl ([.ref h0, .ref (a 26)]) ++ List.replicate (3 - (lg_sl ([.ref h0, .ref (a 26)])).length) Slot.unset).toArray = ls at hl ⊢
  exact h ((l, dC, dI, k, a), p, e, s, m, ([.ref h0, .ref (a 26)] : List Value).toArray, below, meth, c, A) rfl ⟨B.exec, B.bytes, B.returns, htz, findClass_of_methodNamed B.named, B.notSynchronized, hml, hE, hK, hA⟩ s.heap [] ls hl hP hD va_S.rf
