def zc_AC_init (C : CT) (Post : va_W → Prop) (c0 s0 pc : Nat) (loc : List (Nat × Value)) (st : List Value) (ws : va_W) : Prop := zW C (z_rm 0 0 0) 1 (oV C 0 0 Post) c0 s0 pc loc st ws
set_option maxHeartbeats 1000000 in
set_option maxRecDepth 100000 in
theorem k_AC_init_0 {C : CT} (X : cN C "java/util/AbstractCollection" b_AC_init 1 none) (Post : va_W → Prop) (h0 : Nat) (c0 s0 : Nat)
    (b_4 : c0 ≤ 0 ∧ s0 ≤ 0)
    (q_4 : Post ([(h0, .inr (11, [.int 0, .null, .int 0]))])) : zc_AC_init C Post c0 s0 0 [(0, .ref h0)] [] ([(h0, .inr (11, [.int 0, .null, .int 0]))]) := by
  obtain ⟨⟨l, dC, dI, k, a⟩, p, e, s, m, args, below, meth, c, A⟩ := C
  obtain ⟨⟨hx, hb, hr, htz, hown, hlocks, hml, hE, hK, hA⟩, hin⟩ := X
  intro H locs ls hl hP hD hS
  have hl : lv_has ls 1 [(0, .ref h0)] := hl
  have hP : va_P (dC, dI) classes ([(h0, .inr (11, [.int 0, .null, .int 0]))]) H := hP
  have hD : va_D A ([(h0, .inr (11, [.int 0, .null, .int 0]))]) := hD
  show W p l e (z_rm 0 0 0) s m args below meth c H locs c0 s0 _ (F0 m 0 ls [])
  refine lv_aload_n hx hb d_AC_init_0 rfl (lv_at hl 0 rfl) ?_
  refine W.objInit hx hb hown (htz _ km_AC_1) (htz _ in_Obj) (htz _ m_Obj) rfl (hl.1.trans hml.symm) rfl d_AC_init_1 (Nat.le_of_ble_eq_true rfl) (Nat.le_of_ble_eq_true rfl) ?_
  refine W.widen (k := 0) (n := 0) b_4.1 b_4.2 ?_
  exact W.vret hx hb hr (fun t ht hW => ⟨⟨([(h0, .inr (11, [.int 0, .null, .int 0]))]), rfl, q_4, by rw [ht]; exact hP, va_K.moved hW.alike hK, hD⟩, hS.F ht⟩) hS.2.2 d_AC_init_4
set_option maxHeartbeats 1000000 in
set_option maxRecDepth 100000 in
theorem e_AC_init (T : ST) (Post : va_W → Prop) (h0 : Nat) (h : ∀ C : CT, C.1 = T → cN C "java/util/AbstractCollection" b_AC_init 1 none → zc_AC_init C Post 0 0 0 [(0, .ref h0)] [] ([(h0, .inr (11, [.int 0, .null, .int 0]))])) : uV T y_AC_init (Cond.code y_AC_init b_AC_init 1 none) 0 0 0 [.ref h0] ([(h0, .inr (11, [.int 0, .null, .int 0]))]) Post := by
  obtain ⟨l, dC, dI, k, a⟩ := T
  intro sz
  refine Met.ofW (cc := b_AC_init) (maxL := 1) (ret := none) (by decide) rfl ?_
  intro p e s m args below meth c s₁ B hml hv
  obtain ⟨rfl, hsz, hE, hP, hK, hD0⟩ := hv
  have hts := atoms_spec (ws := (Cond.code y_AC_init b_AC_init 1 none) :: z_T) B.pre
  have htz : ∀ w ∈ z_T, w.before _ s = true := fun w h => hts w (z_cons w h)
  subst hsz
  have hD := hD0.self (sz := s.heap.size)
  generalize hAe : va_A ([(h0, .inr (11, [.int 0, .null, .int 0]))]) s.heap.size = A at hD hE ⊢
  have hA : ∀ q : Nat, s.heap.size ≤ q → A q := fun q h => by rw [← hAe]; exact Or.inr h
  have hl := lv_entry ([.ref h0]) (n := 1) (Nat.le_of_ble_eq_true rfl)
  rw [lg_entry_eq]
  generalize (lg_sl ([.ref h0]) ++ List.replicate (1 - (lg_sl ([.ref h0])).length) Slot.unset).toArray = ls at hl ⊢
  exact h ((l, dC, dI, k, a), p, e, s, m, ([.ref h0] : List Value).toArray, below, meth, c, A) rfl ⟨⟨B.exec, B.bytes, B.returns, htz, findClass_of_methodNamed B.named, B.notSynchronized, hml, hE, hK, hA⟩, (name_of_methodNamed B.named B.method).1⟩ s.heap [] ls hl hP hD va_S.rf
def zc_AB_init (C : CT) (Post : va_W → Prop) (c0 s0 pc : Nat) (loc : List (Nat × Value)) (st : List Value) (ws : va_W) : Prop := zW C (z_rm 1 0 0) 1 (oV C 0 0 Post) c0 s0 pc loc st ws
set_option maxHeartbeats 1000000 in
set_option maxRecDepth 100000 in
theorem k_AB_init_0 {C : CT} (X : cN C "java/util/AbstractList" b_AB_init 1 none) (Post : va_W → Prop) {P_1 : va_W → Prop} (h0 : Nat) (c0 s0 : Nat)
    (b_1 : c0 ≤ 0 ∧ s0 ≤ 0)
    (m_1 : uV C.1 y_AC_init (Cond.code y_AC_init b_AC_init 1 none) 0 0 0 [.ref h0] ([(h0, .inr (11, [.int 0, .null, .int 0]))]) P_1)
    (k_1 : ∀ (u : va_W), P_1 u → zc_AB_init C Post c0 s0 4 [(0, .ref h0)] [] (u ++ ([]))) : zc_AB_init C Post c0 s0 0 [(0, .ref h0)] [] ([(h0, .inr (11, [.int 0, .null, .int 0]))]) := by
  obtain ⟨⟨l, dC, dI, k, a⟩, p, e, s, m, args, below, meth, c, A⟩ := C
  obtain ⟨⟨hx, hb, hr, htz, hown, hlocks, hml, hE, hK, hA⟩, hin⟩ := X
  intro H locs ls hl hP hD hS
  have hl : lv_has ls 1 [(0, .ref h0)] := hl
  have hP : va_P (dC, dI) classes ([(h0, .inr (11, [.int 0, .null, .int 0]))]) H := hP
  have hD : va_D A ([(h0, .inr (11, [.int 0, .null, .int 0]))]) := hD
  show W p l e (z_rm 1 0 0) s m args below meth c H locs c0 s0 _ (F0 m 0 ls [])
  refine lv_aload_n hx hb d_AB_init_0 rfl (lv_at hl 0 rfl) ?_
  have hPf : va_P (dC, dI) classes (([]) ++ (([(h0, .inr (11, [.int 0, .null, .int 0]))]) ++ ([]))) H := hP
  have hDf : va_D A (([]) ++ (([(h0, .inr (11, [.int 0, .null, .int 0]))]) ++ ([]))) := hD
  have hFc := zfree hDf hS hA
  refine va_callv (va_runI (As := []) (rest := []) ⟨hx, hb, hml, hown, htz⟩ (m_1 H.size) (cwI 0 htz (z_gI (fun _ h => h) m_AC_init) rfl rfl rfl (htz _ ini_AC) (htz _ km_AB_1) (htz _ in_AC_init) rfl (by decide +kernel) ⟨(Nat.le_of_ble_eq_true rfl), (Nat.le_of_ble_eq_true rfl)⟩) ⟨z_blind, fun U hU hW => ⟨rfl, by rw [hU], hE.call hS hFc hU hW, by rw [hU]; exact (zPc hPf), va_K.moved hW.alike hK, (zDc hDf)⟩⟩ rfl rfl hl.1 rfl (lv_room (Nat.le_of_ble_eq_true rfl)) d_AB_init_1 b_1) hS (fun q _ h => hFc q h) hFc (fun u t H1 locs ht hvm hw hB hz1 hk1 hS => ?_)
  obtain ⟨hP1, hK1, hD1⟩ := hB
  rw [ht] at hP1
  obtain ⟨hP, hD⟩ := zf hPf hDf hk1 hFc hP1 hD1
  exact k_1 _ hw H1 locs ls (lv_sub hl [0] rfl) hP hD hS
set_option maxHeartbeats 1000000 in
set_option maxRecDepth 100000 in
theorem k_AB_init_4 {C : CT} (X : cN C "java/util/AbstractList" b_AB_init 1 none) (Post : va_W → Prop) (h0 : Nat) (c0 s0 : Nat)
    (b_9 : c0 ≤ 0 ∧ s0 ≤ 0)
    (q_9 : Post ([(h0, .inr (11, [.int 0, .null, .int 0]))])) : zc_AB_init C Post c0 s0 4 [(0, .ref h0)] [] ([(h0, .inr (11, [.int 0, .null, .int 0]))]) := by
  obtain ⟨⟨l, dC, dI, k, a⟩, p, e, s, m, args, below, meth, c, A⟩ := C
  obtain ⟨⟨hx, hb, hr, htz, hown, hlocks, hml, hE, hK, hA⟩, hin⟩ := X
  intro H locs ls hl hP hD hS
  have hl : lv_has ls 1 [(0, .ref h0)] := hl
  have hP : va_P (dC, dI) classes ([(h0, .inr (11, [.int 0, .null, .int 0]))]) H := hP
  have hD : va_D A ([(h0, .inr (11, [.int 0, .null, .int 0]))]) := hD
  show W p l e (z_rm 1 0 0) s m args below meth c H locs c0 s0 _ (F0 m 4 ls [])
  refine lv_aload_n hx hb d_AB_init_4 rfl (lv_at hl 0 rfl) ?_
  refine lv_iconst (v := 0) hx hb d_AB_init_5 (by decide) ?_
  refine va_put (D := (dC, dI)) (ci := 11) (v := .int 0) (ty := .int) (C := R_AL) (T := F_AL) (N := 3) hx hb htz i_AL t_AL o_AL n_AL hown hK hP hD hS 0 rfl rfl 0 (by decide) (htz _ kf_AB_7) (fun _ h9 => h9) rfl (by decide +kernel) rfl rfl (Nat.le_of_ble_eq_true rfl) d_AB_init_6 (fun H locs hP hD hS => ?_)
  have hP : va_P (dC, dI) classes ([(h0, .inr (11, [.int 0, .null, .int 0]))]) H := hP
  have hD : va_D A ([(h0, .inr (11, [.int 0, .null, .int 0]))]) := hD
  refine W.widen (k := 0) (n := 0) b_9.1 b_9.2 ?_
  exact W.vret hx hb hr (fun t ht hW => ⟨⟨([(h0, .inr (11, [.int 0, .null, .int 0]))]), rfl, q_9, by rw [ht]; exact hP, va_K.moved hW.alike hK, hD⟩, hS.F ht⟩) hS.2.2 d_AB_init_9
set_option maxHeartbeats 1000000 in
set_option maxRecDepth 100000 in
theorem e_AB_init (T : ST) (Post : va_W → Prop) (h0 : Nat) (h : ∀ C : CT, C.1 = T → cN C "java/util/AbstractList" b_AB_init 1 none → zc_AB_init C Post 0 0 0 [(0, .ref h0)] [] ([(h0, .inr (11, [.int 0, .null, .int 0]))])) : uV T y_AB_init (Cond.code y_AB_init b_AB_init 1 none) 1 0 0 [.ref h0] ([(h0, .inr (11, [.int 0, .null, .int 0]))]) Post := by
  obtain ⟨l, dC, dI, k, a⟩ := T
  intro sz
  refine Met.ofW (cc := b_AB_init) (maxL := 1) (ret := none) (by decide) rfl ?_
  intro p e s m args below meth c s₁ B hml hv
  obtain ⟨rfl, hsz, hE, hP, hK, hD0⟩ := hv
  have hts := atoms_spec (ws := (Cond.code y_AB_init b_AB_init 1 none) :: z_T) B.pre
  have htz : ∀ w ∈ z_T, w.before _ s = true := fun w h => hts w (z_cons w h)
  subst hsz
  have hD := hD0.self (sz := s.heap.size)
  generalize hAe : va_A ([(h0, .inr (11, [.int 0, .null, .int 0]))]) s.heap.size = A at hD hE ⊢
  have hA : ∀ q : Nat, s.heap.size ≤ q → A q := fun q h => by rw [← hAe]; exact Or.inr h
  have hl := lv_entry ([.ref h0]) (n := 1) (Nat.le_of_ble_eq_true rfl)
  rw [lg_entry_eq]
  generalize (lg_sl ([.ref h0]) ++ List.replicate (1 - (lg_sl ([.ref h0])).length) Slot.unset).toArray = ls at hl ⊢
  exact h ((l, dC, dI, k, a), p, e, s, m, ([.ref h0] : List Value).toArray, below, meth, c, A) rfl ⟨⟨B.exec, B.bytes, B.returns, htz, findClass_of_methodNamed B.named, B.notSynchronized, hml, hE, hK, hA⟩, (name_of_methodNamed B.named B.method).1⟩ s.heap [] ls hl hP hD va_S.rf
def zc_AL_init (C : CT) (Post : va_W → Prop) (c0 s0 pc : Nat) (loc : List (Nat × Value)) (st : List Value) (ws : va_W) : Prop := zW C (z_rm 2 0 0) 1 (oV C 0 0 Post) c0 s0 pc loc st ws
set_option maxHeartbeats 1000000 in
set_option maxRecDepth 100000 in
theorem k_AL_init_0 {C : CT} (X : cN C "java/util/ArrayList" b_AL_init 1 none) (Post : va_W → Prop) {P_1 : va_W → Prop} (h0 : Nat) (c0 s0 : Nat)
    (b_1 : c0 ≤ 0 ∧ s0 ≤ 0)
    (m_1 : uV C.1 y_AB_init (Cond.code y_AB_init b_AB_init 1 none) 1 0 0 [.ref h0] ([(h0, .inr (11, [.int 0, .null, .int 0]))]) P_1)
    (k_1 : ∀ (u : va_W), P_1 u → zc_AL_init C Post c0 s0 4 [(0, .ref h0)] [] (u ++ ([]))) : zc_AL_init C Post c0 s0 0 [(0, .ref h0)] [] ([(h0, .inr (11, [.int 0, .null, .int 0]))]) := by
  obtain ⟨⟨l, dC, dI, k, a⟩, p, e, s, m, args, below, meth, c, A⟩ := C
  obtain ⟨⟨hx, hb, hr, htz, hown, hlocks, hml, hE, hK, hA⟩, hin⟩ := X
  intro H locs ls hl hP hD hS
  have hl : lv_has ls 1 [(0, .ref h0)] := hl
  have hP : va_P (dC, dI) classes ([(h0, .inr (11, [.int 0, .null, .int 0]))]) H := hP
  have hD : va_D A ([(h0, .inr (11, [.int 0, .null, .int 0]))]) := hD
  show W p l e (z_rm 2 0 0) s m args below meth c H locs c0 s0 _ (F0 m 0 ls [])
  refine lv_aload_n hx hb d_AL_init_0 rfl (lv_at hl 0 rfl) ?_
  have hPf : va_P (dC, dI) classes (([]) ++ (([(h0, .inr (11, [.int 0, .null, .int 0]))]) ++ ([]))) H := hP
  have hDf : va_D A (([]) ++ (([(h0, .inr (11, [.int 0, .null, .int 0]))]) ++ ([]))) := hD
  have hFc := zfree hDf hS hA
  refine va_callv (va_runI (As := []) (rest := []) ⟨hx, hb, hml, hown, htz⟩ (m_1 H.size) (cwI 0 htz (z_gI (fun _ h => h) m_AB_init) rfl rfl rfl (htz _ ini_AB) (htz _ km_AL_1) (htz _ in_AB_init) rfl (by decide +kernel) ⟨(Nat.le_of_ble_eq_true rfl), (Nat.le_of_ble_eq_true rfl)⟩) ⟨z_blind, fun U hU hW => ⟨rfl, by rw [hU], hE.call hS hFc hU hW, by rw [hU]; exact (zPc hPf), va_K.moved hW.alike hK, (zDc hDf)⟩⟩ rfl rfl hl.1 rfl (lv_room (Nat.le_of_ble_eq_true rfl)) d_AL_init_1 b_1) hS (fun q _ h => hFc q h) hFc (fun u t H1 locs ht hvm hw hB hz1 hk1 hS => ?_)
  obtain ⟨hP1, hK1, hD1⟩ := hB
  rw [ht] at hP1
  obtain ⟨hP, hD⟩ := zf hPf hDf hk1 hFc hP1 hD1
  exact k_1 _ hw H1 locs ls (lv_sub hl [0] rfl) hP hD hS
set_option maxHeartbeats 1000000 in
set_option maxRecDepth 100000 in
theorem k_AL_init_4 {C : CT} (X : cN C "java/util/ArrayList" b_AL_init 1 none) (Post : va_W → Prop) (h0 : Nat) (c0 s0 : Nat)
    (b_11 : c0 ≤ 0 ∧ s0 ≤ 0)
    (q_11 : Post ([(h0, .inr (11, [.int 0, .ref (C.1.2.2.2.1 7), .int 0]))])) : zc_AL_init C Post c0 s0 4 [(0, .ref h0)] [] ([(h0, .inr (11, [.int 0, .null, .int 0]))]) := by
  obtain ⟨⟨l, dC, dI, k, a⟩, p, e, s, m, args, below, meth, c, A⟩ := C
  obtain ⟨⟨hx, hb, hr, htz, hown, hlocks, hml, hE, hK, hA⟩, hin⟩ := X
  intro H locs ls hl hP hD hS
  have hl : lv_has ls 1 [(0, .ref h0)] := hl
  have hP : va_P (dC, dI) classes ([(h0, .inr (11, [.int 0, .null, .int 0]))]) H := hP
  have hD : va_D A ([(h0, .inr (11, [.int 0, .null, .int 0]))]) := hD
  show W p l e (z_rm 2 0 0) s m args below meth c H locs c0 s0 _ (F0 m 4 ls [])
  refine lv_aload_n hx hb d_AL_init_4 rfl (lv_at hl 0 rfl) ?_
  refine va_gets hx hb hE.1.2.1 hS hown (htz _ kf_AL_39) (fun _ h9 => h9) d_AL_init_5 ?_
  refine va_put (D := (dC, dI)) (ci := 11) (v := .ref (k 7)) (ty := .array (.object "java/lang/Object")) (C := R_AL) (T := F_AL) (N := 3) hx hb htz i_AL t_AL o_AL n_AL hown hK hP hD hS 0 rfl rfl 1 (by decide) (htz _ kf_AL_9) (fun _ h9 => h9) rfl (by decide +kernel) rfl rfl (Nat.le_of_ble_eq_true rfl) d_AL_init_8 (fun H locs hP hD hS => ?_)
  have hP : va_P (dC, dI) classes ([(h0, .inr (11, [.int 0, .ref (k 7), .int 0]))]) H := hP
  have hD : va_D A ([(h0, .inr (11, [.int 0, .ref (k 7), .int 0]))]) := hD
  refine W.widen (k := 0) (n := 0) b_11.1 b_11.2 ?_
  exact W.vret hx hb hr (fun t ht hW => ⟨⟨([(h0, .inr (11, [.int 0, .ref (k 7), .int 0]))]), rfl, q_11, by rw [ht]; exact hP, va_K.moved hW.alike hK, hD⟩, hS.F ht⟩) hS.2.2 d_AL_init_11
set_option maxHeartbeats 1000000 in
set_option maxRecDepth 100000 in
theorem e_AL_init (T : ST) (Post : va_W → Prop) (h0 : Nat) (h : ∀ C : CT, C.1 = T → cN C "java/util/ArrayList" b_AL_init 1 none → zc_AL_init C Post 0 0 0 [(0, .ref h0)] [] ([(h0, .inr (11, [.int 0, .null, .int 0]))])) : uV T y_AL_init (Cond.code y_AL_init b_AL_init 1 none) 2 0 0 [.ref h0] ([(h0, .inr (11, [.int 0, .null, .int 0]))]) Post := by
  obtain ⟨l, dC, dI, k, a⟩ := T
  intro sz
  refine Met.ofW (cc := b_AL_init) (maxL := 1) (ret := none) (by decide) rfl ?_
  intro p e s m args below meth c s₁ B hml hv
  obtain ⟨rfl, hsz, hE, hP, hK, hD0⟩ := hv
  have hts := atoms_spec (ws := (Cond.code y_AL_init b_AL_init 1 none) :: z_T) B.pre
  have htz : ∀ w ∈ z_T, w.before _ s = true := fun w h => hts w (z_cons w h)
  subst hsz
  have hD := hD0.self (sz := s.heap.size)
  generalize hAe : va_A ([(h0, .inr (11, [.int 0, .null, .int 0]))]) s.heap.size = A at hD hE ⊢
  have hA : ∀ q : Nat, s.heap.size ≤ q → A q := fun q h => by rw [← hAe]; exact Or.inr h
  have hl := lv_entry ([.ref h0]) (n := 1) (Nat.le_of_ble_eq_true rfl)
  rw [lg_entry_eq]
  generalize (lg_sl ([.ref h0]) ++ List.replicate (1 - (lg_sl ([.ref h0])).length) Slot.unset).toArray = ls at hl ⊢
  exact h ((l, dC, dI, k, a), p, e, s, m, ([.ref h0] : List Value).toArray, below, meth, c, A) rfl ⟨⟨B.exec, B.bytes, B.returns, htz, findClass_of_methodNamed B.named, B.notSynchronized, hml, hE, hK, hA⟩, (name_of_methodNamed B.named B.method).1⟩ s.heap [] ls hl hP hD va_S.rf
def zc_AL_grow1 (C : CT) (Post : Option Nat → va_W → Prop) (c0 s0 pc : Nat) (loc : List (Nat × Value)) (st : List Value) (ws : va_W) : Prop := zW C (z_rm 1 1 10) 4 (oR C 1 10 Post) c0 s0 pc loc st ws
set_option maxHeartbeats 1000000 in
set_option maxRecDepth 100000 in
theorem k_AL_grow1_0 {C : CT} (X : cM C "java/util/ArrayList" b_AL_grow1 4 (some (.array (.object "java/lang/Object")))) (Post : Option Nat → va_W → Prop) (x1 : Int32) (P : va_W) (h0 : Nat) (mc0 : Int32) (c0 s0 : Nat)
    (b_49 : c0 ≤ 1 ∧ s0 ≤ 10)
    (k_52 : zc_AL_grow1 C Post c0 s0 52 [(0, .ref h0), (1, .int x1), (2, .int 0)] [.int (if 10 < x1 then x1 else 10), .ref h0] ([(h0, .inr (11, [.int mc0, .ref (C.1.2.2.2.1 7), .int 0]))] ++ (P))) : zc_AL_grow1 C Post c0 s0 0 [(0, .ref h0), (1, .int x1)] [] ([(h0, .inr (11, [.int mc0, .ref (C.1.2.2.2.1 7), .int 0]))] ++ (P)) := by
  obtain ⟨⟨l, dC, dI, k, a⟩, p, e, s, m, args, below, meth, c, A⟩ := C
  obtain ⟨hx, hb, hr, htz, hown, hlocks, hml, hE, hK, hA⟩ := X
  intro H locs ls hl hP hD hS
  have hl : lv_has ls 4 [(0, .ref h0), (1, .int x1)] := hl
  have hP : va_P (dC, dI) classes ([(h0, .inr (11, [.int mc0, .ref (k 7), .int 0]))] ++ (P)) H := hP
  have hD : va_D A ([(h0, .inr (11, [.int mc0, .ref (k 7), .int 0]))] ++ (P)) := hD
  show W p l e (z_rm 1 1 10) s m args below meth c H locs c0 s0 _ (F0 m 0 ls [])
  refine lv_aload_n hx hb d_AL_grow1_0 rfl (lv_at hl 0 rfl) ?_
  refine va_get (D := (dC, dI)) (ci := 11) (v := .ref (k 7)) (C := R_AL) (T := F_AL) (N := 3) hx hb htz i_AL hown hK hP 0 rfl rfl 1 (by decide) (htz _ kf_AL_9) (fun _ h9 => h9) rfl d_AL_grow1_1 ?_
  refine va_tlen hx hb hE.1.2.2 hS (v := 0) rfl d_AL_grow1_4 ?_
  refine lv_istore_n (lv' := [(2, .int 0), (0, .ref h0), (1, .int x1)]) hx hb d_AL_grow1_5 rfl hl (by decide) rfl (fun ls hl => ?_)
  refine lv_iload_n hx hb d_AL_grow1_6 rfl (lv_at hl 0 rfl) ?_
  refine lv_if_gt (tgt := 20) hx hb d_AL_grow1_7 (by decide) (fun h9 => ?_) (fun h9 => ?_)
  · exact absurd h9 (by decide)
  · refine lv_aload_n hx hb d_AL_grow1_10 rfl (lv_at hl 1 rfl) ?_
    refine va_get (D := (dC, dI)) (ci := 11) (v := .ref (k 7)) (C := R_AL) (T := F_AL) (N := 3) hx hb htz i_AL hown hK hP 0 rfl rfl 1 (by decide) (htz _ kf_AL_9) (fun _ h9 => h9) rfl d_AL_grow1_11 ?_
    refine va_gets hx hb hE.1.2.1 hS hown (htz _ kf_AL_39) (fun _ h9 => h9) d_AL_grow1_14 ?_
    refine lv_acmp_eq (rx := some (k 7)) (ry := some (k 7)) (tgt := 45) hx hb d_AL_grow1_17 (by decide) (fun _ => ?_) (fun h9 => absurd rfl h9)
    refine lv_aload_n hx hb d_AL_grow1_45 rfl (lv_at hl 1 rfl) ?_
    refine lv_bipush (v := 10) hx hb d_AL_grow1_46 (by decide) ?_
    refine lv_iload_n hx hb d_AL_grow1_48 rfl (lv_at hl 2 rfl) ?_
    refine va_mmax hx hb (hml.trans hl.1.symm) hown (htz _ km_AL_79) (htz _ st_Ma_max) (htz _ ini_Ma) (htz _ m_Ma_max) (Nat.le_of_ble_eq_true rfl) (Nat.le_of_ble_eq_true rfl) b_49.1 b_49.2 d_AL_grow1_49 ?_
    exact k_52 H locs ls (lv_sub hl [1, 2, 0] rfl) hP hD hS
set_option maxHeartbeats 1000000 in
set_option maxRecDepth 100000 in
theorem k_AL_grow1_52 {C : CT} (X : cM C "java/util/ArrayList" b_AL_grow1 4 (some (.array (.object "java/lang/Object")))) (Post : Option Nat → va_W → Prop) (x1 : Int32) (x2 : Int32) (P : va_W) (h0 : Nat) (mc0 : Int32) (c0 s0 : Nat)
    (b_52 : c0 + 1 ≤ 1 ∧ s0 + 10 ≤ 10)
    (b_59 : ∀ w52 : Nat, c0 + 1 ≤ 1 ∧ s0 + 10 ≤ 10)
    (q_59 : ∀ w52 : Nat, Post (some w52) ([(w52, .inl (C.1.2.2.2.1 6, 10, .inr (.inr (.inr (.inr (fun _ => none)))))), (h0, .inr (11, [.int mc0, .ref w52, .int 0]))] ++ (P))) : zc_AL_grow1 C Post c0 s0 52 [(0, .ref h0), (1, .int x1), (2, .int x2)] [.int 10, .ref h0] ([(h0, .inr (11, [.int mc0, .ref (C.1.2.2.2.1 7), .int 0]))] ++ (P)) := by
  obtain ⟨⟨l, dC, dI, k, a⟩, p, e, s, m, args, below, meth, c, A⟩ := C
  obtain ⟨hx, hb, hr, htz, hown, hlocks, hml, hE, hK, hA⟩ := X
  intro H locs ls hl hP hD hS
  have hl : lv_has ls 4 [(0, .ref h0), (1, .int x1), (2, .int x2)] := hl
  have hP : va_P (dC, dI) classes ([(h0, .inr (11, [.int mc0, .ref (k 7), .int 0]))] ++ (P)) H := hP
  have hD : va_D A ([(h0, .inr (11, [.int mc0, .ref (k 7), .int 0]))] ++ (P)) := hD
  show W p l e (z_rm 1 1 10) s m args below meth c H locs c0 s0 _ (F0 m 52 ls [.int 10, .ref h0])
  refine z_newq hx hb hown (htz _ kc_AL_7) (hE.2.2.1 _ (by decide)) hK hP hD hS hA 6 rfl (by decide) (N' := 10) (by decide) (Nat.le_of_ble_eq_true rfl) b_52.1 b_52.2 d_AL_grow1_52 (fun w52 H hP hD hS => ?_)
  replace hP := zsP hP
  replace hD := zsD hD
  have hP : va_P (dC, dI) classes ([(w52, .inl (k 6, 10, .inr (.inr (.inr (.inr (fun _ => none)))))), (h0, .inr (11, [.int mc0, .ref (k 7), .int 0]))] ++ (P)) H := hP
  have hD : va_D A ([(w52, .inl (k 6, 10, .inr (.inr (.inr (.inr (fun _ => none)))))), (h0, .inr (11, [.int mc0, .ref (k 7), .int 0]))] ++ (P)) := hD
  refine lv_dup_x1 hx hb d_AL_grow1_55 rfl rfl ?_
  refine va_put (D := (dC, dI)) (ci := 11) (v := .ref w52) (ty := .array (.object "java/lang/Object")) (C := R_AL) (T := F_AL) (N := 3) hx hb htz i_AL t_AL o_AL n_AL hown hK hP hD hS 1 rfl rfl 1 (by decide) (htz _ kf_AL_9) (fun _ h9 => h9) rfl (by decide +kernel) rfl rfl (Nat.le_of_ble_eq_true rfl) d_AL_grow1_56 (fun H locs hP hD hS => ?_)
  have hP : va_P (dC, dI) classes ([(w52, .inl (k 6, 10, .inr (.inr (.inr (.inr (fun _ => none)))))), (h0, .inr (11, [.int mc0, .ref w52, .int 0]))] ++ (P)) H := hP
  have hD : va_D A ([(w52, .inl (k 6, 10, .inr (.inr (.inr (.inr (fun _ => none)))))), (h0, .inr (11, [.int mc0, .ref w52, .int 0]))] ++ (P)) := hD
  refine W.widen (k := 1) (n := 10) (b_59 w52).1 (b_59 w52).2 ?_
  exact W.aret (v := .ref w52) hx hb hr (Or.inr ⟨_, rfl⟩) (Or.inr ⟨_, rfl⟩) (fun t ht hW => ⟨⟨(some w52), ([(w52, .inl (k 6, 10, .inr (.inr (.inr (.inr (fun _ => none)))))), (h0, .inr (11, [.int mc0, .ref w52, .int 0]))] ++ (P)), rfl, (q_59 w52), by rw [ht]; exact hP, va_K.moved hW.alike hK, hD⟩, hS.F ht⟩) hS.2.2 d_AL_grow1_59
set_option maxHeartbeats 1000000 in
set_option maxRecDepth 100000 in
theorem e_AL_grow1 (T : ST) (Post : Option Nat → va_W → Prop) (x1 : Int32) (P : va_W) (h0 : Nat) (mc0 : Int32) (h : ∀ C : CT, C.1 = T → cM C "java/util/ArrayList" b_AL_grow1 4 (some (.array (.object "java/lang/Object"))) → zc_AL_grow1 C Post 0 0 0 [(0, .ref h0), (1, .int x1)] [] ([(h0, .inr (11, [.int mc0, .ref (C.1.2.2.2.1 7), .int 0]))] ++ (P))) : uR T y_AL_grow1 (Cond.code y_AL_grow1 b_AL_grow1 4 (some (.array (.object "java/lang/Object")))) 1 1 10 [.ref h0, .int x1] ([(h0, .inr (11, [.int mc0, .ref (T.2.2.2.1 7), .int 0]))] ++ (P)) Post := by
  obtain ⟨l, dC, dI, k, a⟩ := T
  intro sz
  refine Met.ofW (cc := b_AL_grow1) (maxL := 4) (ret := (some (.array (.object "java/lang/Object")))) (by decide) rfl ?_
  intro p e s m args below meth c s₁ B hml hv
  obtain ⟨rfl, hsz, hE, hP, hK, hD0⟩ := hv
  have hts := atoms_spec (ws := (Cond.code y_AL_grow1 b_AL_grow1 4 (some (.array (.object "java/lang/Object")))) :: z_T) B.pre
  have htz : ∀ w ∈ z_T, w.before _ s = true := fun w h => hts w (z_cons w h)
  subst hsz
  have hD := hD0.self (sz := s.heap.size)
  generalize hAe : va_A ([(h0, .inr (11, [.int mc0, .ref (k 7), .int 0]))] ++ (P)) s.heap.size = A at hD hE ⊢
  have hA : ∀ q : Nat, s.heap.size ≤ q → A q := fun q h => by rw [← hAe]; exact Or.inr h
  have hl := lv_entry ([.ref h0, .int x1]) (n := 4) (Nat.le_of_ble_eq_true rfl)
  rw [lg_entry_eq]
  generalize (lg_sl ([.ref h0, .int x1]) ++ List.replicate (4 - (lg_sl ([.ref h0, .int x1])).length) Slot.unset).toArray = ls at hl ⊢
  exact h ((l, dC, dI, k, a), p, e, s, m, ([.ref h0, .int x1] : List Value).toArray, below, meth, c, A) rfl ⟨B.exec, B.bytes, B.returns, htz, findClass_of_methodNamed B.named, B.notSynchronized, hml, hE, hK, hA⟩ s.heap [] ls hl hP hD va_S.rf
def zc_AL_grow (C : CT) (Post : Option Nat → va_W → Prop) (c0 s0 pc : Nat) (loc : List (Nat × Value)) (st : List Value) (ws : va_W) : Prop := zW C (z_rm 2 1 10) 1 (oR C 1 10 Post) c0 s0 pc loc st ws
set_option maxHeartbeats 1000000 in
set_option maxRecDepth 100000 in
theorem k_AL_grow_0 {C : CT} (X : cM C "java/util/ArrayList" b_AL_grow 1 (some (.array (.object "java/lang/Object")))) (Post : Option Nat → va_W → Prop) {P_7 : Option Nat → va_W → Prop} (P : va_W) (h0 : Nat) (mc0 : Int32) (c0 s0 : Nat)
    (b_7 : c0 + 1 ≤ 1 ∧ s0 + 10 ≤ 10)
    (m_7 : uR C.1 y_AL_grow1 (Cond.code y_AL_grow1 b_AL_grow1 4 (some (.array (.object "java/lang/Object")))) 1 1 10 [.ref h0, .int (0 + 1)] ([(h0, .inr (11, [.int mc0, .ref (C.1.2.2.2.1 7), .int 0]))] ++ (P)) P_7)
    (k_7 : ∀ (r : Option Nat) (u : va_W), P_7 r u → zc_AL_grow C Post (c0 + 1) (s0 + 10) 10 [(0, .ref h0)] [va_rf r] (u)) : zc_AL_grow C Post c0 s0 0 [(0, .ref h0)] [] ([(h0, .inr (11, [.int mc0, .ref (C.1.2.2.2.1 7), .int 0]))] ++ (P)) := by
  obtain ⟨⟨l, dC, dI, k, a⟩, p, e, s, m, args, below, meth, c, A⟩ := C
  obtain ⟨hx, hb, hr, htz, hown, hlocks, hml, hE, hK, hA⟩ := X
  intro H locs ls hl hP hD hS
  have hl : lv_has ls 1 [(0, .ref h0)] := hl
  have hP : va_P (dC, dI) classes ([(h0, .inr (11, [.int mc0, .ref (k 7), .int 0]))] ++ (P)) H := hP
  have hD : va_D A ([(h0, .inr (11, [.int mc0, .ref (k 7), .int 0]))] ++ (P)) := hD
  show W p l e (z_rm 2 1 10) s m args below meth c H locs c0 s0 _ (F0 m 0 ls [])
  refine lv_aload_n hx hb d_AL_grow_0 rfl (lv_at hl 0 rfl) ?_
  refine lv_aload_n hx hb d_AL_grow_1 rfl (lv_at hl 0 rfl) ?_
  refine va_get (D := (dC, dI)) (ci := 11) (v := .int 0) (C := R_AL) (T := F_AL) (N := 3) hx hb htz i_AL hown hK hP 0 rfl rfl 2 (by decide) (htz _ kf_AL_48) (fun _ h9 => h9) rfl d_AL_grow_2 ?_
  refine lv_iconst (v := 1) hx hb d_AL_grow_5 (by decide) ?_
  refine lv_iadd hx hb d_AL_grow_6 ?_
  have hFc : ∀ q, va_A ([(h0, .inr (11, [.int mc0, .ref (k 7), .int 0]))] ++ (P)) H.size q → A q := fun q h => h.elim (fun z => by obtain ⟨i9, e9, h9⟩ := z; exact hD.2 i9 _ h9) (fun z => hA q (Nat.le_trans hS.1 z))
  refine va_callq (va_runV (As := [.int (0 + 1)]) (rest := []) ⟨hx, hb, hml, hown, htz⟩ (m_7 H.size) (cwV 1 htz (z_gV (fun _ h => h) km_AL_69 in_AL_grow1 se_AL_grow1 ini_AL m_AL_grow1) rfl rfl rfl (by decide +kernel) ⟨(Nat.le_of_ble_eq_true rfl), (Nat.le_of_ble_eq_true rfl)⟩) ⟨z_blind, va_recv hK hP (ci := 11) (q0 := 0) rfl rfl, fun U hU hW => ⟨rfl, by rw [hU], hE.call hS hFc hU hW, by rw [hU]; exact hP, va_K.moved hW.alike hK, (hD.weaken (fun _ _ _ _ => trivial))⟩⟩ rfl rfl hl.1 rfl (lv_room (Nat.le_of_ble_eq_true rfl)) d_AL_grow_7 b_7) hS (fun q _ h => hFc q h) hFc (fun r u t H1 locs ht hvm hw hB hz1 hk1 hS => ?_)
  obtain ⟨hP1, hK1, hD1⟩ := hB
  rw [ht] at hP1
  have hP := hP1
  have hD := hD1.weaken (fun _ q _ h => hFc _ h)
  exact k_7 r _ hw H1 locs ls (lv_sub hl [0] rfl) hP hD hS
set_option maxHeartbeats 1000000 in
set_option maxRecDepth 100000 in
theorem k_AL_grow_10 {C : CT} (X : cM C "java/util/ArrayList" b_AL_grow 1 (some (.array (.object "java/lang/Object")))) (Post : Option Nat → va_W → Prop) (y0 : Nat) (P : va_W) (h0 : Nat) (mc0 : Int32) (c0 s0 : Nat)
    (b_10 : c0 ≤ 1 ∧ s0 ≤ 10)
    (q_10 : Post (some y0) (P)) : zc_AL_grow C Post c0 s0 10 [(0, .ref h0)] [.ref y0] (P) := by
  obtain ⟨⟨l, dC, dI, k, a⟩, p, e, s, m, args, below, meth, c, A⟩ := C
  obtain ⟨hx, hb, hr, htz, hown, hlocks, hml, hE, hK, hA⟩ := X
  intro H locs ls hl hP hD hS
  have hl : lv_has ls 1 [(0, .ref h0)] := hl
  have hP : va_P (dC, dI) classes (P) H := hP
  have hD : va_D A (P) := hD
  show W p l e (z_rm 2 1 10) s m args below meth c H locs c0 s0 _ (F0 m 10 ls [.ref y0])
  refine W.widen (k := 1) (n := 10) b_10.1 b_10.2 ?_
  exact W.aret (v := .ref y0) hx hb hr (Or.inr ⟨_, rfl⟩) (Or.inr ⟨_, rfl⟩) (fun t ht hW => ⟨⟨(some y0), (P), rfl, q_10, by rw [ht]; exact hP, va_K.moved hW.alike hK, hD⟩, hS.F ht⟩) hS.2.2 d_AL_grow_10
set_option maxHeartbeats 1000000 in
set_option maxRecDepth 100000 in
theorem e_AL_grow (T : ST) (Post : Option Nat → va_W → Prop) (P : va_W) (h0 : Nat) (mc0 : Int32) (h : ∀ C : CT, C.1 = T → cM C "java/util/ArrayList" b_AL_grow 1 (some (.array (.object "java/lang/Object"))) → zc_AL_grow C Post 0 0 0 [(0, .ref h0)] [] ([(h0, .inr (11, [.int mc0, .ref (C.1.2.2.2.1 7), .int 0]))] ++ (P))) : uR T y_AL_grow (Cond.code y_AL_grow b_AL_grow 1 (some (.array (.object "java/lang/Object")))) 2 1 10 [.ref h0] ([(h0, .inr (11, [.int mc0, .ref (T.2.2.2.1 7), .int 0]))] ++ (P)) Post := by
  obtain ⟨l, dC, dI, k, a⟩ := T
  intro sz
  refine Met.ofW (cc := b_AL_grow) (maxL := 1) (ret := (some (.array (.object "java/lang/Object")))) (by decide) rfl ?_
  intro p e s m args below meth c s₁ B hml hv
  obtain ⟨rfl, hsz, hE, hP, hK, hD0⟩ := hv
  have hts := atoms_spec (ws := (Cond.code y_AL_grow b_AL_grow 1 (some (.array (.object "java/lang/Object")))) :: z_T) B.pre
  have htz : ∀ w ∈ z_T, w.before _ s = true := fun w h => hts w (z_cons w h)
  subst hsz
  have hD := hD0.self (sz := s.heap.size)
  generalize hAe : va_A ([(h0, .inr (11, [.int mc0, .ref (k 7), .int 0]))] ++ (P)) s.heap.size = A at hD hE ⊢
  have hA : ∀ q : Nat, s.heap.size ≤ q → A q := fun q h => by rw [← hAe]; exact Or.inr h
  have hl := lv_entry ([.ref h0]) (n := 1) (Nat.le_of_ble_eq_true rfl)
  rw [lg_entry_eq]
  generalize (lg_sl ([.ref h0]) ++ List.replicate (1 - (lg_sl ([.ref h0])).length) Slot.unset).toArray = ls at hl ⊢
  exact h ((l, dC, dI, k, a), p, e, s, m, ([.ref h0] : List Value).toArray, below, meth, c, A) rfl ⟨B.exec, B.bytes, B.returns, htz, findClass_of_methodNamed B.named, B.notSynchronized, hml, hE, hK, hA⟩ s.heap [] ls hl hP hD va_S.rf
def zc_AL_add3_J0 (C : CT) (Post : va_W → Prop) (c0 s0 pc : Nat) (loc : List (Nat × Value)) (st : List Value) (ws : va_W) : Prop := zW C (z_rm 3 1 10) 4 (oV C 1 10 Post) c0 s0 pc loc st ws
set_option maxHeartbeats 1000000 in
set_option maxRecDepth 100000 in
theorem k_AL_add3_J0_0 {C : CT} (X : cM C "java/util/ArrayList" b_AL_add3 4 none) (Post : va_W → Prop) {P_7 : Option Nat → va_W → Prop} (x1 : Nat) (P : va_W) (h0 : Nat) (mc0 : Int32) (vs : List Value) (e0 : Nat) (i1 : Nat) (c0 s0 : Nat) (hf : P[i1]? = some (x1, .inr (8, vs)))
    (b_7 : c0 + 1 ≤ 1 ∧ s0 + 10 ≤ 10)
    (m_7 : uR C.1 y_AL_grow (Cond.code y_AL_grow b_AL_grow 1 (some (.array (.object "java/lang/Object")))) 2 1 10 [.ref h0] ([(h0, .inr (11, [.int mc0, .ref (C.1.2.2.2.1 7), .int 0]))] ++ (P)) P_7)
    (k_7 : ∀ (r : Option Nat) (u : va_W), P_7 r u → zc_AL_add3_J0 C Post (c0 + 1) (s0 + 10) 10 [(0, .ref h0), (1, .ref x1), (2, .ref (C.1.2.2.2.1 7)), (3, .int 0)] [va_rf r] (u)) : zc_AL_add3_J0 C Post c0 s0 0 [(0, .ref h0), (1, .ref x1), (2, .ref (C.1.2.2.2.1 7)), (3, .int 0)] [] ([(h0, .inr (11, [.int mc0, .ref (C.1.2.2.2.1 7), .int 0]))] ++ (P)) := by
  obtain ⟨⟨l, dC, dI, k, a⟩, p, e, s, m, args, below, meth, c, A⟩ := C
  obtain ⟨hx, hb, hr, htz, hown, hlocks, hml, hE, hK, hA⟩ := X
  intro H locs ls hl hP hD hS
  have hl : lv_has ls 4 [(0, .ref h0), (1, .ref x1), (2, .ref (k 7)), (3, .int 0)] := hl
  have hP : va_P (dC, dI) classes ([(h0, .inr (11, [.int mc0, .ref (k 7), .int 0]))] ++ (P)) H := hP
  have hD : va_D A ([(h0, .inr (11, [.int mc0, .ref (k 7), .int 0]))] ++ (P)) := hD
  show W p l e (z_rm 3 1 10) s m args below meth c H locs c0 s0 _ (F0 m 0 ls [])
  refine lv_iload_n hx hb d_AL_add3_0 rfl (lv_at hl 3 rfl) ?_
  refine lv_aload_n hx hb d_AL_add3_1 rfl (lv_at hl 2 rfl) ?_
  refine va_tlen hx hb hE.1.2.2 hS (v := 0) rfl d_AL_add3_2 ?_
  refine lv_icmp_ne (tgt := 11) hx hb d_AL_add3_3 (by decide) (fun h9 => ?_) (fun h9 => ?_)
  · exact absurd (by decide) h9
  · refine lv_aload_n hx hb d_AL_add3_6 rfl (lv_at hl 0 rfl) ?_
    have hFc : ∀ q, va_A ([(h0, .inr (11, [.int mc0, .ref (k 7), .int 0]))] ++ (P)) H.size q → A q := fun q h => h.elim (fun z => by obtain ⟨i9, e9, h9⟩ := z; exact hD.2 i9 _ h9) (fun z => hA q (Nat.le_trans hS.1 z))
    refine va_callq (va_runV (As := []) (rest := []) ⟨hx, hb, hml, hown, htz⟩ (m_7 H.size) (cwV 0 htz (z_gV (fun _ h => h) km_AL_129 in_AL_grow se_AL_grow ini_AL m_AL_grow) rfl rfl rfl (by decide +kernel) ⟨(Nat.le_of_ble_eq_true rfl), (Nat.le_of_ble_eq_true rfl)⟩) ⟨z_blind, va_recv hK hP (ci := 11) (q0 := 0) rfl rfl, fun U hU hW => ⟨rfl, by rw [hU], hE.call hS hFc hU hW, by rw [hU]; exact hP, va_K.moved hW.alike hK, (hD.weaken (fun _ _ _ _ => trivial))⟩⟩ rfl rfl hl.1 rfl (lv_room (Nat.le_of_ble_eq_true rfl)) d_AL_add3_7 b_7) hS (fun q _ h => hFc q h) hFc (fun r u t H1 locs ht hvm hw hB hz1 hk1 hS => ?_)
    obtain ⟨hP1, hK1, hD1⟩ := hB
    rw [ht] at hP1
    have hP := hP1
    have hD := hD1.weaken (fun _ q _ h => hFc _ h)
    exact k_7 r _ hw H1 locs ls (lv_sub hl [0, 1, 2, 3] rfl) hP hD hS
set_option maxHeartbeats 1000000 in
set_option maxRecDepth 100000 in
theorem k_AL_add3_J0_10 {C : CT} (X : cM C "java/util/ArrayList" b_AL_add3 4 none) (Post : va_W → Prop) (x1 : Nat) (P : va_W) (h0 : Nat) (mc0 : Int32) (vs : List Value) (e0 : Nat) (i1 : Nat) (c0 s0 : Nat) (hf : P[i1]? = some (x1, .inr (8, vs)))
    (h_14 : vp_in (0) 10)
    (b_22 : c0 ≤ 1 ∧ s0 ≤ 10)
    (q_22 : Post ([(e0, .inl (C.1.2.2.2.1 6, 10, .inr (.inr (.inr (.inr (va_up (fun _ => none) (0 : Int32).toNatClampNeg (some x1))))))), (h0, .inr (11, [.int mc0, .ref e0, .int (0 + 1)]))] ++ (P))) : zc_AL_add3_J0 C Post c0 s0 10 [(0, .ref h0), (1, .ref x1), (2, .ref (C.1.2.2.2.1 7)), (3, .int 0)] [.ref e0] ([(e0, .inl (C.1.2.2.2.1 6, 10, .inr (.inr (.inr (.inr (fun _ => none)))))), (h0, .inr (11, [.int mc0, .ref e0, .int 0]))] ++ (P)) := by
  obtain ⟨⟨l, dC, dI, k, a⟩, p, e, s, m, args, below, meth, c, A⟩ := C
  obtain ⟨hx, hb, hr, htz, hown, hlocks, hml, hE, hK, hA⟩ := X
  intro H locs ls hl hP hD hS
  have hl : lv_has ls 4 [(0, .ref h0), (1, .ref x1), (2, .ref (k 7)), (3, .int 0)] := hl
  have hP : va_P (dC, dI) classes ([(e0, .inl (k 6, 10, .inr (.inr (.inr (.inr (fun _ => none)))))), (h0, .inr (11, [.int mc0, .ref e0, .int 0]))] ++ (P)) H := hP
  have hD : va_D A ([(e0, .inl (k 6, 10, .inr (.inr (.inr (.inr (fun _ => none)))))), (h0, .inr (11, [.int mc0, .ref e0, .int 0]))] ++ (P)) := hD
  show W p l e (z_rm 3 1 10) s m args below meth c H locs c0 s0 _ (F0 m 10 ls [.ref e0])
  refine lv_astore_n (lv' := [(2, .ref e0), (0, .ref h0), (1, .ref x1), (3, .int 0)]) hx hb d_AL_add3_10 rfl hl (by decide) rfl (fun ls hl => ?_)
  refine lv_aload_n hx hb d_AL_add3_11 rfl (lv_at hl 0 rfl) ?_
  refine lv_iload_n hx hb d_AL_add3_12 rfl (lv_at hl 3 rfl) ?_
  refine lv_aload_n hx hb d_AL_add3_13 rfl (lv_at hl 2 rfl) ?_
  refine va_astqO hx hb hK hP hD hS 0 6 (i1 + 2) 8 rfl rfl (hE.2.1 _ co_Ju) hf rfl h_14 d_AL_add3_14 (fun H locs hP hD hS => ?_)
  have hP : va_P (dC, dI) classes ([(e0, .inl (k 6, 10, .inr (.inr (.inr (.inr (va_up (fun _ => none) (0 : Int32).toNatClampNeg (some x1))))))), (h0, .inr (11, [.int mc0, .ref e0, .int 0]))] ++ (P)) H := hP
  have hD : va_D A ([(e0, .inl (k 6, 10, .inr (.inr (.inr (.inr (va_up (fun _ => none) (0 : Int32).toNatClampNeg (some x1))))))), (h0, .inr (11, [.int mc0, .ref e0, .int 0]))] ++ (P)) := hD
  refine lv_aload_n hx hb d_AL_add3_15 rfl (lv_at hl 1 rfl) ?_
  refine lv_iload_n hx hb d_AL_add3_16 rfl (lv_at hl 3 rfl) ?_
  refine lv_iconst (v := 1) hx hb d_AL_add3_17 (by decide) ?_
  refine lv_iadd hx hb d_AL_add3_18 ?_
  refine va_put (D := (dC, dI)) (ci := 11) (v := .int (0 + 1)) (ty := .int) (C := R_AL) (T := F_AL) (N := 3) hx hb htz i_AL t_AL o_AL n_AL hown hK hP hD hS 1 rfl rfl 2 (by decide) (htz _ kf_AL_48) (fun _ h9 => h9) rfl (by decide +kernel) rfl rfl (Nat.le_of_ble_eq_true rfl) d_AL_add3_19 (fun H locs hP hD hS => ?_)
  have hP : va_P (dC, dI) classes ([(e0, .inl (k 6, 10, .inr (.inr (.inr (.inr (va_up (fun _ => none) (0 : Int32).toNatClampNeg (some x1))))))), (h0, .inr (11, [.int mc0, .ref e0, .int (0 + 1)]))] ++ (P)) H := hP
  have hD : va_D A ([(e0, .inl (k 6, 10, .inr (.inr (.inr (.inr (va_up (fun _ => none) (0 : Int32).toNatClampNeg (some x1))))))), (h0, .inr (11, [.int mc0, .ref e0, .int (0 + 1)]))] ++ (P)) := hD
  refine W.widen (k := 1) (n := 10) b_22.1 b_22.2 ?_
  exact W.vret hx hb hr (fun t ht hW => ⟨⟨([(e0, .inl (k 6, 10, .inr (.inr (.inr (.inr (va_up (fun _ => none) (0 : Int32).toNatClampNeg (some x1))))))), (h0, .inr (11, [.int mc0, .ref e0, .int (0 + 1)]))] ++ (P)), rfl, q_22, by rw [ht]; exact hP, va_K.moved hW.alike hK, hD⟩, hS.F ht⟩) hS.2.2 d_AL_add3_22
set_option maxHeartbeats 1000000 in
set_option maxRecDepth 100000 in
theorem e_AL_add3_J0 (T : ST) (Post : va_W → Prop) (x1 : Nat) (P : va_W) (h0 : Nat) (mc0 : Int32) (vs : List Value) (e0 : Nat) (h : ∀ C : CT, C.1 = T → cM C "java/util/ArrayList" b_AL_add3 4 none → zc_AL_add3_J0 C Post 0 0 0 [(0, .ref h0), (1, .ref x1), (2, .ref (C.1.2.2.2.1 7)), (3, .int 0)] [] ([(h0, .inr (11, [.int mc0, .ref (C.1.2.2.2.1 7), .int 0]))] ++ (P))) : uV T y_AL_add3 (Cond.code y_AL_add3 b_AL_add3 4 none) 3 1 10 [.ref h0, .ref x1, .ref (T.2.2.2.1 7), .int 0] ([(h0, .inr (11, [.int mc0, .ref (T.2.2.2.1 7), .int 0]))] ++ (P)) Post := by
  obtain ⟨l, dC, dI, k, a⟩ := T
  intro sz
  refine Met.ofW (cc := b_AL_add3) (maxL := 4) (ret := none) (by decide) rfl ?_
  intro p e s m args below meth c s₁ B hml hv
  obtain ⟨rfl, hsz, hE, hP, hK, hD0⟩ := hv
  have hts := atoms_spec (ws := (Cond.code y_AL_add3 b_AL_add3 4 none) :: z_T) B.pre
  have htz : ∀ w ∈ z_T, w.before _ s = true := fun w h => hts w (z_cons w h)
  subst hsz
  have hD := hD0.self (sz := s.heap.size)
  generalize hAe : va_A ([(h0, .inr (11, [.int mc0, .ref (k 7), .int 0]))] ++ (P)) s.heap.size = A at hD hE ⊢
  have hA : ∀ q : Nat, s.heap.size ≤ q → A q := fun q h => by rw [← hAe]; exact Or.inr h
  have hl := lv_entry ([.ref h0, .ref x1, .ref (k 7), .int 0]) (n := 4) (Nat.le_of_ble_eq_true rfl)
  rw [lg_entry_eq]
  generalize (lg_sl ([.ref h0, .ref x1, .ref (k 7), .int 0]) ++ List.replicate (4 - (lg_sl ([.ref h0, .ref x1, .ref (k 7), .int 0])).length) Slot.unset).toArray = ls at hl ⊢
  exact h ((l, dC, dI, k, a), p, e, s, m, ([.ref h0, .ref x1, .ref (k 7), .int 0] : List Value).toArray, below, meth, c, A) rfl ⟨B.exec, B.bytes, B.returns, htz, findClass_of_methodNamed B.named, B.notSynchronized, hml, hE, hK, hA⟩ s.heap [] ls hl hP hD va_S.rf
def zc_AL_add3_J1 (C : CT) (Post : va_W → Prop) (c0 s0 pc : Nat) (loc : List (Nat × Value)) (st : List Value) (ws : va_W) : Prop := zW C (z_rm 3 1 10) 4 (oV C 1 10 Post) c0 s0 pc loc st ws
set_option maxHeartbeats 1000000 in
set_option maxRecDepth 100000 in
theorem k_AL_add3_J1_0 {C : CT} (X : cM C "java/util/ArrayList" b_AL_add3 4 none) (Post : va_W → Prop) (x1 : Nat) (P : va_W) (h0 : Nat) (mc0 : Int32) (vs : List Value) (e0 : Nat) (sz : Nat) (fa : Nat → Option Nat) (i1 : Nat) (c0 s0 : Nat) (hf : P[i1]? = some (x1, .inr (8, vs)))
    (h_14 : (¬ nI sz = nI 10) → vp_in (nI sz) 10)
    (b_22 : (¬ nI sz = nI 10) → c0 ≤ 1 ∧ s0 ≤ 10)
    (q_22 : (¬ nI sz = nI 10) → Post ([(h0, .inr (11, [.int mc0, .ref e0, .int ((nI sz) + 1)])), (e0, .inl (C.1.2.2.2.1 6, 10, .inr (.inr (.inr (.inr (va_up fa (nI sz : Int32).toNatClampNeg (some x1)))))))] ++ (P)))
    (z_6 : (nI sz = nI 10) → False) : zc_AL_add3_J1 C Post c0 s0 0 [(0, .ref h0), (1, .ref x1), (2, .ref e0), (3, .int (nI sz))] [] ([(h0, .inr (11, [.int mc0, .ref e0, .int (nI sz)])), (e0, .inl (C.1.2.2.2.1 6, 10, .inr (.inr (.inr (.inr fa)))))] ++ (P)) := by
  obtain ⟨⟨l, dC, dI, k, a⟩, p, e, s, m, args, below, meth, c, A⟩ := C
  obtain ⟨hx, hb, hr, htz, hown, hlocks, hml, hE, hK, hA⟩ := X
  intro H locs ls hl hP hD hS
  have hl : lv_has ls 4 [(0, .ref h0), (1, .ref x1), (2, .ref e0), (3, .int (nI sz))] := hl
  have hP : va_P (dC, dI) classes ([(h0, .inr (11, [.int mc0, .ref e0, .int (nI sz)])), (e0, .inl (k 6, 10, .inr (.inr (.inr (.inr fa)))))] ++ (P)) H := hP
  have hD : va_D A ([(h0, .inr (11, [.int mc0, .ref e0, .int (nI sz)])), (e0, .inl (k 6, 10, .inr (.inr (.inr (.inr fa)))))] ++ (P)) := hD
  show W p l e (z_rm 3 1 10) s m args below meth c H locs c0 s0 _ (F0 m 0 ls [])
  refine lv_iload_n hx hb d_AL_add3_0 rfl (lv_at hl 3 rfl) ?_
  refine lv_aload_n hx hb d_AL_add3_1 rfl (lv_at hl 2 rfl) ?_
  refine va_alen hx hb hK hP 1 6 rfl rfl (v := nI 10) rfl d_AL_add3_2 ?_
  refine lv_icmp_ne (tgt := 11) hx hb d_AL_add3_3 (by decide) (fun c_3 => ?_) (fun c_3 => ?_)
  · refine lv_aload_n hx hb d_AL_add3_11 rfl (lv_at hl 2 rfl) ?_
    refine lv_iload_n hx hb d_AL_add3_12 rfl (lv_at hl 3 rfl) ?_
    refine lv_aload_n hx hb d_AL_add3_13 rfl (lv_at hl 1 rfl) ?_
    refine va_astqO hx hb hK hP hD hS 1 6 (i1 + 2) 8 rfl rfl (hE.2.1 _ co_Ju) hf rfl (h_14 c_3) d_AL_add3_14 (fun H locs hP hD hS => ?_)
    have hP : va_P (dC, dI) classes ([(h0, .inr (11, [.int mc0, .ref e0, .int (nI sz)])), (e0, .inl (k 6, 10, .inr (.inr (.inr (.inr (va_up fa (nI sz : Int32).toNatClampNeg (some x1)))))))] ++ (P)) H := hP
    have hD : va_D A ([(h0, .inr (11, [.int mc0, .ref e0, .int (nI sz)])), (e0, .inl (k 6, 10, .inr (.inr (.inr (.inr (va_up fa (nI sz : Int32).toNatClampNeg (some x1)))))))] ++ (P)) := hD
    refine lv_aload_n hx hb d_AL_add3_15 rfl (lv_at hl 0 rfl) ?_
    refine lv_iload_n hx hb d_AL_add3_16 rfl (lv_at hl 3 rfl) ?_
    refine lv_iconst (v := 1) hx hb d_AL_add3_17 (by decide) ?_
    refine lv_iadd hx hb d_AL_add3_18 ?_
    refine va_put (D := (dC, dI)) (ci := 11) (v := .int ((nI sz) + 1)) (ty := .int) (C := R_AL) (T := F_AL) (N := 3) hx hb htz i_AL t_AL o_AL n_AL hown hK hP hD hS 0 rfl rfl 2 (by decide) (htz _ kf_AL_48) (fun _ h9 => h9) rfl (by decide +kernel) rfl rfl (Nat.le_of_ble_eq_true rfl) d_AL_add3_19 (fun H locs hP hD hS => ?_)
    have hP : va_P (dC, dI) classes ([(h0, .inr (11, [.int mc0, .ref e0, .int ((nI sz) + 1)])), (e0, .inl (k 6, 10, .inr (.inr (.inr (.inr (va_up fa (nI sz : Int32).toNatClampNeg (some x1)))))))] ++ (P)) H := hP
    have hD : va_D A ([(h0, .inr (11, [.int mc0, .ref e0, .int ((nI sz) + 1)])), (e0, .inl (k 6, 10, .inr (.inr (.inr (.inr (va_up fa (nI sz : Int32).toNatClampNeg (some x1)))))))] ++ (P)) := hD
    refine W.widen (k := 1) (n := 10) (b_22 c_3).1 (b_22 c_3).2 ?_
    exact W.vret hx hb hr (fun t ht hW => ⟨⟨([(h0, .inr (11, [.int mc0, .ref e0, .int ((nI sz) + 1)])), (e0, .inl (k 6, 10, .inr (.inr (.inr (.inr (va_up fa (nI sz : Int32).toNatClampNeg (some x1)))))))] ++ (P)), rfl, (q_22 c_3), by rw [ht]; exact hP, va_K.moved hW.alike hK, hD⟩, hS.F ht⟩) hS.2.2 d_AL_add3_22
  · exact (z_6 c_3).elim
set_option maxHeartbeats 1000000 in
set_option maxRecDepth 100000 in
theorem e_AL_add3_J1 (T : ST) (Post : va_W → Prop) (x1 : Nat) (P : va_W) (h0 : Nat) (mc0 : Int32) (vs : List Value) (e0 : Nat) (sz : Nat) (fa : Nat → Option Nat) (h : ∀ C : CT, C.1 = T → cM C "java/util/ArrayList" b_AL_add3 4 none → zc_AL_add3_J1 C Post 0 0 0 [(0, .ref h0), (1, .ref x1), (2, .ref e0), (3, .int (nI sz))] [] ([(h0, .inr (11, [.int mc0, .ref e0, .int (nI sz)])), (e0, .inl (C.1.2.2.2.1 6, 10, .inr (.inr (.inr (.inr fa)))))] ++ (P))) : uV T y_AL_add3 (Cond.code y_AL_add3 b_AL_add3 4 none) 3 1 10 [.ref h0, .ref x1, .ref e0, .int (nI sz)] ([(h0, .inr (11, [.int mc0, .ref e0, .int (nI sz)])), (e0, .inl (T.2.2.2.1 6, 10, .inr (.inr (.inr (.inr fa)))))] ++ (P)) Post := by
  obtain ⟨l, dC, dI, k, a⟩ := T
  intro sz
  refine Met.ofW (cc := b_AL_add3) (maxL := 4) (ret := none) (by decide) rfl ?_
  intro p e s m args below meth c s₁ B hml hv
  obtain ⟨rfl, hsz, hE, hP, hK, hD0⟩ := hv
  have hts := atoms_spec (ws := (Cond.code y_AL_add3 b_AL_add3 4 none) :: z_T) B.pre
  have htz : ∀ w ∈ z_T, w.before _ s = true := fun w h => hts w (z_cons w h)
  subst hsz
  have hD := hD0.self (sz := s.heap.size)
  generalize hAe : va_A ([(h0, .inr (11, [.int mc0, .ref e0, .int (nI sz)])), (e0, .inl (k 6, 10, .inr (.inr (.inr (.inr fa)))))] ++ (P)) s.heap.size = A at hD hE ⊢
  have hA : ∀ q : Nat, s.heap.size ≤ q → A q := fun q h => by rw [← hAe]; exact Or.inr h
  have hl := lv_entry ([.ref h0, .ref x1, .ref e0, .int (nI sz)]) (n := 4) (Nat.le_of_ble_eq_true rfl)
  rw [lg_entry_eq]
  generalize (lg_sl ([.ref h0, .ref x1, .ref e0, .int (nI sz)]) ++ List.replicate (4 - (lg_sl ([.ref h0, .ref x1, .ref e0, .int (nI sz)])).length) Slot.unset).toArray = ls at hl ⊢
  exact h ((l, dC, dI, k, a), p, e, s, m, ([.ref h0, .ref x1, .ref e0, .int (nI sz)] : List Value).toArray, below, meth, c, A) rfl ⟨B.exec, B.bytes, B.returns, htz, findClass_of_methodNamed B.named, B.notSynchronized, hml, hE, hK, hA⟩ s.heap [] ls hl hP hD va_S.rf
def zc_AL_add_J0 (C : CT) (Post : Int32 → va_W → Prop) (c0 s0 pc : Nat) (loc : List (Nat × Value)) (st : List Value) (ws : va_W) : Prop := zW C (z_rm 4 1 10) 2 (oI C 1 10 Post) c0 s0 pc loc st ws
set_option maxHeartbeats 1000000 in
set_option maxRecDepth 100000 in
theorem k_AL_add_J0_0 {C : CT} (X : cM C "java/util/ArrayList" b_AL_add 2 (some .boolean)) (Post : Int32 → va_W → Prop) {P_20 : va_W → Prop} (x1 : Nat) (P : va_W) (h0 : Nat) (mc0 : Int32) (vs : List Value) (i1 : Nat) (c0 s0 : Nat) (hf : P[i1]? = some (x1, .inr (8, vs)))
    (b_20 : c0 + 1 ≤ 1 ∧ s0 + 10 ≤ 10)
    (m_20 : uV C.1 y_AL_add3 (Cond.code y_AL_add3 b_AL_add3 4 none) 3 1 10 [.ref h0, .ref x1, .ref (C.1.2.2.2.1 7), .int 0] ([(h0, .inr (11, [.int (mc0 + 1), .ref (C.1.2.2.2.1 7), .int 0]))] ++ (P)) P_20)
    (k_20 : ∀ (u : va_W), P_20 u → zc_AL_add_J0 C Post (c0 + 1) (s0 + 10) 23 [(0, .ref h0), (1, .ref x1)] [] (u)) : zc_AL_add_J0 C Post c0 s0 0 [(0, .ref h0), (1, .ref x1)] [] ([(h0, .inr (11, [.int mc0, .ref (C.1.2.2.2.1 7), .int 0]))] ++ (P)) := by
  obtain ⟨⟨l, dC, dI, k, a⟩, p, e, s, m, args, below, meth, c, A⟩ := C
  obtain ⟨hx, hb, hr, htz, hown, hlocks, hml, hE, hK, hA⟩ := X
  intro H locs ls hl hP hD hS
  have hl : lv_has ls 2 [(0, .ref h0), (1, .ref x1)] := hl
  have hP : va_P (dC, dI) classes ([(h0, .inr (11, [.int mc0, .ref (k 7), .int 0]))] ++ (P)) H := hP
  have hD : va_D A ([(h0, .inr (11, [.int mc0, .ref (k 7), .int 0]))] ++ (P)) := hD
  show W p l e (z_rm 4 1 10) s m args below meth c H locs c0 s0 _ (F0 m 0 ls [])
  refine lv_aload_n hx hb d_AL_add_0 rfl (lv_at hl 0 rfl) ?_
  refine lv_dup hx hb d_AL_add_1 rfl ?_
  refine va_get (D := (dC, dI)) (ci := 11) (v := .int mc0) (C := R_AL) (T := F_AL) (N := 3) hx hb htz i_AL hown hK hP 0 rfl rfl 0 (by decide) (htz _ kf_AL_63) (u_same (htz _ sf_AL)) rfl d_AL_add_2 ?_
  refine lv_iconst (v := 1) hx hb d_AL_add_5 (by decide) ?_
  refine lv_iadd hx hb d_AL_add_6 ?_
  refine va_put (D := (dC, dI)) (ci := 11) (v := .int (mc0 + 1)) (ty := .int) (C := R_AL) (T := F_AL) (N := 3) hx hb htz i_AL t_AL o_AL n_AL hown hK hP hD hS 0 rfl rfl 0 (by decide) (htz _ kf_AL_63) (u_same (htz _ sf_AL)) rfl (by decide +kernel) rfl rfl (Nat.le_of_ble_eq_true rfl) d_AL_add_7 (fun H locs hP hD hS => ?_)
  have hP : va_P (dC, dI) classes ([(h0, .inr (11, [.int (mc0 + 1), .ref (k 7), .int 0]))] ++ (P)) H := hP
  have hD : va_D A ([(h0, .inr (11, [.int (mc0 + 1), .ref (k 7), .int 0]))] ++ (P)) := hD
  refine lv_aload_n hx hb d_AL_add_10 rfl (lv_at hl 0 rfl) ?_
  refine lv_aload_n hx hb d_AL_add_11 rfl (lv_at hl 1 rfl) ?_
  refine lv_aload_n hx hb d_AL_add_12 rfl (lv_at hl 0 rfl) ?_
  refine va_get (D := (dC, dI)) (ci := 11) (v := .ref (k 7)) (C := R_AL) (T := F_AL) (N := 3) hx hb htz i_AL hown hK hP 0 rfl rfl 1 (by decide) (htz _ kf_AL_9) (fun _ h9 => h9) rfl d_AL_add_13 ?_
  refine lv_aload_n hx hb d_AL_add_16 rfl (lv_at hl 0 rfl) ?_
  refine va_get (D := (dC, dI)) (ci := 11) (v := .int 0) (C := R_AL) (T := F_AL) (N := 3) hx hb htz i_AL hown hK hP 0 rfl rfl 2 (by decide) (htz _ kf_AL_48) (fun _ h9 => h9) rfl d_AL_add_17 ?_
  have hFc : ∀ q, va_A ([(h0, .inr (11, [.int (mc0 + 1), .ref (k 7), .int 0]))] ++ (P)) H.size q → A q := fun q h => h.elim (fun z => by obtain ⟨i9, e9, h9⟩ := z; exact hD.2 i9 _ h9) (fun z => hA q (Nat.le_trans hS.1 z))
  refine va_callv (va_runV (As := [.ref x1, .ref (k 7), .int 0]) (rest := []) ⟨hx, hb, hml, hown, htz⟩ (m_20 H.size) (cwV 3 htz (z_gV (fun _ h => h) km_AL_131 in_AL_add3 se_AL_add3 ini_AL m_AL_add3) rfl rfl rfl (by decide +kernel) ⟨(Nat.le_of_ble_eq_true rfl), (Nat.le_of_ble_eq_true rfl)⟩) ⟨z_blind, va_recv hK hP (ci := 11) (q0 := 0) rfl rfl, fun U hU hW => ⟨rfl, by rw [hU], hE.call hS hFc hU hW, by rw [hU]; exact hP, va_K.moved hW.alike hK, (hD.weaken (fun _ _ _ _ => trivial))⟩⟩ rfl rfl hl.1 rfl (lv_room (Nat.le_of_ble_eq_true rfl)) d_AL_add_20 b_20) hS (fun q _ h => hFc q h) hFc (fun u t H1 locs ht hvm hw hB hz1 hk1 hS => ?_)
  obtain ⟨hP1, hK1, hD1⟩ := hB
  rw [ht] at hP1
  have hP := hP1
  have hD := hD1.weaken (fun _ q _ h => hFc _ h)
  exact k_20 _ hw H1 locs ls (lv_sub hl [0, 1] rfl) hP hD hS
set_option maxHeartbeats 1000000 in
set_option maxRecDepth 100000 in
theorem k_AL_add_J0_23 {C : CT} (X : cM C "java/util/ArrayList" b_AL_add 2 (some .boolean)) (Post : Int32 → va_W → Prop) (x1 : Nat) (P : va_W) (h0 : Nat) (mc0 : Int32) (vs : List Value) (c0 s0 : Nat)
    (b_24 : c0 ≤ 1 ∧ s0 ≤ 10)
    (q_24 : Post (1) (P)) : zc_AL_add_J0 C Post c0 s0 23 [(0, .ref h0), (1, .ref x1)] [] (P) := by
  obtain ⟨⟨l, dC, dI, k, a⟩, p, e, s, m, args, below, meth, c, A⟩ := C
  obtain ⟨hx, hb, hr, htz, hown, hlocks, hml, hE, hK, hA⟩ := X
  intro H locs ls hl hP hD hS
  have hl : lv_has ls 2 [(0, .ref h0), (1, .ref x1)] := hl
  have hP : va_P (dC, dI) classes (P) H := hP
  have hD : va_D A (P) := hD
  show W p l e (z_rm 4 1 10) s m args below meth c H locs c0 s0 _ (F0 m 23 ls [])
  refine lv_iconst (v := 1) hx hb d_AL_add_23 (by decide) ?_
  refine W.widen (k := 1) (n := 10) b_24.1 b_24.2 ?_
  exact W.zret (v := 1) (ty := .boolean) hx hb hr rfl (fun t ht hW => ⟨⟨_, (P), rfl, q_24, by rw [ht]; exact hP, va_K.moved hW.alike hK, hD⟩, hS.F ht⟩) hS.2.2 d_AL_add_24
set_option maxHeartbeats 1000000 in
set_option maxRecDepth 100000 in
theorem e_AL_add_J0 (T : ST) (Post : Int32 → va_W → Prop) (x1 : Nat) (P : va_W) (h0 : Nat) (mc0 : Int32) (vs : List Value) (h : ∀ C : CT, C.1 = T → cM C "java/util/ArrayList" b_AL_add 2 (some .boolean) → zc_AL_add_J0 C Post 0 0 0 [(0, .ref h0), (1, .ref x1)] [] ([(h0, .inr (11, [.int mc0, .ref (C.1.2.2.2.1 7), .int 0]))] ++ (P))) : uI T y_AL_add (Cond.code y_AL_add b_AL_add 2 (some .boolean)) 4 1 10 [.ref h0, .ref x1] ([(h0, .inr (11, [.int mc0, .ref (T.2.2.2.1 7), .int 0]))] ++ (P)) Post := by
  obtain ⟨l, dC, dI, k, a⟩ := T
  intro sz
  refine Met.ofW (cc := b_AL_add) (maxL := 2) (ret := (some .boolean)) (by decide) rfl ?_
  intro p e s m args below meth c s₁ B hml hv
  obtain ⟨rfl, hsz, hE, hP, hK, hD0⟩ := hv
  have hts := atoms_spec (ws := (Cond.code y_AL_add b_AL_add 2 (some .boolean)) :: z_T) B.pre
  have htz : ∀ w ∈ z_T, w.before _ s = true := fun w h => hts w (z_cons w h)
  subst hsz
  have hD := hD0.self (sz := s.heap.size)
  generalize hAe : va_A ([(h0, .inr (11, [.int mc0, .ref (k 7), .int 0]))] ++ (P)) s.heap.size = A at hD hE ⊢
  have hA : ∀ q : Nat, s.heap.size ≤ q → A q := fun q h => by rw [← hAe]; exact Or.inr h
  have hl := lv_entry ([.ref h0, .ref x1]) (n := 2) (Nat.le_of_ble_eq_true rfl)
  rw [lg_entry_eq]
  generalize (lg_sl ([.ref h0, .ref x1]) ++ List.replicate (2 - (lg_sl ([.ref h0, .ref x1])).length) Slot.unset).toArray = ls at hl ⊢
  exact h ((l, dC, dI, k, a), p, e, s, m, ([.ref h0, .ref x1] : List Value).toArray, below, meth, c, A) rfl ⟨B.exec, B.bytes, B.returns, htz, findClass_of_methodNamed B.named, B.notSynchronized, hml, hE, hK, hA⟩ s.heap [] ls hl hP hD va_S.rf
def zc_AL_add_J1 (C : CT) (Post : Int32 → va_W → Prop) (c0 s0 pc : Nat) (loc : List (Nat × Value)) (st : List Value) (ws : va_W) : Prop := zW C (z_rm 4 1 10) 2 (oI C 1 10 Post) c0 s0 pc loc st ws
set_option maxHeartbeats 1000000 in
set_option maxRecDepth 100000 in
theorem k_AL_add_J1_0 {C : CT} (X : cM C "java/util/ArrayList" b_AL_add 2 (some .boolean)) (Post : Int32 → va_W → Prop) {P_20 : va_W → Prop} (x1 : Nat) (P : va_W) (h0 : Nat) (mc0 : Int32) (vs : List Value) (e0 : Nat) (sz : Nat) (fa : Nat → Option Nat) (i1 : Nat) (c0 s0 : Nat) (hf : P[i1]? = some (x1, .inr (8, vs)))
    (b_20 : c0 + 1 ≤ 1 ∧ s0 + 10 ≤ 10)
    (m_20 : uV C.1 y_AL_add3 (Cond.code y_AL_add3 b_AL_add3 4 none) 3 1 10 [.ref h0, .ref x1, .ref e0, .int (nI sz)] ([(h0, .inr (11, [.int (mc0 + 1), .ref e0, .int (nI sz)])), (e0, .inl (C.1.2.2.2.1 6, 10, .inr (.inr (.inr (.inr fa)))))] ++ (P)) P_20)
    (k_20 : ∀ (u : va_W), P_20 u → zc_AL_add_J1 C Post (c0 + 1) (s0 + 10) 23 [(0, .ref h0), (1, .ref x1)] [] (u)) : zc_AL_add_J1 C Post c0 s0 0 [(0, .ref h0), (1, .ref x1)] [] ([(h0, .inr (11, [.int mc0, .ref e0, .int (nI sz)])), (e0, .inl (C.1.2.2.2.1 6, 10, .inr (.inr (.inr (.inr fa)))))] ++ (P)) := by
  obtain ⟨⟨l, dC, dI, k, a⟩, p, e, s, m, args, below, meth, c, A⟩ := C
  obtain ⟨hx, hb, hr, htz, hown, hlocks, hml, hE, hK, hA⟩ := X
  intro H locs ls hl hP hD hS
  have hl : lv_has ls 2 [(0, .ref h0), (1, .ref x1)] := hl
  have hP : va_P (dC, dI) classes ([(h0, .inr (11, [.int mc0, .ref e0, .int (nI sz)])), (e0, .inl (k 6, 10, .inr (.inr (.inr (.inr fa)))))] ++ (P)) H := hP
  have hD : va_D A ([(h0, .inr (11, [.int mc0, .ref e0, .int (nI sz)])), (e0, .inl (k 6, 10, .inr (.inr (.inr (.inr fa)))))] ++ (P)) := hD
  show W p l e (z_rm 4 1 10) s m args below meth c H locs c0 s0 _ (F0 m 0 ls [])
  refine lv_aload_n hx hb d_AL_add_0 rfl (lv_at hl 0 rfl) ?_
  refine lv_dup hx hb d_AL_add_1 rfl ?_
  refine va_get (D := (dC, dI)) (ci := 11) (v := .int mc0) (C := R_AL) (T := F_AL) (N := 3) hx hb htz i_AL hown hK hP 0 rfl rfl 0 (by decide) (htz _ kf_AL_63) (u_same (htz _ sf_AL)) rfl d_AL_add_2 ?_
  refine lv_iconst (v := 1) hx hb d_AL_add_5 (by decide) ?_
  refine lv_iadd hx hb d_AL_add_6 ?_
  refine va_put (D := (dC, dI)) (ci := 11) (v := .int (mc0 + 1)) (ty := .int) (C := R_AL) (T := F_AL) (N := 3) hx hb htz i_AL t_AL o_AL n_AL hown hK hP hD hS 0 rfl rfl 0 (by decide) (htz _ kf_AL_63) (u_same (htz _ sf_AL)) rfl (by decide +kernel) rfl rfl (Nat.le_of_ble_eq_true rfl) d_AL_add_7 (fun H locs hP hD hS => ?_)
  have hP : va_P (dC, dI) classes ([(h0, .inr (11, [.int (mc0 + 1), .ref e0, .int (nI sz)])), (e0, .inl (k 6, 10, .inr (.inr (.inr (.inr fa)))))] ++ (P)) H := hP
  have hD : va_D A ([(h0, .inr (11, [.int (mc0 + 1), .ref e0, .int (nI sz)])), (e0, .inl (k 6, 10, .inr (.inr (.inr (.inr fa)))))] ++ (P)) := hD
  refine lv_aload_n hx hb d_AL_add_10 rfl (lv_at hl 0 rfl) ?_
  refine lv_aload_n hx hb d_AL_add_11 rfl (lv_at hl 1 rfl) ?_
  refine lv_aload_n hx hb d_AL_add_12 rfl (lv_at hl 0 rfl) ?_
  refine va_get (D := (dC, dI)) (ci := 11) (v := .ref e0) (C := R_AL) (T := F_AL) (N := 3) hx hb htz i_AL hown hK hP 0 rfl rfl 1 (by decide) (htz _ kf_AL_9) (fun _ h9 => h9) rfl d_AL_add_13 ?_
  refine lv_aload_n hx hb d_AL_add_16 rfl (lv_at hl 0 rfl) ?_
  refine va_get (D := (dC, dI)) (ci := 11) (v := .int (nI sz)) (C := R_AL) (T := F_AL) (N := 3) hx hb htz i_AL hown hK hP 0 rfl rfl 2 (by decide) (htz _ kf_AL_48) (fun _ h9 => h9) rfl d_AL_add_17 ?_
  have hFc : ∀ q, va_A ([(h0, .inr (11, [.int (mc0 + 1), .ref e0, .int (nI sz)])), (e0, .inl (k 6, 10, .inr (.inr (.inr (.inr fa)))))] ++ (P)) H.size q → A q := fun q h => h.elim (fun z => by obtain ⟨i9, e9, h9⟩ := z; exact hD.2 i9 _ h9) (fun z => hA q (Nat.le_trans hS.1 z))
  refine va_callv (va_runV (As := [.ref x1, .ref e0, .int (nI sz)]) (rest := []) ⟨hx, hb, hml, hown, htz⟩ (m_20 H.size) (cwV 3 htz (z_gV (fun _ h => h) km_AL_131 in_AL_add3 se_AL_add3 ini_AL m_AL_add3) rfl rfl rfl (by decide +kernel) ⟨(Nat.le_of_ble_eq_true rfl), (Nat.le_of_ble_eq_true rfl)⟩) ⟨z_blind, va_recv hK hP (ci := 11) (q0 := 0) rfl rfl, fun U hU hW => ⟨rfl, by rw [hU], hE.call hS hFc hU hW, by rw [hU]; exact hP, va_K.moved hW.alike hK, (hD.weaken (fun _ _ _ _ => trivial))⟩⟩ rfl rfl hl.1 rfl (lv_room (Nat.le_of_ble_eq_true rfl)) d_AL_add_20 b_20) hS (fun q _ h => hFc q h) hFc (fun u t H1 locs ht hvm hw hB hz1 hk1 hS => ?_)
  obtain ⟨hP1, hK1, hD1⟩ := hB
  rw [ht] at hP1
  have hP := hP1
  have hD := hD1.weaken (fun _ q _ h => hFc _ h)
  exact k_20 _ hw H1 locs ls (lv_sub hl [0, 1] rfl) hP hD hS
set_option maxHeartbeats 1000000 in
set_option maxRecDepth 100000 in
theorem k_AL_add_J1_23 {C : CT} (X : cM C "java/util/ArrayList" b_AL_add 2 (some .boolean)) (Post : Int32 → va_W → Prop) (x1 : Nat) (P : va_W) (h0 : Nat) (mc0 : Int32) (vs : List Value) (e0 : Nat) (sz : Nat) (fa : Nat → Option Nat) (c0 s0 : Nat)
    (b_24 : c0 ≤ 1 ∧ s0 ≤ 10)
    (q_24 : Post (1) (P)) : zc_AL_add_J1 C Post c0 s0 23 [(0, .ref h0), (1, .ref x1)] [] (P) := by
  obtain ⟨⟨l, dC, dI, k, a⟩, p, e, s, m, args, below, meth, c, A⟩ := C
  obtain ⟨hx, hb, hr, htz, hown, hlocks, hml, hE, hK, hA⟩ := X
  intro H locs ls hl hP hD hS
  have hl : lv_has ls 2 [(0, .ref h0), (1, .ref x1)] := hl
  have hP : va_P (dC, dI) classes (P) H := hP
  have hD : va_D A (P) := hD
  show W p l e (z_rm 4 1 10) s m args below meth c H locs c0 s0 _ (F0 m 23 ls [])
  refine lv_iconst (v := 1) hx hb d_AL_add_23 (by decide) ?_
  refine W.widen (k := 1) (n := 10) b_24.1 b_24.2 ?_
  exact W.zret (v := 1) (ty := .boolean) hx hb hr rfl (fun t ht hW => ⟨⟨_, (P), rfl, q_24, by rw [ht]; exact hP, va_K.moved hW.alike hK, hD⟩, hS.F ht⟩) hS.2.2 d_AL_add_24
set_option maxHeartbeats 1000000 in
set_option maxRecDepth 100000 in
theorem e_AL_add_J1 (T : ST) (Post : Int32 → va_W → Prop) (x1 : Nat) (P : va_W) (h0 : Nat) (mc0 : Int32) (vs : List Value) (e0 : Nat) (sz : Nat) (fa : Nat → Option Nat) (h : ∀ C : CT, C.1 = T → cM C "java/util/ArrayList" b_AL_add 2 (some .boolean) → zc_AL_add_J1 C Post 0 0 0 [(0, .ref h0), (1, .ref x1)] [] ([(h0, .inr (11, [.int mc0, .ref e0, .int (nI sz)])), (e0, .inl (C.1.2.2.2.1 6, 10, .inr (.inr (.inr (.inr fa)))))] ++ (P))) : uI T y_AL_add (Cond.code y_AL_add b_AL_add 2 (some .boolean)) 4 1 10 [.ref h0, .ref x1] ([(h0, .inr (11, [.int mc0, .ref e0, .int (nI sz)])), (e0, .inl (T.2.2.2.1 6, 10, .inr (.inr (.inr (.inr fa)))))] ++ (P)) Post := by
  obtain ⟨l, dC, dI, k, a⟩ := T
  intro sz
  refine Met.ofW (cc := b_AL_add) (maxL := 2) (ret := (some .boolean)) (by decide) rfl ?_
  intro p e s m args below meth c s₁ B hml hv
  obtain ⟨rfl, hsz, hE, hP, hK, hD0⟩ := hv
  have hts := atoms_spec (ws := (Cond.code y_AL_add b_AL_add 2 (some .boolean)) :: z_T) B.pre
  have htz : ∀ w ∈ z_T, w.before _ s = true := fun w h => hts w (z_cons w h)
  subst hsz
  have hD := hD0.self (sz := s.heap.size)
  generalize hAe : va_A ([(h0, .inr (11, [.int mc0, .ref e0, .int (nI sz)])), (e0, .inl (k 6, 10, .inr (.inr (.inr (.inr fa)))))] ++ (P)) s.heap.size = A at hD hE ⊢
  have hA : ∀ q : Nat, s.heap.size ≤ q → A q := fun q h => by rw [← hAe]; exact Or.inr h
  have hl := lv_entry ([.ref h0, .ref x1]) (n := 2) (Nat.le_of_ble_eq_true rfl)
  rw [lg_entry_eq]
  generalize (lg_sl ([.ref h0, .ref x1]) ++ List.replicate (2 - (lg_sl ([.ref h0, .ref x1])).length) Slot.unset).toArray = ls at hl ⊢
  exact h ((l, dC, dI, k, a), p, e, s, m, ([.ref h0, .ref x1] : List Value).toArray, below, meth, c, A) rfl ⟨B.exec, B.bytes, B.returns, htz, findClass_of_methodNamed B.named, B.notSynchronized, hml, hE, hK, hA⟩ s.heap [] ls hl hP hD va_S.rf
def zc_AL_add3_T0 (C : CT) (Post : va_W → Prop) (c0 s0 pc : Nat) (loc : List (Nat × Value)) (st : List Value) (ws : va_W) : Prop := zW C (z_rm 3 1 10) 4 (oV C 1 10 Post) c0 s0 pc loc st ws
set_option maxHeartbeats 1000000 in
set_option maxRecDepth 100000 in
theorem k_AL_add3_T0_0 {C : CT} (X : cM C "java/util/ArrayList" b_AL_add3 4 none) (Post : va_W → Prop) {P_7 : Option Nat → va_W → Prop} (x1 : Nat) (P : va_W) (h0 : Nat) (mc0 : Int32) (vs : List Value) (e0 : Nat) (i1 : Nat) (c0 s0 : Nat) (hf : P[i1]? = some (x1, .inr (9, vs)))
    (b_7 : c0 + 1 ≤ 1 ∧ s0 + 10 ≤ 10)
    (m_7 : uR C.1 y_AL_grow (Cond.code y_AL_grow b_AL_grow 1 (some (.array (.object "java/lang/Object")))) 2 1 10 [.ref h0] ([(h0, .inr (11, [.int mc0, .ref (C.1.2.2.2.1 7), .int 0]))] ++ (P)) P_7)
    (k_7 : ∀ (r : Option Nat) (u : va_W), P_7 r u → zc_AL_add3_T0 C Post (c0 + 1) (s0 + 10) 10 [(0, .ref h0), (1, .ref x1), (2, .ref (C.1.2.2.2.1 7)), (3, .int 0)] [va_rf r] (u)) : zc_AL_add3_T0 C Post c0 s0 0 [(0, .ref h0), (1, .ref x1), (2, .ref (C.1.2.2.2.1 7)), (3, .int 0)] [] ([(h0, .inr (11, [.int mc0, .ref (C.1.2.2.2.1 7), .int 0]))] ++ (P)) := by
  obtain ⟨⟨l, dC, dI, k, a⟩, p, e, s, m, args, below, meth, c, A⟩ := C
  obtain ⟨hx, hb, hr, htz, hown, hlocks, hml, hE, hK, hA⟩ := X
  intro H locs ls hl hP hD hS
  have hl : lv_has ls 4 [(0, .ref h0), (1, .ref x1), (2, .ref (k 7)), (3, .int 0)] := hl
  have hP : va_P (dC, dI) classes ([(h0, .inr (11, [.int mc0, .ref (k 7), .int 0]))] ++ (P)) H := hP
  have hD : va_D A ([(h0, .inr (11, [.int mc0, .ref (k 7), .int 0]))] ++ (P)) := hD
  show W p l e (z_rm 3 1 10) s m args below meth c H locs c0 s0 _ (F0 m 0 ls [])
  refine lv_iload_n hx hb d_AL_add3_0 rfl (lv_at hl 3 rfl) ?_
  refine lv_aload_n hx hb d_AL_add3_1 rfl (lv_at hl 2 rfl) ?_
  refine va_tlen hx hb hE.1.2.2 hS (v := 0) rfl d_AL_add3_2 ?_
  refine lv_icmp_ne (tgt := 11) hx hb d_AL_add3_3 (by decide) (fun h9 => ?_) (fun h9 => ?_)
  · exact absurd (by decide) h9
  · refine lv_aload_n hx hb d_AL_add3_6 rfl (lv_at hl 0 rfl) ?_
    have hFc : ∀ q, va_A ([(h0, .inr (11, [.int mc0, .ref (k 7), .int 0]))] ++ (P)) H.size q → A q := fun q h => h.elim (fun z => by obtain ⟨i9, e9, h9⟩ := z; exact hD.2 i9 _ h9) (fun z => hA q (Nat.le_trans hS.1 z))
    refine va_callq (va_runV (As := []) (rest := []) ⟨hx, hb, hml, hown, htz⟩ (m_7 H.size) (cwV 0 htz (z_gV (fun _ h => h) km_AL_129 in_AL_grow se_AL_grow ini_AL m_AL_grow) rfl rfl rfl (by decide +kernel) ⟨(Nat.le_of_ble_eq_true rfl), (Nat.le_of_ble_eq_true rfl)⟩) ⟨z_blind, va_recv hK hP (ci := 11) (q0 := 0) rfl rfl, fun U hU hW => ⟨rfl, by rw [hU], hE.call hS hFc hU hW, by rw [hU]; exact hP, va_K.moved hW.alike hK, (hD.weaken (fun _ _ _ _ => trivial))⟩⟩ rfl rfl hl.1 rfl (lv_room (Nat.le_of_ble_eq_true rfl)) d_AL_add3_7 b_7) hS (fun q _ h => hFc q h) hFc (fun r u t H1 locs ht hvm hw hB hz1 hk1 hS => ?_)
    obtain ⟨hP1, hK1, hD1⟩ := hB
    rw [ht] at hP1
    have hP := hP1
    have hD := hD1.weaken (fun _ q _ h => hFc _ h)
    exact k_7 r _ hw H1 locs ls (lv_sub hl [0, 1, 2, 3] rfl) hP hD hS
set_option maxHeartbeats 1000000 in
set_option maxRecDepth 100000 in
theorem k_AL_add3_T0_10 {C : CT} (X : cM C "java/util/ArrayList" b_AL_add3 4 none) (Post : va_W → Prop) (x1 : Nat) (P : va_W) (h0 : Nat) (mc0 : Int32) (vs : List Value) (e0 : Nat) (i1 : Nat) (c0 s0 : Nat) (hf : P[i1]? = some (x1, .inr (9, vs)))
    (h_14 : vp_in (0) 10)
    (b_22 : c0 ≤ 1 ∧ s0 ≤ 10)
    (q_22 : Post ([(e0, .inl (C.1.2.2.2.1 6, 10, .inr (.inr (.inr (.inr (va_up (fun _ => none) (0 : Int32).toNatClampNeg (some x1))))))), (h0, .inr (11, [.int mc0, .ref e0, .int (0 + 1)]))] ++ (P))) : zc_AL_add3_T0 C Post c0 s0 10 [(0, .ref h0), (1, .ref x1), (2, .ref (C.1.2.2.2.1 7)), (3, .int 0)] [.ref e0] ([(e0, .inl (C.1.2.2.2.1 6, 10, .inr (.inr (.inr (.inr (fun _ => none)))))), (h0, .inr (11, [.int mc0, .ref e0, .int 0]))] ++ (P)) := by
  obtain ⟨⟨l, dC, dI, k, a⟩, p, e, s, m, args, below, meth, c, A⟩ := C
  obtain ⟨hx, hb, hr, htz, hown, hlocks, hml, hE, hK, hA⟩ := X
  intro H locs ls hl hP hD hS
  have hl : lv_has ls 4 [(0, .ref h0), (1, .ref x1), (2, .ref (k 7)), (3, .int 0)] := hl
  have hP : va_P (dC, dI) classes ([(e0, .inl (k 6, 10, .inr (.inr (.inr (.inr (fun _ => none)))))), (h0, .inr (11, [.int mc0, .ref e0, .int 0]))] ++ (P)) H := hP
  have hD : va_D A ([(e0, .inl (k 6, 10, .inr (.inr (.inr (.inr (fun _ => none)))))), (h0, .inr (11, [.int mc0, .ref e0, .int 0]))] ++ (P)) := hD
  show W p l e (z_rm 3 1 10) s m args below meth c H locs c0 s0 _ (F0 m 10 ls [.ref e0])
  refine lv_astore_n (lv' := [(2, .ref e0), (0, .ref h0), (1, .ref x1), (3, .int 0)]) hx hb d_AL_add3_10 rfl hl (by decide) rfl (fun ls hl => ?_)
  refine lv_aload_n hx hb d_AL_add3_11 rfl (lv_at hl 0 rfl) ?_
  refine lv_iload_n hx hb d_AL_add3_12 rfl (lv_at hl 3 rfl) ?_
  refine lv_aload_n hx hb d_AL_add3_13 rfl (lv_at hl 2 rfl) ?_
  refine va_astqO hx hb hK hP hD hS 0 6 (i1 + 2) 9 rfl rfl (hE.2.1 _ co_Te) hf rfl h_14 d_AL_add3_14 (fun H locs hP hD hS => ?_)
  have hP : va_P (dC, dI) classes ([(e0, .inl (k 6, 10, .inr (.inr (.inr (.inr (va_up (fun _ => none) (0 : Int32).toNatClampNeg (some x1))))))), (h0, .inr (11, [.int mc0, .ref e0, .int 0]))] ++ (P)) H := hP
  have hD : va_D A ([(e0, .inl (k 6, 10, .inr (.inr (.inr (.inr (va_up (fun _ => none) (0 : Int32).toNatClampNeg (some x1))))))), (h0, .inr (11, [.int mc0, .ref e0, .int 0]))] ++ (P)) := hD
  refine lv_aload_n hx hb d_AL_add3_15 rfl (lv_at hl 1 rfl) ?_
  refine lv_iload_n hx hb d_AL_add3_16 rfl (lv_at hl 3 rfl) ?_
  refine lv_iconst (v := 1) hx hb d_AL_add3_17 (by decide) ?_
  refine lv_iadd hx hb d_AL_add3_18 ?_
  refine va_put (D := (dC, dI)) (ci := 11) (v := .int (0 + 1)) (ty := .int) (C := R_AL) (T := F_AL) (N := 3) hx hb htz i_AL t_AL o_AL n_AL hown hK hP hD hS 1 rfl rfl 2 (by decide) (htz _ kf_AL_48) (fun _ h9 => h9) rfl (by decide +kernel) rfl rfl (Nat.le_of_ble_eq_true rfl) d_AL_add3_19 (fun H locs hP hD hS => ?_)
  have hP : va_P (dC, dI) classes ([(e0, .inl (k 6, 10, .inr (.inr (.inr (.inr (va_up (fun _ => none) (0 : Int32).toNatClampNeg (some x1))))))), (h0, .inr (11, [.int mc0, .ref e0, .int (0 + 1)]))] ++ (P)) H := hP
  have hD : va_D A ([(e0, .inl (k 6, 10, .inr (.inr (.inr (.inr (va_up (fun _ => none) (0 : Int32).toNatClampNeg (some x1))))))), (h0, .inr (11, [.int mc0, .ref e0, .int (0 + 1)]))] ++ (P)) := hD
  refine W.widen (k := 1) (n := 10) b_22.1 b_22.2 ?_
  exact W.vret hx hb hr (fun t ht hW => ⟨⟨([(e0, .inl (k 6, 10, .inr (.inr (.inr (.inr (va_up (fun _ => none) (0 : Int32).toNatClampNeg (some x1))))))), (h0, .inr (11, [.int mc0, .ref e0, .int (0 + 1)]))] ++ (P)), rfl, q_22, by rw [ht]; exact hP, va_K.moved hW.alike hK, hD⟩, hS.F ht⟩) hS.2.2 d_AL_add3_22
set_option maxHeartbeats 1000000 in
set_option maxRecDepth 100000 in
theorem e_AL_add3_T0 (T : ST) (Post : va_W → Prop) (x1 : Nat) (P : va_W) (h0 : Nat) (mc0 : Int32) (vs : List Value) (e0 : Nat) (h : ∀ C : CT, C.1 = T → cM C "java/util/ArrayList" b_AL_add3 4 none → zc_AL_add3_T0 C Post 0 0 0 [(0, .ref h0), (1, .ref x1), (2, .ref (C.1.2.2.2.1 7)), (3, .int 0)] [] ([(h0, .inr (11, [.int mc0, .ref (C.1.2.2.2.1 7), .int 0]))] ++ (P))) : uV T y_AL_add3 (Cond.code y_AL_add3 b_AL_add3 4 none) 3 1 10 [.ref h0, .ref x1, .ref (T.2.2.2.1 7), .int 0] ([(h0, .inr (11, [.int mc0, .ref (T.2.2.2.1 7), .int 0]))] ++ (P)) Post := by
  obtain ⟨l, dC, dI, k, a⟩ := T
  intro sz
  refine Met.ofW (cc := b_AL_add3) (maxL := 4) (ret := none) (by decide) rfl ?_
  intro p e s m args below meth c s₁ B hml hv
  obtain ⟨rfl, hsz, hE, hP, hK, hD0⟩ := hv
  have hts := atoms_spec (ws := (Cond.code y_AL_add3 b_AL_add3 4 none) :: z_T) B.pre
  have htz : ∀ w ∈ z_T, w.before _ s = true := fun w h => hts w (z_cons w h)
  subst hsz
  have hD := hD0.self (sz := s.heap.size)
  generalize hAe : va_A ([(h0, .inr (11, [.int mc0, .ref (k 7), .int 0]))] ++ (P)) s.heap.size = A at hD hE ⊢
  have hA : ∀ q : Nat, s.heap.size ≤ q → A q := fun q h => by rw [← hAe]; exact Or.inr h
  have hl := lv_entry ([.ref h0, .ref x1, .ref (k 7), .int 0]) (n := 4) (Nat.le_of_ble_eq_true rfl)
  rw [lg_entry_eq]
  generalize (lg_sl ([.ref h0, .ref x1, .ref (k 7), .int 0]) ++ List.replicate (4 - (lg_sl ([.ref h0, .ref x1, .ref (k 7), .int 0])).length) Slot.unset).toArray = ls at hl ⊢
  exact h ((l, dC, dI, k, a), p, e, s, m, ([.ref h0, .ref x1, .ref (k 7), .int 0] : List Value).toArray, below, meth, c, A) rfl ⟨B.exec, B.bytes, B.returns, htz, findClass_of_methodNamed B.named, B.notSynchronized, hml, hE, hK, hA⟩ s.heap [] ls hl hP hD va_S.rf
def zc_AL_add3_T1 (C : CT) (Post : va_W → Prop) (c0 s0 pc : Nat) (loc : List (Nat × Value)) (st : List Value) (ws : va_W) : Prop := zW C (z_rm 3 1 10) 4 (oV C 1 10 Post) c0 s0 pc loc st ws
set_option maxHeartbeats 1000000 in
set_option maxRecDepth 100000 in
theorem k_AL_add3_T1_0 {C : CT} (X : cM C "java/util/ArrayList" b_AL_add3 4 none) (Post : va_W → Prop) (x1 : Nat) (P : va_W) (h0 : Nat) (mc0 : Int32) (vs : List Value) (e0 : Nat) (sz : Nat) (fa : Nat → Option Nat) (i1 : Nat) (c0 s0 : Nat) (hf : P[i1]? = some (x1, .inr (9, vs)))
    (h_14 : (¬ nI sz = nI 10) → vp_in (nI sz) 10)
    (b_22 : (¬ nI sz = nI 10) → c0 ≤ 1 ∧ s0 ≤ 10)
    (q_22 : (¬ nI sz = nI 10) → Post ([(h0, .inr (11, [.int mc0, .ref e0, .int ((nI sz) + 1)])), (e0, .inl (C.1.2.2.2.1 6, 10, .inr (.inr (.inr (.inr (va_up fa (nI sz : Int32).toNatClampNeg (some x1)))))))] ++ (P)))
    (z_6 : (nI sz = nI 10) → False) : zc_AL_add3_T1 C Post c0 s0 0 [(0, .ref h0), (1, .ref x1), (2, .ref e0), (3, .int (nI sz))] [] ([(h0, .inr (11, [.int mc0, .ref e0, .int (nI sz)])), (e0, .inl (C.1.2.2.2.1 6, 10, .inr (.inr (.inr (.inr fa)))))] ++ (P)) := by
  obtain ⟨⟨l, dC, dI, k, a⟩, p, e, s, m, args, below, meth, c, A⟩ := C
  obtain ⟨hx, hb, hr, htz, hown, hlocks, hml, hE, hK, hA⟩ := X
  intro H locs ls hl hP hD hS
  have hl : lv_has ls 4 [(0, .ref h0), (1, .ref x1), (2, .ref e0), (3, .int (nI sz))] := hl
  have hP : va_P (dC, dI) classes ([(h0, .inr (11, [.int mc0, .ref e0, .int (nI sz)])), (e0, .inl (k 6, 10, .inr (.inr (.inr (.inr fa)))))] ++ (P)) H := hP
  have hD : va_D A ([(h0, .inr (11, [.int mc0, .ref e0, .int (nI sz)])), (e0, .inl (k 6, 10, .inr (.inr (.inr (.inr fa)))))] ++ (P)) := hD
  show W p l e (z_rm 3 1 10) s m args below meth c H locs c0 s0 _ (F0 m 0 ls [])
  refine lv_iload_n hx hb d_AL_add3_0 rfl (lv_at hl 3 rfl) ?_
  refine lv_aload_n hx hb d_AL_add3_1 rfl (lv_at hl 2 rfl) ?_
  refine va_alen hx hb hK hP 1 6 rfl rfl (v := nI 10) rfl d_AL_add3_2 ?_
  refine lv_icmp_ne (tgt := 11) hx hb d_AL_add3_3 (by decide) (fun c_3 => ?_) (fun c_3 => ?_)
  · refine lv_aload_n hx hb d_AL_add3_11 rfl (lv_at hl 2 rfl) ?_
    refine lv_iload_n hx hb d_AL_add3_12 rfl (lv_at hl 3 rfl) ?_
    refine lv_aload_n hx hb d_AL_add3_13 rfl (lv_at hl 1 rfl) ?_
    refine va_astqO hx hb hK hP hD hS 1 6 (i1 + 2) 9 rfl rfl (hE.2.1 _ co_Te) hf rfl (h_14 c_3) d_AL_add3_14 (fun H locs hP hD hS => ?_)
    have hP : va_P (dC, dI) classes ([(h0, .inr (11, [.int mc0, .ref e0, .int (nI sz)])), (e0, .inl (k 6, 10, .inr (.inr (.inr (.inr (va_up fa (nI sz : Int32).toNatClampNeg (some x1)))))))] ++ (P)) H := hP
    have hD : va_D A ([(h0, .inr (11, [.int mc0, .ref e0, .int (nI sz)])), (e0, .inl (k 6, 10, .inr (.inr (.inr (.inr (va_up fa (nI sz : Int32).toNatClampNeg (some x1)))))))] ++ (P)) := hD
    refine lv_aload_n hx hb d_AL_add3_15 rfl (lv_at hl 0 rfl) ?_
    refine lv_iload_n hx hb d_AL_add3_16 rfl (lv_at hl 3 rfl) ?_
    refine lv_iconst (v := 1) hx hb d_AL_add3_17 (by decide) ?_
    refine lv_iadd hx hb d_AL_add3_18 ?_
    refine va_put (D := (dC, dI)) (ci := 11) (v := .int ((nI sz) + 1)) (ty := .int) (C := R_AL) (T := F_AL) (N := 3) hx hb htz i_AL t_AL o_AL n_AL hown hK hP hD hS 0 rfl rfl 2 (by decide) (htz _ kf_AL_48) (fun _ h9 => h9) rfl (by decide +kernel) rfl rfl (Nat.le_of_ble_eq_true rfl) d_AL_add3_19 (fun H locs hP hD hS => ?_)
    have hP : va_P (dC, dI) classes ([(h0, .inr (11, [.int mc0, .ref e0, .int ((nI sz) + 1)])), (e0, .inl (k 6, 10, .inr (.inr (.inr (.inr (va_up fa (nI sz : Int32).toNatClampNeg (some x1)))))))] ++ (P)) H := hP
    have hD : va_D A ([(h0, .inr (11, [.int mc0, .ref e0, .int ((nI sz) + 1)])), (e0, .inl (k 6, 10, .inr (.inr (.inr (.inr (va_up fa (nI sz : Int32).toNatClampNeg (some x1)))))))] ++ (P)) := hD
    refine W.widen (k := 1) (n := 10) (b_22 c_3).1 (b_22 c_3).2 ?_
    exact W.vret hx hb hr (fun t ht hW => ⟨⟨([(h0, .inr (11, [.int mc0, .ref e0, .int ((nI sz) + 1)])), (e0, .inl (k 6, 10, .inr (.inr (.inr (.inr (va_up fa (nI sz : Int32).toNatClampNeg (some x1)))))))] ++ (P)), rfl, (q_22 c_3), by rw [ht]; exact hP, va_K.moved hW.alike hK, hD⟩, hS.F ht⟩) hS.2.2 d_AL_add3_22
  · exact (z_6 c_3).elim
set_option maxHeartbeats 1000000 in
set_option maxRecDepth 100000 in
theorem e_AL_add3_T1 (T : ST) (Post : va_W → Prop) (x1 : Nat) (P : va_W) (h0 : Nat) (mc0 : Int32) (vs : List Value) (e0 : Nat) (sz : Nat) (fa : Nat → Option Nat) (h : ∀ C : CT, C.1 = T → cM C "java/util/ArrayList" b_AL_add3 4 none → zc_AL_add3_T1 C Post 0 0 0 [(0, .ref h0), (1, .ref x1), (2, .ref e0), (3, .int (nI sz))] [] ([(h0, .inr (11, [.int mc0, .ref e0, .int (nI sz)])), (e0, .inl (C.1.2.2.2.1 6, 10, .inr (.inr (.inr (.inr fa)))))] ++ (P))) : uV T y_AL_add3 (Cond.code y_AL_add3 b_AL_add3 4 none) 3 1 10 [.ref h0, .ref x1, .ref e0, .int (nI sz)] ([(h0, .inr (11, [.int mc0, .ref e0, .int (nI sz)])), (e0, .inl (T.2.2.2.1 6, 10, .inr (.inr (.inr (.inr fa)))))] ++ (P)) Post := by
  obtain ⟨l, dC, dI, k, a⟩ := T
  intro sz
  refine Met.ofW (cc := b_AL_add3) (maxL := 4) (ret := none) (by decide) rfl ?_
  intro p e s m args below meth c s₁ B hml hv
  obtain ⟨rfl, hsz, hE, hP, hK, hD0⟩ := hv
  have hts := atoms_spec (ws := (Cond.code y_AL_add3 b_AL_add3 4 none) :: z_T) B.pre
  have htz : ∀ w ∈ z_T, w.before _ s = true := fun w h => hts w (z_cons w h)
  subst hsz
  have hD := hD0.self (sz := s.heap.size)
  generalize hAe : va_A ([(h0, .inr (11, [.int mc0, .ref e0, .int (nI sz)])), (e0, .inl (k 6, 10, .inr (.inr (.inr (.inr fa)))))] ++ (P)) s.heap.size = A at hD hE ⊢
  have hA : ∀ q : Nat, s.heap.size ≤ q → A q := fun q h => by rw [← hAe]; exact Or.inr h
  have hl := lv_entry ([.ref h0, .ref x1, .ref e0, .int (nI sz)]) (n := 4) (Nat.le_of_ble_eq_true rfl)
  rw [lg_entry_eq]
  generalize (lg_sl ([.ref h0, .ref x1, .ref e0, .int (nI sz)]) ++ List.replicate (4 - (lg_sl ([.ref h0, .ref x1, .ref e0, .int (nI sz)])).length) Slot.unset).toArray = ls at hl ⊢
  exact h ((l, dC, dI, k, a), p, e, s, m, ([.ref h0, .ref x1, .ref e0, .int (nI sz)] : List Value).toArray, below, meth, c, A) rfl ⟨B.exec, B.bytes, B.returns, htz, findClass_of_methodNamed B.named, B.notSynchronized, hml, hE, hK, hA⟩ s.heap [] ls hl hP hD va_S.rf
def zc_AL_add_T0 (C : CT) (Post : Int32 → va_W → Prop) (c0 s0 pc : Nat) (loc : List (Nat × Value)) (st : List Value) (ws : va_W) : Prop := zW C (z_rm 4 1 10) 2 (oI C 1 10 Post) c0 s0 pc loc st ws
set_option maxHeartbeats 1000000 in
set_option maxRecDepth 100000 in
theorem k_AL_add_T0_0 {C : CT} (X : cM C "java/util/ArrayList" b_AL_add 2 (some .boolean)) (Post : Int32 → va_W → Prop) {P_20 : va_W → Prop} (x1 : Nat) (P : va_W) (h0 : Nat) (mc0 : Int32) (vs : List Value) (i1 : Nat) (c0 s0 : Nat) (hf : P[i1]? = some (x1, .inr (9, vs)))
    (b_20 : c0 + 1 ≤ 1 ∧ s0 + 10 ≤ 10)
    (m_20 : uV C.1 y_AL_add3 (Cond.code y_AL_add3 b_AL_add3 4 none) 3 1 10 [.ref h0, .ref x1, .ref (C.1.2.2.2.1 7), .int 0] ([(h0, .inr (11, [.int (mc0 + 1), .ref (C.1.2.2.2.1 7), .int 0]))] ++ (P)) P_20)
    (k_20 : ∀ (u : va_W), P_20 u → zc_AL_add_T0 C Post (c0 + 1) (s0 + 10) 23 [(0, .ref h0), (1, .ref x1)] [] (u)) : zc_AL_add_T0 C Post c0 s0 0 [(0, .ref h0), (1, .ref x1)] [] ([(h0, .inr (11, [.int mc0, .ref (C.1.2.2.2.1 7), .int 0]))] ++ (P)) := by
  obtain ⟨⟨l, dC, dI, k, a⟩, p, e, s, m, args, below, meth, c, A⟩ := C
  obtain ⟨hx, hb, hr, htz, hown, hlocks, hml, hE, hK, hA⟩ := X
  intro H locs ls hl hP hD hS
  have hl : lv_has ls 2 [(0, .ref h0), (1, .ref x1)] := hl
  have hP : va_P (dC, dI) classes ([(h0, .inr (11, [.int mc0, .ref (k 7), .int 0]))] ++ (P)) H := hP
  have hD : va_D A ([(h0, .inr (11, [.int mc0, .ref (k 7), .int 0]))] ++ (P)) := hD
  show W p l e (z_rm 4 1 10) s m args below meth c H locs c0 s0 _ (F0 m 0 ls [])
  refine lv_aload_n hx hb d_AL_add_0 rfl (lv_at hl 0 rfl) ?_
  refine lv_dup hx hb d_AL_add_1 rfl ?_
  refine va_get (D := (dC, dI)) (ci := 11) (v := .int mc0) (C := R_AL) (T := F_AL) (N := 3) hx hb htz i_AL hown hK hP 0 rfl rfl 0 (by decide) (htz _ kf_AL_63) (u_same (htz _ sf_AL)) rfl d_AL_add_2 ?_
  refine lv_iconst (v := 1) hx hb d_AL_add_5 (by decide) ?_
  refine lv_iadd hx hb d_AL_add_6 ?_
  refine va_put (D := (dC, dI)) (ci := 11) (v := .int (mc0 + 1)) (ty := .int) (C := R_AL) (T := F_AL) (N := 3) hx hb htz i_AL t_AL o_AL n_AL hown hK hP hD hS 0 rfl rfl 0 (by decide) (htz _ kf_AL_63) (u_same (htz _ sf_AL)) rfl (by decide +kernel) rfl rfl (Nat.le_of_ble_eq_true rfl) d_AL_add_7 (fun H locs hP hD hS => ?_)
  have hP : va_P (dC, dI) classes ([(h0, .inr (11, [.int (mc0 + 1), .ref (k 7), .int 0]))] ++ (P)) H := hP
  have hD : va_D A ([(h0, .inr (11, [.int (mc0 + 1), .ref (k 7), .int 0]))] ++ (P)) := hD
  refine lv_aload_n hx hb d_AL_add_10 rfl (lv_at hl 0 rfl) ?_
  refine lv_aload_n hx hb d_AL_add_11 rfl (lv_at hl 1 rfl) ?_
  refine lv_aload_n hx hb d_AL_add_12 rfl (lv_at hl 0 rfl) ?_
  refine va_get (D := (dC, dI)) (ci := 11) (v := .ref (k 7)) (C := R_AL) (T := F_AL) (N := 3) hx hb htz i_AL hown hK hP 0 rfl rfl 1 (by decide) (htz _ kf_AL_9) (fun _ h9 => h9) rfl d_AL_add_13 ?_
  refine lv_aload_n hx hb d_AL_add_16 rfl (lv_at hl 0 rfl) ?_
  refine va_get (D := (dC, dI)) (ci := 11) (v := .int 0) (C := R_AL) (T := F_AL) (N := 3) hx hb htz i_AL hown hK hP 0 rfl rfl 2 (by decide) (htz _ kf_AL_48) (fun _ h9 => h9) rfl d_AL_add_17 ?_
  have hFc : ∀ q, va_A ([(h0, .inr (11, [.int (mc0 + 1), .ref (k 7), .int 0]))] ++ (P)) H.size q → A q := fun q h => h.elim (fun z => by obtain ⟨i9, e9, h9⟩ := z; exact hD.2 i9 _ h9) (fun z => hA q (Nat.le_trans hS.1 z))
  refine va_callv (va_runV (As := [.ref x1, .ref (k 7), .int 0]) (rest := []) ⟨hx, hb, hml, hown, htz⟩ (m_20 H.size) (cwV 3 htz (z_gV (fun _ h => h) km_AL_131 in_AL_add3 se_AL_add3 ini_AL m_AL_add3) rfl rfl rfl (by decide +kernel) ⟨(Nat.le_of_ble_eq_true rfl), (Nat.le_of_ble_eq_true rfl)⟩) ⟨z_blind, va_recv hK hP (ci := 11) (q0 := 0) rfl rfl, fun U hU hW => ⟨rfl, by rw [hU], hE.call hS hFc hU hW, by rw [hU]; exact hP, va_K.moved hW.alike hK, (hD.weaken (fun _ _ _ _ => trivial))⟩⟩ rfl rfl hl.1 rfl (lv_room (Nat.le_of_ble_eq_true rfl)) d_AL_add_20 b_20) hS (fun q _ h => hFc q h) hFc (fun u t H1 locs ht hvm hw hB hz1 hk1 hS => ?_)
  obtain ⟨hP1, hK1, hD1⟩ := hB
  rw [ht] at hP1
  have hP := hP1
  have hD := hD1.weaken (fun _ q _ h => hFc _ h)
  exact k_20 _ hw H1 locs ls (lv_sub hl [0, 1] rfl) hP hD hS
set_option maxHeartbeats 1000000 in
set_option maxRecDepth 100000 in
theorem k_AL_add_T0_23 {C : CT} (X : cM C "java/util/ArrayList" b_AL_add 2 (some .boolean)) (Post : Int32 → va_W → Prop) (x1 : Nat) (P : va_W) (h0 : Nat) (mc0 : Int32) (vs : List Value) (c0 s0 : Nat)
    (b_24 : c0 ≤ 1 ∧ s0 ≤ 10)
    (q_24 : Post (1) (P)) : zc_AL_add_T0 C Post c0 s0 23 [(0, .ref h0), (1, .ref x1)] [] (P) := by
  obtain ⟨⟨l, dC, dI, k, a⟩, p, e, s, m, args, below, meth, c, A⟩ := C
  obtain ⟨hx, hb, hr, htz, hown, hlocks, hml, hE, hK, hA⟩ := X
  intro H locs ls hl hP hD hS
  have hl : lv_has ls 2 [(0, .ref h0), (1, .ref x1)] := hl
  have hP : va_P (dC, dI) classes (P) H := hP
  have hD : va_D A (P) := hD
  show W p l e (z_rm 4 1 10) s m args below meth c H locs c0 s0 _ (F0 m 23 ls [])
  refine lv_iconst (v := 1) hx hb d_AL_add_23 (by decide) ?_
  refine W.widen (k := 1) (n := 10) b_24.1 b_24.2 ?_
  exact W.zret (v := 1) (ty := .boolean) hx hb hr rfl (fun t ht hW => ⟨⟨_, (P), rfl, q_24, by rw [ht]; exact hP, va_K.moved hW.alike hK, hD⟩, hS.F ht⟩) hS.2.2 d_AL_add_24
set_option maxHeartbeats 1000000 in
set_option maxRecDepth 100000 in
theorem e_AL_add_T0 (T : ST) (Post : Int32 → va_W → Prop) (x1 : Nat) (P : va_W) (h0 : Nat) (mc0 : Int32) (vs : List Value) (h : ∀ C : CT, C.1 = T → cM C "java/util/ArrayList" b_AL_add 2 (some .boolean) → zc_AL_add_T0 C Post 0 0 0 [(0, .ref h0), (1, .ref x1)] [] ([(h0, .inr (11, [.int mc0, .ref (C.1.2.2.2.1 7), .int 0]))] ++ (P))) : uI T y_AL_add (Cond.code y_AL_add b_AL_add 2 (some .boolean)) 4 1 10 [.ref h0, .ref x1] ([(h0, .inr (11, [.int mc0, .ref (T.2.2.2.1 7), .int 0]))] ++ (P)) Post := by
  obtain ⟨l, dC, dI, k, a⟩ := T
  intro sz
  refine Met.ofW (cc := b_AL_add) (maxL := 2) (ret := (some .boolean)) (by decide) rfl ?_
  intro p e s m args below meth c s₁ B hml hv
  obtain ⟨rfl, hsz, hE, hP, hK, hD0⟩ := hv
  have hts := atoms_spec (ws := (Cond.code y_AL_add b_AL_add 2 (some .boolean)) :: z_T) B.pre
  have htz : ∀ w ∈ z_T, w.before _ s = true := fun w h => hts w (z_cons w h)
  subst hsz
  have hD := hD0.self (sz := s.heap.size)
  generalize hAe : va_A ([(h0, .inr (11, [.int mc0, .ref (k 7), .int 0]))] ++ (P)) s.heap.size = A at hD hE ⊢
  have hA : ∀ q : Nat, s.heap.size ≤ q → A q := fun q h => by rw [← hAe]; exact Or.inr h
  have hl := lv_entry ([.ref h0, .ref x1]) (n := 2) (Nat.le_of_ble_eq_true rfl)
  rw [lg_entry_eq]
  generalize (lg_sl ([.ref h0, .ref x1]) ++ List.replicate (2 - (lg_sl ([.ref h0, .ref x1])).length) Slot.unset).toArray = ls at hl ⊢
  exact h ((l, dC, dI, k, a), p, e, s, m, ([.ref h0, .ref x1] : List Value).toArray, below, meth, c, A) rfl ⟨B.exec, B.bytes, B.returns, htz, findClass_of_methodNamed B.named, B.notSynchronized, hml, hE, hK, hA⟩ s.heap [] ls hl hP hD va_S.rf
def zc_AL_add_T1 (C : CT) (Post : Int32 → va_W → Prop) (c0 s0 pc : Nat) (loc : List (Nat × Value)) (st : List Value) (ws : va_W) : Prop := zW C (z_rm 4 1 10) 2 (oI C 1 10 Post) c0 s0 pc loc st ws
set_option maxHeartbeats 1000000 in
set_option maxRecDepth 100000 in
theorem k_AL_add_T1_0 {C : CT} (X : cM C "java/util/ArrayList" b_AL_add 2 (some .boolean)) (Post : Int32 → va_W → Prop) {P_20 : va_W → Prop} (x1 : Nat) (P : va_W) (h0 : Nat) (mc0 : Int32) (vs : List Value) (e0 : Nat) (sz : Nat) (fa : Nat → Option Nat) (i1 : Nat) (c0 s0 : Nat) (hf : P[i1]? = some (x1, .inr (9, vs)))
    (b_20 : c0 + 1 ≤ 1 ∧ s0 + 10 ≤ 10)
    (m_20 : uV C.1 y_AL_add3 (Cond.code y_AL_add3 b_AL_add3 4 none) 3 1 10 [.ref h0, .ref x1, .ref e0, .int (nI sz)] ([(h0, .inr (11, [.int (mc0 + 1), .ref e0, .int (nI sz)])), (e0, .inl (C.1.2.2.2.1 6, 10, .inr (.inr (.inr (.inr fa)))))] ++ (P)) P_20)
    (k_20 : ∀ (u : va_W), P_20 u → zc_AL_add_T1 C Post (c0 + 1) (s0 + 10) 23 [(0, .ref h0), (1, .ref x1)] [] (u)) : zc_AL_add_T1 C Post c0 s0 0 [(0, .ref h0), (1, .ref x1)] [] ([(h0, .inr (11, [.int mc0, .ref e0, .int (nI sz)])), (e0, .inl (C.1.2.2.2.1 6, 10, .inr (.inr (.inr (.inr fa)))))] ++ (P)) := by
  obtain ⟨⟨l, dC, dI, k, a⟩, p, e, s, m, args, below, meth, c, A⟩ := C
  obtain ⟨hx, hb, hr, htz, hown, hlocks, hml, hE, hK, hA⟩ := X
  intro H locs ls hl hP hD hS
  have hl : lv_has ls 2 [(0, .ref h0), (1, .ref x1)] := hl
  have hP : va_P (dC, dI) classes ([(h0, .inr (11, [.int mc0, .ref e0, .int (nI sz)])), (e0, .inl (k 6, 10, .inr (.inr (.inr (.inr fa)))))] ++ (P)) H := hP
  have hD : va_D A ([(h0, .inr (11, [.int mc0, .ref e0, .int (nI sz)])), (e0, .inl (k 6, 10, .inr (.inr (.inr (.inr fa)))))] ++ (P)) := hD
  show W p l e (z_rm 4 1 10) s m args below meth c H locs c0 s0 _ (F0 m 0 ls [])
  refine lv_aload_n hx hb d_AL_add_0 rfl (lv_at hl 0 rfl) ?_
  refine lv_dup hx hb d_AL_add_1 rfl ?_
  refine va_get (D := (dC, dI)) (ci := 11) (v := .int mc0) (C := R_AL) (T := F_AL) (N := 3) hx hb htz i_AL hown hK hP 0 rfl rfl 0 (by decide) (htz _ kf_AL_63) (u_same (htz _ sf_AL)) rfl d_AL_add_2 ?_
  refine lv_iconst (v := 1) hx hb d_AL_add_5 (by decide) ?_
  refine lv_iadd hx hb d_AL_add_6 ?_
  refine va_put (D := (dC, dI)) (ci := 11) (v := .int (mc0 + 1)) (ty := .int) (C := R_AL) (T := F_AL) (N := 3) hx hb htz i_AL t_AL o_AL n_AL hown hK hP hD hS 0 rfl rfl 0 (by decide) (htz _ kf_AL_63) (u_same (htz _ sf_AL)) rfl (by decide +kernel) rfl rfl (Nat.le_of_ble_eq_true rfl) d_AL_add_7 (fun H locs hP hD hS => ?_)
  have hP : va_P (dC, dI) classes ([(h0, .inr (11, [.int (mc0 + 1), .ref e0, .int (nI sz)])), (e0, .inl (k 6, 10, .inr (.inr (.inr (.inr fa)))))] ++ (P)) H := hP
  have hD : va_D A ([(h0, .inr (11, [.int (mc0 + 1), .ref e0, .int (nI sz)])), (e0, .inl (k 6, 10, .inr (.inr (.inr (.inr fa)))))] ++ (P)) := hD
  refine lv_aload_n hx hb d_AL_add_10 rfl (lv_at hl 0 rfl) ?_
  refine lv_aload_n hx hb d_AL_add_11 rfl (lv_at hl 1 rfl) ?_
  refine lv_aload_n hx hb d_AL_add_12 rfl (lv_at hl 0 rfl) ?_
  refine va_get (D := (dC, dI)) (ci := 11) (v := .ref e0) (C := R_AL) (T := F_AL) (N := 3) hx hb htz i_AL hown hK hP 0 rfl rfl 1 (by decide) (htz _ kf_AL_9) (fun _ h9 => h9) rfl d_AL_add_13 ?_
  refine lv_aload_n hx hb d_AL_add_16 rfl (lv_at hl 0 rfl) ?_
  refine va_get (D := (dC, dI)) (ci := 11) (v := .int (nI sz)) (C := R_AL) (T := F_AL) (N := 3) hx hb htz i_AL hown hK hP 0 rfl rfl 2 (by decide) (htz _ kf_AL_48) (fun _ h9 => h9) rfl d_AL_add_17 ?_
  have hFc : ∀ q, va_A ([(h0, .inr (11, [.int (mc0 + 1), .ref e0, .int (nI sz)])), (e0, .inl (k 6, 10, .inr (.inr (.inr (.inr fa)))))] ++ (P)) H.size q → A q := fun q h => h.elim (fun z => by obtain ⟨i9, e9, h9⟩ := z; exact hD.2 i9 _ h9) (fun z => hA q (Nat.le_trans hS.1 z))
  refine va_callv (va_runV (As := [.ref x1, .ref e0, .int (nI sz)]) (rest := []) ⟨hx, hb, hml, hown, htz⟩ (m_20 H.size) (cwV 3 htz (z_gV (fun _ h => h) km_AL_131 in_AL_add3 se_AL_add3 ini_AL m_AL_add3) rfl rfl rfl (by decide +kernel) ⟨(Nat.le_of_ble_eq_true rfl), (Nat.le_of_ble_eq_true rfl)⟩) ⟨z_blind, va_recv hK hP (ci := 11) (q0 := 0) rfl rfl, fun U hU hW => ⟨rfl, by rw [hU], hE.call hS hFc hU hW, by rw [hU]; exact hP, va_K.moved hW.alike hK, (hD.weaken (fun _ _ _ _ => trivial))⟩⟩ rfl rfl hl.1 rfl (lv_room (Nat.le_of_ble_eq_true rfl)) d_AL_add_20 b_20) hS (fun q _ h => hFc q h) hFc (fun u t H1 locs ht hvm hw hB hz1 hk1 hS => ?_)
  obtain ⟨hP1, hK1, hD1⟩ := hB
  rw [ht] at hP1
  have hP := hP1
  have hD := hD1.weaken (fun _ q _ h => hFc _ h)
  exact k_20 _ hw H1 locs ls (lv_sub hl [0, 1] rfl) hP hD hS
set_option maxHeartbeats 1000000 in
set_option maxRecDepth 100000 in
theorem k_AL_add_T1_23 {C : CT} (X : cM C "java/util/ArrayList" b_AL_add 2 (some .boolean)) (Post : Int32 → va_W → Prop) (x1 : Nat) (P : va_W) (h0 : Nat) (mc0 : Int32) (vs : List Value) (e0 : Nat) (sz : Nat) (fa : Nat → Option Nat) (c0 s0 : Nat)
    (b_24 : c0 ≤ 1 ∧ s0 ≤ 10)
    (q_24 : Post (1) (P)) : zc_AL_add_T1 C Post c0 s0 23 [(0, .ref h0), (1, .ref x1)] [] (P) := by
  obtain ⟨⟨l, dC, dI, k, a⟩, p, e, s, m, args, below, meth, c, A⟩ := C
  obtain ⟨hx, hb, hr, htz, hown, hlocks, hml, hE, hK, hA⟩ := X
  intro H locs ls hl hP hD hS
  have hl : lv_has ls 2 [(0, .ref h0), (1, .ref x1)] := hl
  have hP : va_P (dC, dI) classes (P) H := hP
  have hD : va_D A (P) := hD
  show W p l e (z_rm 4 1 10) s m args below meth c H locs c0 s0 _ (F0 m 23 ls [])
  refine lv_iconst (v := 1) hx hb d_AL_add_23 (by decide) ?_
  refine W.widen (k := 1) (n := 10) b_24.1 b_24.2 ?_
  exact W.zret (v := 1) (ty := .boolean) hx hb hr rfl (fun t ht hW => ⟨⟨_, (P), rfl, q_24, by rw [ht]; exact hP, va_K.moved hW.alike hK, hD⟩, hS.F ht⟩) hS.2.2 d_AL_add_24
set_option maxHeartbeats 1000000 in
set_option maxRecDepth 100000 in
theorem e_AL_add_T1 (T : ST) (Post : Int32 → va_W → Prop) (x1 : Nat) (P : va_W) (h0 : Nat) (mc0 : Int32) (vs : List Value) (e0 : Nat) (sz : Nat) (fa : Nat → Option Nat) (h : ∀ C : CT, C.1 = T → cM C "java/util/ArrayList" b_AL_add 2 (some .boolean) → zc_AL_add_T1 C Post 0 0 0 [(0, .ref h0), (1, .ref x1)] [] ([(h0, .inr (11, [.int mc0, .ref e0, .int (nI sz)])), (e0, .inl (C.1.2.2.2.1 6, 10, .inr (.inr (.inr (.inr fa)))))] ++ (P))) : uI T y_AL_add (Cond.code y_AL_add b_AL_add 2 (some .boolean)) 4 1 10 [.ref h0, .ref x1] ([(h0, .inr (11, [.int mc0, .ref e0, .int (nI sz)])), (e0, .inl (T.2.2.2.1 6, 10, .inr (.inr (.inr (.inr fa)))))] ++ (P)) Post := by
  obtain ⟨l, dC, dI, k, a⟩ := T
  intro sz
  refine Met.ofW (cc := b_AL_add) (maxL := 2) (ret := (some .boolean)) (by decide) rfl ?_
  intro p e s m args below meth c s₁ B hml hv
  obtain ⟨rfl, hsz, hE, hP, hK, hD0⟩ := hv
  have hts := atoms_spec (ws := (Cond.code y_AL_add b_AL_add 2 (some .boolean)) :: z_T) B.pre
  have htz : ∀ w ∈ z_T, w.before _ s = true := fun w h => hts w (z_cons w h)
  subst hsz
  have hD := hD0.self (sz := s.heap.size)
  generalize hAe : va_A ([(h0, .inr (11, [.int mc0, .ref e0, .int (nI sz)])), (e0, .inl (k 6, 10, .inr (.inr (.inr (.inr fa)))))] ++ (P)) s.heap.size = A at hD hE ⊢
  have hA : ∀ q : Nat, s.heap.size ≤ q → A q := fun q h => by rw [← hAe]; exact Or.inr h
  have hl := lv_entry ([.ref h0, .ref x1]) (n := 2) (Nat.le_of_ble_eq_true rfl)
  rw [lg_entry_eq]
  generalize (lg_sl ([.ref h0, .ref x1]) ++ List.replicate (2 - (lg_sl ([.ref h0, .ref x1])).length) Slot.unset).toArray = ls at hl ⊢
  exact h ((l, dC, dI, k, a), p, e, s, m, ([.ref h0, .ref x1] : List Value).toArray, below, meth, c, A) rfl ⟨B.exec, B.bytes, B.returns, htz, findClass_of_methodNamed B.named, B.notSynchronized, hml, hE, hK, hA⟩ s.heap [] ls hl hP hD va_S.rf
def zc_AL_add3_C0 (C : CT) (Post : va_W → Prop) (c0 s0 pc : Nat) (loc : List (Nat × Value)) (st : List Value) (ws : va_W) : Prop := zW C (z_rm 3 1 10) 4 (oV C 1 10 Post) c0 s0 pc loc st ws
set_option maxHeartbeats 1000000 in
set_option maxRecDepth 100000 in
theorem k_AL_add3_C0_0 {C : CT} (X : cM C "java/util/ArrayList" b_AL_add3 4 none) (Post : va_W → Prop) {P_7 : Option Nat → va_W → Prop} (x1 : Nat) (P : va_W) (h0 : Nat) (mc0 : Int32) (vs : List Value) (e0 : Nat) (i1 : Nat) (c0 s0 : Nat) (hf : P[i1]? = some (x1, .inr (10, vs)))
    (b_7 : c0 + 1 ≤ 1 ∧ s0 + 10 ≤ 10)
    (m_7 : uR C.1 y_AL_grow (Cond.code y_AL_grow b_AL_grow 1 (some (.array (.object "java/lang/Object")))) 2 1 10 [.ref h0] ([(h0, .inr (11, [.int mc0, .ref (C.1.2.2.2.1 7), .int 0]))] ++ (P)) P_7)
    (k_7 : ∀ (r : Option Nat) (u : va_W), P_7 r u → zc_AL_add3_C0 C Post (c0 + 1) (s0 + 10) 10 [(0, .ref h0), (1, .ref x1), (2, .ref (C.1.2.2.2.1 7)), (3, .int 0)] [va_rf r] (u)) : zc_AL_add3_C0 C Post c0 s0 0 [(0, .ref h0), (1, .ref x1), (2, .ref (C.1.2.2.2.1 7)), (3, .int 0)] [] ([(h0, .inr (11, [.int mc0, .ref (C.1.2.2.2.1 7), .int 0]))] ++ (P)) := by
  obtain ⟨⟨l, dC, dI, k, a⟩, p, e, s, m, args, below, meth, c, A⟩ := C
  obtain ⟨hx, hb, hr, htz, hown, hlocks, hml, hE, hK, hA⟩ := X
  intro H locs ls hl hP hD hS
  have hl : lv_has ls 4 [(0, .ref h0), (1, .ref x1), (2, .ref (k 7)), (3, .int 0)] := hl
  have hP : va_P (dC, dI) classes ([(h0, .inr (11, [.int mc0, .ref (k 7), .int 0]))] ++ (P)) H := hP
  have hD : va_D A ([(h0, .inr (11, [.int mc0, .ref (k 7), .int 0]))] ++ (P)) := hD
  show W p l e (z_rm 3 1 10) s m args below meth c H locs c0 s0 _ (F0 m 0 ls [])
  refine lv_iload_n hx hb d_AL_add3_0 rfl (lv_at hl 3 rfl) ?_
  refine lv_aload_n hx hb d_AL_add3_1 rfl (lv_at hl 2 rfl) ?_
  refine va_tlen hx hb hE.1.2.2 hS (v := 0) rfl d_AL_add3_2 ?_
  refine lv_icmp_ne (tgt := 11) hx hb d_AL_add3_3 (by decide) (fun h9 => ?_) (fun h9 => ?_)
  · exact absurd (by decide) h9
  · refine lv_aload_n hx hb d_AL_add3_6 rfl (lv_at hl 0 rfl) ?_
    have hFc : ∀ q, va_A ([(h0, .inr (11, [.int mc0, .ref (k 7), .int 0]))] ++ (P)) H.size q → A q := fun q h => h.elim (fun z => by obtain ⟨i9, e9, h9⟩ := z; exact hD.2 i9 _ h9) (fun z => hA q (Nat.le_trans hS.1 z))
    refine va_callq (va_runV (As := []) (rest := []) ⟨hx, hb, hml, hown, htz⟩ (m_7 H.size) (cwV 0 htz (z_gV (fun _ h => h) km_AL_129 in_AL_grow se_AL_grow ini_AL m_AL_grow) rfl rfl rfl (by decide +kernel) ⟨(Nat.le_of_ble_eq_true rfl), (Nat.le_of_ble_eq_true rfl)⟩) ⟨z_blind, va_recv hK hP (ci := 11) (q0 := 0) rfl rfl, fun U hU hW => ⟨rfl, by rw [hU], hE.call hS hFc hU hW, by rw [hU]; exact hP, va_K.moved hW.alike hK, (hD.weaken (fun _ _ _ _ => trivial))⟩⟩ rfl rfl hl.1 rfl (lv_room (Nat.le_of_ble_eq_true rfl)) d_AL_add3_7 b_7) hS (fun q _ h => hFc q h) hFc (fun r u t H1 locs ht hvm hw hB hz1 hk1 hS => ?_)
    obtain ⟨hP1, hK1, hD1⟩ := hB
    rw [ht] at hP1
    have hP := hP1
    have hD := hD1.weaken (fun _ q _ h => hFc _ h)
    exact k_7 r _ hw H1 locs ls (lv_sub hl [0, 1, 2, 3] rfl) hP hD hS
set_option maxHeartbeats 1000000 in
set_option maxRecDepth 100000 in
theorem k_AL_add3_C0_10 {C : CT} (X : cM C "java/util/ArrayList" b_AL_add3 4 none) (Post : va_W → Prop) (x1 : Nat) (P : va_W) (h0 : Nat) (mc0 : Int32) (vs : List Value) (e0 : Nat) (i1 : Nat) (c0 s0 : Nat) (hf : P[i1]? = some (x1, .inr (10, vs)))
    (h_14 : vp_in (0) 10)
    (b_22 : c0 ≤ 1 ∧ s0 ≤ 10)
    (q_22 : Post ([(e0, .inl (C.1.2.2.2.1 6, 10, .inr (.inr (.inr (.inr (va_up (fun _ => none) (0 : Int32).toNatClampNeg (some x1))))))), (h0, .inr (11, [.int mc0, .ref e0, .int (0 + 1)]))] ++ (P))) : zc_AL_add3_C0 C Post c0 s0 10 [(0, .ref h0), (1, .ref x1), (2, .ref (C.1.2.2.2.1 7)), (3, .int 0)] [.ref e0] ([(e0, .inl (C.1.2.2.2.1 6, 10, .inr (.inr (.inr (.inr (fun _ => none)))))), (h0, .inr (11, [.int mc0, .ref e0, .int 0]))] ++ (P)) := by
  obtain ⟨⟨l, dC, dI, k, a⟩, p, e, s, m, args, below, meth, c, A⟩ := C
  obtain ⟨hx, hb, hr, htz, hown, hlocks, hml, hE, hK, hA⟩ := X
  intro H locs ls hl hP hD hS
  have hl : lv_has ls 4 [(0, .ref h0), (1, .ref x1), (2, .ref (k 7)), (3, .int 0)] := hl
  have hP : va_P (dC, dI) classes ([(e0, .inl (k 6, 10, .inr (.inr (.inr (.inr (fun _ => none)))))), (h0, .inr (11, [.int mc0, .ref e0, .int 0]))] ++ (P)) H := hP
  have hD : va_D A ([(e0, .inl (k 6, 10, .inr (.inr (.inr (.inr (fun _ => none)))))), (h0, .inr (11, [.int mc0, .ref e0, .int 0]))] ++ (P)) := hD
  show W p l e (z_rm 3 1 10) s m args below meth c H locs c0 s0 _ (F0 m 10 ls [.ref e0])
  refine lv_astore_n (lv' := [(2, .ref e0), (0, .ref h0), (1, .ref x1), (3, .int 0)]) hx hb d_AL_add3_10 rfl hl (by decide) rfl (fun ls hl => ?_)
  refine lv_aload_n hx hb d_AL_add3_11 rfl (lv_at hl 0 rfl) ?_
  refine lv_iload_n hx hb d_AL_add3_12 rfl (lv_at hl 3 rfl) ?_
  refine lv_aload_n hx hb d_AL_add3_13 rfl (lv_at hl 2 rfl) ?_
  refine va_astqO hx hb hK hP hD hS 0 6 (i1 + 2) 10 rfl rfl (hE.2.1 _ co_Co) hf rfl h_14 d_AL_add3_14 (fun H locs hP hD hS => ?_)
  have hP : va_P (dC, dI) classes ([(e0, .inl (k 6, 10, .inr (.inr (.inr (.inr (va_up (fun _ => none) (0 : Int32).toNatClampNeg (some x1))))))), (h0, .inr (11, [.int mc0, .ref e0, .int 0]))] ++ (P)) H := hP
  have hD : va_D A ([(e0, .inl (k 6, 10, .inr (.inr (.inr (.inr (va_up (fun _ => none) (0 : Int32).toNatClampNeg (some x1))))))), (h0, .inr (11, [.int mc0, .ref e0, .int 0]))] ++ (P)) := hD
  refine lv_aload_n hx hb d_AL_add3_15 rfl (lv_at hl 1 rfl) ?_
  refine lv_iload_n hx hb d_AL_add3_16 rfl (lv_at hl 3 rfl) ?_
  refine lv_iconst (v := 1) hx hb d_AL_add3_17 (by decide) ?_
  refine lv_iadd hx hb d_AL_add3_18 ?_
  refine va_put (D := (dC, dI)) (ci := 11) (v := .int (0 + 1)) (ty := .int) (C := R_AL) (T := F_AL) (N := 3) hx hb htz i_AL t_AL o_AL n_AL hown hK hP hD hS 1 rfl rfl 2 (by decide) (htz _ kf_AL_48) (fun _ h9 => h9) rfl (by decide +kernel) rfl rfl (Nat.le_of_ble_eq_true rfl) d_AL_add3_19 (fun H locs hP hD hS => ?_)
  have hP : va_P (dC, dI) classes ([(e0, .inl (k 6, 10, .inr (.inr (.inr (.inr (va_up (fun _ => none) (0 : Int32).toNatClampNeg (some x1))))))), (h0, .inr (11, [.int mc0, .ref e0, .int (0 + 1)]))] ++ (P)) H := hP
  have hD : va_D A ([(e0, .inl (k 6, 10, .inr (.inr (.inr (.inr (va_up (fun _ => none) (0 : Int32).toNatClampNeg (some x1))))))), (h0, .inr (11, [.int mc0, .ref e0, .int (0 + 1)]))] ++ (P)) := hD
  refine W.widen (k := 1) (n := 10) b_22.1 b_22.2 ?_
  exact W.vret hx hb hr (fun t ht hW => ⟨⟨([(e0, .inl (k 6, 10, .inr (.inr (.inr (.inr (va_up (fun _ => none) (0 : Int32).toNatClampNeg (some x1))))))), (h0, .inr (11, [.int mc0, .ref e0, .int (0 + 1)]))] ++ (P)), rfl, q_22, by rw [ht]; exact hP, va_K.moved hW.alike hK, hD⟩, hS.F ht⟩) hS.2.2 d_AL_add3_22
set_option maxHeartbeats 1000000 in
set_option maxRecDepth 100000 in
theorem e_AL_add3_C0 (T : ST) (Post : va_W → Prop) (x1 : Nat) (P : va_W) (h0 : Nat) (mc0 : Int32) (vs : List Value) (e0 : Nat) (h : ∀ C : CT, C.1 = T → cM C "java/util/ArrayList" b_AL_add3 4 none → zc_AL_add3_C0 C Post 0 0 0 [(0, .ref h0), (1, .ref x1), (2, .ref (C.1.2.2.2.1 7)), (3, .int 0)] [] ([(h0, .inr (11, [.int mc0, .ref (C.1.2.2.2.1 7), .int 0]))] ++ (P))) : uV T y_AL_add3 (Cond.code y_AL_add3 b_AL_add3 4 none) 3 1 10 [.ref h0, .ref x1, .ref (T.2.2.2.1 7), .int 0] ([(h0, .inr (11, [.int mc0, .ref (T.2.2.2.1 7), .int 0]))] ++ (P)) Post := by
  obtain ⟨l, dC, dI, k, a⟩ := T
  intro sz
  refine Met.ofW (cc := b_AL_add3) (maxL := 4) (ret := none) (by decide) rfl ?_
  intro p e s m args below meth c s₁ B hml hv
  obtain ⟨rfl, hsz, hE, hP, hK, hD0⟩ := hv
  have hts := atoms_spec (ws := (Cond.code y_AL_add3 b_AL_add3 4 none) :: z_T) B.pre
  have htz : ∀ w ∈ z_T, w.before _ s = true := fun w h => hts w (z_cons w h)
  subst hsz
  have hD := hD0.self (sz := s.heap.size)
  generalize hAe : va_A ([(h0, .inr (11, [.int mc0, .ref (k 7), .int 0]))] ++ (P)) s.heap.size = A at hD hE ⊢
  have hA : ∀ q : Nat, s.heap.size ≤ q → A q := fun q h => by rw [← hAe]; exact Or.inr h
  have hl := lv_entry ([.ref h0, .ref x1, .ref (k 7), .int 0]) (n := 4) (Nat.le_of_ble_eq_true rfl)
  rw [lg_entry_eq]
  generalize (lg_sl ([.ref h0, .ref x1, .ref (k 7), .int 0]) ++ List.replicate (4 - (lg_sl ([.ref h0, .ref x1, .ref (k 7), .int 0])).length) Slot.unset).toArray = ls at hl ⊢
  exact h ((l, dC, dI, k, a), p, e, s, m, ([.ref h0, .ref x1, .ref (k 7), .int 0] : List Value).toArray, below, meth, c, A) rfl ⟨B.exec, B.bytes, B.returns, htz, findClass_of_methodNamed B.named, B.notSynchronized, hml, hE, hK, hA⟩ s.heap [] ls hl hP hD va_S.rf
def zc_AL_add3_C1 (C : CT) (Post : va_W → Prop) (c0 s0 pc : Nat) (loc : List (Nat × Value)) (st : List Value) (ws : va_W) : Prop := zW C (z_rm 3 1 10) 4 (oV C 1 10 Post) c0 s0 pc loc st ws
set_option maxHeartbeats 1000000 in
set_option maxRecDepth 100000 in
theorem k_AL_add3_C1_0 {C : CT} (X : cM C "java/util/ArrayList" b_AL_add3 4 none) (Post : va_W → Prop) (x1 : Nat) (P : va_W) (h0 : Nat) (mc0 : Int32) (vs : List Value) (e0 : Nat) (sz : Nat) (fa : Nat → Option Nat) (i1 : Nat) (c0 s0 : Nat) (hf : P[i1]? = some (x1, .inr (10, vs)))
    (h_14 : (¬ nI sz = nI 10) → vp_in (nI sz) 10)
    (b_22 : (¬ nI sz = nI 10) → c0 ≤ 1 ∧ s0 ≤ 10)
    (q_22 : (¬ nI sz = nI 10) → Post ([(h0, .inr (11, [.int mc0, .ref e0, .int ((nI sz) + 1)])), (e0, .inl (C.1.2.2.2.1 6, 10, .inr (.inr (.inr (.inr (va_up fa (nI sz : Int32).toNatClampNeg (some x1)))))))] ++ (P)))
    (z_6 : (nI sz = nI 10) → False) : zc_AL_add3_C1 C Post c0 s0 0 [(0, .ref h0), (1, .ref x1), (2, .ref e0), (3, .int (nI sz))] [] ([(h0, .inr (11, [.int mc0, .ref e0, .int (nI sz)])), (e0, .inl (C.1.2.2.2.1 6, 10, .inr (.inr (.inr (.inr fa)))))] ++ (P)) := by
  obtain ⟨⟨l, dC, dI, k, a⟩, p, e, s, m, args, below, meth, c, A⟩ := C
  obtain ⟨hx, hb, hr, htz, hown, hlocks, hml, hE, hK, hA⟩ := X
  intro H locs ls hl hP hD hS
  have hl : lv_has ls 4 [(0, .ref h0), (1, .ref x1), (2, .ref e0), (3, .int (nI sz))] := hl
  have hP : va_P (dC, dI) classes ([(h0, .inr (11, [.int mc0, .ref e0, .int (nI sz)])), (e0, .inl (k 6, 10, .inr (.inr (.inr (.inr fa)))))] ++ (P)) H := hP
  have hD : va_D A ([(h0, .inr (11, [.int mc0, .ref e0, .int (nI sz)])), (e0, .inl (k 6, 10, .inr (.inr (.inr (.inr fa)))))] ++ (P)) := hD
  show W p l e (z_rm 3 1 10) s m args below meth c H locs c0 s0 _ (F0 m 0 ls [])
  refine lv_iload_n hx hb d_AL_add3_0 rfl (lv_at hl 3 rfl) ?_
  refine lv_aload_n hx hb d_AL_add3_1 rfl (lv_at hl 2 rfl) ?_
  refine va_alen hx hb hK hP 1 6 rfl rfl (v := nI 10) rfl d_AL_add3_2 ?_
  refine lv_icmp_ne (tgt := 11) hx hb d_AL_add3_3 (by decide) (fun c_3 => ?_) (fun c_3 => ?_)
  · refine lv_aload_n hx hb d_AL_add3_11 rfl (lv_at hl 2 rfl) ?_
    refine lv_iload_n hx hb d_AL_add3_12 rfl (lv_at hl 3 rfl) ?_
    refine lv_aload_n hx hb d_AL_add3_13 rfl (lv_at hl 1 rfl) ?_
    refine va_astqO hx hb hK hP hD hS 1 6 (i1 + 2) 10 rfl rfl (hE.2.1 _ co_Co) hf rfl (h_14 c_3) d_AL_add3_14 (fun H locs hP hD hS => ?_)
    have hP : va_P (dC, dI) classes ([(h0, .inr (11, [.int mc0, .ref e0, .int (nI sz)])), (e0, .inl (k 6, 10, .inr (.inr (.inr (.inr (va_up fa (nI sz : Int32).toNatClampNeg (some x1)))))))] ++ (P)) H := hP
    have hD : va_D A ([(h0, .inr (11, [.int mc0, .ref e0, .int (nI sz)])), (e0, .inl (k 6, 10, .inr (.inr (.inr (.inr (va_up fa (nI sz : Int32).toNatClampNeg (some x1)))))))] ++ (P)) := hD
    refine lv_aload_n hx hb d_AL_add3_15 rfl (lv_at hl 0 rfl) ?_
    refine lv_iload_n hx hb d_AL_add3_16 rfl (lv_at hl 3 rfl) ?_
    refine lv_iconst (v := 1) hx hb d_AL_add3_17 (by decide) ?_
    refine lv_iadd hx hb d_AL_add3_18 ?_
    refine va_put (D := (dC, dI)) (ci := 11) (v := .int ((nI sz) + 1)) (ty := .int) (C := R_AL) (T := F_AL) (N := 3) hx hb htz i_AL t_AL o_AL n_AL hown hK hP hD hS 0 rfl rfl 2 (by decide) (htz _ kf_AL_48) (fun _ h9 => h9) rfl (by decide +kernel) rfl rfl (Nat.le_of_ble_eq_true rfl) d_AL_add3_19 (fun H locs hP hD hS => ?_)
    have hP : va_P (dC, dI) classes ([(h0, .inr (11, [.int mc0, .ref e0, .int ((nI sz) + 1)])), (e0, .inl (k 6, 10, .inr (.inr (.inr (.inr (va_up fa (nI sz : Int32).toNatClampNeg (some x1)))))))] ++ (P)) H := hP
    have hD : va_D A ([(h0, .inr (11, [.int mc0, .ref e0, .int ((nI sz) + 1)])), (e0, .inl (k 6, 10, .inr (.inr (.inr (.inr (va_up fa (nI sz : Int32).toNatClampNeg (some x1)))))))] ++ (P)) := hD
    refine W.widen (k := 1) (n := 10) (b_22 c_3).1 (b_22 c_3).2 ?_
    exact W.vret hx hb hr (fun t ht hW => ⟨⟨([(h0, .inr (11, [.int mc0, .ref e0, .int ((nI sz) + 1)])), (e0, .inl (k 6, 10, .inr (.inr (.inr (.inr (va_up fa (nI sz : Int32).toNatClampNeg (some x1)))))))] ++ (P)), rfl, (q_22 c_3), by rw [ht]; exact hP, va_K.moved hW.alike hK, hD⟩, hS.F ht⟩) hS.2.2 d_AL_add3_22
  · exact (z_6 c_3).elim
set_option maxHeartbeats 1000000 in
set_option maxRecDepth 100000 in
theorem e_AL_add3_C1 (T : ST) (Post : va_W → Prop) (x1 : Nat) (P : va_W) (h0 : Nat) (mc0 : Int32) (vs : List Value) (e0 : Nat) (sz : Nat) (fa : Nat → Option Nat) (h : ∀ C : CT, C.1 = T → cM C "java/util/ArrayList" b_AL_add3 4 none → zc_AL_add3_C1 C Post 0 0 0 [(0, .ref h0), (1, .ref x1), (2, .ref e0), (3, .int (nI sz))] [] ([(h0, .inr (11, [.int mc0, .ref e0, .int (nI sz)])), (e0, .inl (C.1.2.2.2.1 6, 10, .inr (.inr (.inr (.inr fa)))))] ++ (P))) : uV T y_AL_add3 (Cond.code y_AL_add3 b_AL_add3 4 none) 3 1 10 [.ref h0, .ref x1, .ref e0, .int (nI sz)] ([(h0, .inr (11, [.int mc0, .ref e0, .int (nI sz)])), (e0, .inl (T.2.2.2.1 6, 10, .inr (.inr (.inr (.inr fa)))))] ++ (P)) Post := by
  obtain ⟨l, dC, dI, k, a⟩ := T
  intro sz
  refine Met.ofW (cc := b_AL_add3) (maxL := 4) (ret := none) (by decide) rfl ?_
  intro p e s m args below meth c s₁ B hml hv
  obtain ⟨rfl, hsz, hE, hP, hK, hD0⟩ := hv
  have hts := atoms_spec (ws := (Cond.code y_AL_add3 b_AL_add3 4 none) :: z_T) B.pre
  have htz : ∀ w ∈ z_T, w.before _ s = true := fun w h => hts w (z_cons w h)
  subst hsz
  have hD := hD0.self (sz := s.heap.size)
  generalize hAe : va_A ([(h0, .inr (11, [.int mc0, .ref e0, .int (nI sz)])), (e0, .inl (k 6, 10, .inr (.inr (.inr (.inr fa)))))] ++ (P)) s.heap.size = A at hD hE ⊢
  have hA : ∀ q : Nat, s.heap.size ≤ q → A q := fun q h => by rw [← hAe]; exact Or.inr h
  have hl := lv_entry ([.ref h0, .ref x1, .ref e0, .int (nI sz)]) (n := 4) (Nat.le_of_ble_eq_true rfl)
  rw [lg_entry_eq]
  generalize (lg_sl ([.ref h0, .ref x1, .ref e0, .int (nI sz)]) ++ List.replicate (4 - (lg_sl ([.ref h0, .ref x1, .ref e0, .int (nI sz)])).length) Slot.unset).toArray = ls at hl ⊢
  exact h ((l, dC, dI, k, a), p, e, s, m, ([.ref h0, .ref x1, .ref e0, .int (nI sz)] : List Value).toArray, below, meth, c, A) rfl ⟨B.exec, B.bytes, B.returns, htz, findClass_of_methodNamed B.named, B.notSynchronized, hml, hE, hK, hA⟩ s.heap [] ls hl hP hD va_S.rf
def zc_AL_add_C0 (C : CT) (Post : Int32 → va_W → Prop) (c0 s0 pc : Nat) (loc : List (Nat × Value)) (st : List Value) (ws : va_W) : Prop := zW C (z_rm 4 1 10) 2 (oI C 1 10 Post) c0 s0 pc loc st ws
set_option maxHeartbeats 1000000 in
set_option maxRecDepth 100000 in
theorem k_AL_add_C0_0 {C : CT} (X : cM C "java/util/ArrayList" b_AL_add 2 (some .boolean)) (Post : Int32 → va_W → Prop) {P_20 : va_W → Prop} (x1 : Nat) (P : va_W) (h0 : Nat) (mc0 : Int32) (vs : List Value) (i1 : Nat) (c0 s0 : Nat) (hf : P[i1]? = some (x1, .inr (10, vs)))
    (b_20 : c0 + 1 ≤ 1 ∧ s0 + 10 ≤ 10)
    (m_20 : uV C.1 y_AL_add3 (Cond.code y_AL_add3 b_AL_add3 4 none) 3 1 10 [.ref h0, .ref x1, .ref (C.1.2.2.2.1 7), .int 0] ([(h0, .inr (11, [.int (mc0 + 1), .ref (C.1.2.2.2.1 7), .int 0]))] ++ (P)) P_20)
    (k_20 : ∀ (u : va_W), P_20 u → zc_AL_add_C0 C Post (c0 + 1) (s0 + 10) 23 [(0, .ref h0), (1, .ref x1)] [] (u)) : zc_AL_add_C0 C Post c0 s0 0 [(0, .ref h0), (1, .ref x1)] [] ([(h0, .inr (11, [.int mc0, .ref (C.1.2.2.2.1 7), .int 0]))] ++ (P)) := by
  obtain ⟨⟨l, dC, dI, k, a⟩, p, e, s, m, args, below, meth, c, A⟩ := C
  obtain ⟨hx, hb, hr, htz, hown, hlocks, hml, hE, hK, hA⟩ := X
  intro H locs ls hl hP hD hS
  have hl : lv_has ls 2 [(0, .ref h0), (1, .ref x1)] := hl
  have hP : va_P (dC, dI) classes ([(h0, .inr (11, [.int mc0, .ref (k 7), .int 0]))] ++ (P)) H := hP
  have hD : va_D A ([(h0, .inr (11, [.int mc0, .ref (k 7), .int 0]))] ++ (P)) := hD
  show W p l e (z_rm 4 1 10) s m args below meth c H locs c0 s0 _ (F0 m 0 ls [])
  refine lv_aload_n hx hb d_AL_add_0 rfl (lv_at hl 0 rfl) ?_
  refine lv_dup hx hb d_AL_add_1 rfl ?_
  refine va_get (D := (dC, dI)) (ci := 11) (v := .int mc0) (C := R_AL) (T := F_AL) (N := 3) hx hb htz i_AL hown hK hP 0 rfl rfl 0 (by decide) (htz _ kf_AL_63) (u_same (htz _ sf_AL)) rfl d_AL_add_2 ?_
  refine lv_iconst (v := 1) hx hb d_AL_add_5 (by decide) ?_
  refine lv_iadd hx hb d_AL_add_6 ?_
  refine va_put (D := (dC, dI)) (ci := 11) (v := .int (mc0 + 1)) (ty := .int) (C := R_AL) (T := F_AL) (N := 3) hx hb htz i_AL t_AL o_AL n_AL hown hK hP hD hS 0 rfl rfl 0 (by decide) (htz _ kf_AL_63) (u_same (htz _ sf_AL)) rfl (by decide +kernel) rfl rfl (Nat.le_of_ble_eq_true rfl) d_AL_add_7 (fun H locs hP hD hS => ?_)
  have hP : va_P (dC, dI) classes ([(h0, .inr (11, [.int (mc0 + 1), .ref (k 7), .int 0]))] ++ (P)) H := hP
  have hD : va_D A ([(h0, .inr (11, [.int (mc0 + 1), .ref (k 7), .int 0]))] ++ (P)) := hD
  refine lv_aload_n hx hb d_AL_add_10 rfl (lv_at hl 0 rfl) ?_
  refine lv_aload_n hx hb d_AL_add_11 rfl (lv_at hl 1 rfl) ?_
  refine lv_aload_n hx hb d_AL_add_12 rfl (lv_at hl 0 rfl) ?_
  refine va_get (D := (dC, dI)) (ci := 11) (v := .ref (k 7)) (C := R_AL) (T := F_AL) (N := 3) hx hb htz i_AL hown hK hP 0 rfl rfl 1 (by decide) (htz _ kf_AL_9) (fun _ h9 => h9) rfl d_AL_add_13 ?_
  refine lv_aload_n hx hb d_AL_add_16 rfl (lv_at hl 0 rfl) ?_
  refine va_get (D := (dC, dI)) (ci := 11) (v := .int 0) (C := R_AL) (T := F_AL) (N := 3) hx hb htz i_AL hown hK hP 0 rfl rfl 2 (by decide) (htz _ kf_AL_48) (fun _ h9 => h9) rfl d_AL_add_17 ?_
  have hFc : ∀ q, va_A ([(h0, .inr (11, [.int (mc0 + 1), .ref (k 7), .int 0]))] ++ (P)) H.size q → A q := fun q h => h.elim (fun z => by obtain ⟨i9, e9, h9⟩ := z; exact hD.2 i9 _ h9) (fun z => hA q (Nat.le_trans hS.1 z))
  refine va_callv (va_runV (As := [.ref x1, .ref (k 7), .int 0]) (rest := []) ⟨hx, hb, hml, hown, htz⟩ (m_20 H.size) (cwV 3 htz (z_gV (fun _ h => h) km_AL_131 in_AL_add3 se_AL_add3 ini_AL m_AL_add3) rfl rfl rfl (by decide +kernel) ⟨(Nat.le_of_ble_eq_true rfl), (Nat.le_of_ble_eq_true rfl)⟩) ⟨z_blind, va_recv hK hP (ci := 11) (q0 := 0) rfl rfl, fun U hU hW => ⟨rfl, by rw [hU], hE.call hS hFc hU hW, by rw [hU]; exact hP, va_K.moved hW.alike hK, (hD.weaken (fun _ _ _ _ => trivial))⟩⟩ rfl rfl hl.1 rfl (lv_room (Nat.le_of_ble_eq_true rfl)) d_AL_add_20 b_20) hS (fun q _ h => hFc q h) hFc (fun u t H1 locs ht hvm hw hB hz1 hk1 hS => ?_)
  obtain ⟨hP1, hK1, hD1⟩ := hB
  rw [ht] at hP1
  have hP := hP1
  have hD := hD1.weaken (fun _ q _ h => hFc _ h)
  exact k_20 _ hw H1 locs ls (lv_sub hl [0, 1] rfl) hP hD hS
set_option maxHeartbeats 1000000 in
set_option maxRecDepth 100000 in
theorem k_AL_add_C0_23 {C : CT} (X : cM C "java/util/ArrayList" b_AL_add 2 (some .boolean)) (Post : Int32 → va_W → Prop) (x1 : Nat) (P : va_W) (h0 : Nat) (mc0 : Int32) (vs : List Value) (c0 s0 : Nat)
    (b_24 : c0 ≤ 1 ∧ s0 ≤ 10)
    (q_24 : Post (1) (P)) : zc_AL_add_C0 C Post c0 s0 23 [(0, .ref h0), (1, .ref x1)] [] (P) := by
  obtain ⟨⟨l, dC, dI, k, a⟩, p, e, s, m, args, below, meth, c, A⟩ := C
  obtain ⟨hx, hb, hr, htz, hown, hlocks, hml, hE, hK, hA⟩ := X
  intro H locs ls hl hP hD hS
  have hl : lv_has ls 2 [(0, .ref h0), (1, .ref x1)] := hl
  have hP : va_P (dC, dI) classes (P) H := hP
  have hD : va_D A (P) := hD
  show W p l e (z_rm 4 1 10) s m args below meth c H locs c0 s0 _ (F0 m 23 ls [])
  refine lv_iconst (v := 1) hx hb d_AL_add_23 (by decide) ?_
  refine W.widen (k := 1) (n := 10) b_24.1 b_24.2 ?_
  exact W.zret (v := 1) (ty := .boolean) hx hb hr rfl (fun t ht hW => ⟨⟨_, (P), rfl, q_24, by rw [ht]; exact hP, va_K.moved hW.alike hK, hD⟩, hS.F ht⟩) hS.2.2 d_AL_add_24
set_option maxHeartbeats 1000000 in
set_option maxRecDepth 100000 in
theorem e_AL_add_C0 (T : ST) (Post : Int32 → va_W → Prop) (x1 : Nat) (P : va_W) (h0 : Nat) (mc0 : Int32) (vs : List Value) (h : ∀ C : CT, C.1 = T → cM C "java/util/ArrayList" b_AL_add 2 (some .boolean) → zc_AL_add_C0 C Post 0 0 0 [(0, .ref h0), (1, .ref x1)] [] ([(h0, .inr (11, [.int mc0, .ref (C.1.2.2.2.1 7), .int 0]))] ++ (P))) : uI T y_AL_add (Cond.code y_AL_add b_AL_add 2 (some .boolean)) 4 1 10 [.ref h0, .ref x1] ([(h0, .inr (11, [.int mc0, .ref (T.2.2.2.1 7), .int 0]))] ++ (P)) Post := by
  obtain ⟨l, dC, dI, k, a⟩ := T
  intro sz
  refine Met.ofW (cc := b_AL_add) (maxL := 2) (ret := (some .boolean)) (by decide) rfl ?_
  intro p e s m args below meth c s₁ B hml hv
  obtain ⟨rfl, hsz, hE, hP, hK, hD0⟩ := hv
  have hts := atoms_spec (ws := (Cond.code y_AL_add b_AL_add 2 (some .boolean)) :: z_T) B.pre
  have htz : ∀ w ∈ z_T, w.before _ s = true := fun w h => hts w (z_cons w h)
  subst hsz
  have hD := hD0.self (sz := s.heap.size)
  generalize hAe : va_A ([(h0, .inr (11, [.int mc0, .ref (k 7), .int 0]))] ++ (P)) s.heap.size = A at hD hE ⊢
  have hA : ∀ q : Nat, s.heap.size ≤ q → A q := fun q h => by rw [← hAe]; exact Or.inr h
  have hl := lv_entry ([.ref h0, .ref x1]) (n := 2) (Nat.le_of_ble_eq_true rfl)
  rw [lg_entry_eq]
  generalize (lg_sl ([.ref h0, .ref x1]) ++ List.replicate (2 - (lg_sl ([.ref h0, .ref x1])).length) Slot.unset).toArray = ls at hl ⊢
  exact h ((l, dC, dI, k, a), p, e, s, m, ([.ref h0, .ref x1] : List Value).toArray, below, meth, c, A) rfl ⟨B.exec, B.bytes, B.returns, htz, findClass_of_methodNamed B.named, B.notSynchronized, hml, hE, hK, hA⟩ s.heap [] ls hl hP hD va_S.rf
def zc_AL_add_C1 (C : CT) (Post : Int32 → va_W → Prop) (c0 s0 pc : Nat) (loc : List (Nat × Value)) (st : List Value) (ws : va_W) : Prop := zW C (z_rm 4 1 10) 2 (oI C 1 10 Post) c0 s0 pc loc st ws
set_option maxHeartbeats 1000000 in
set_option maxRecDepth 100000 in
theorem k_AL_add_C1_0 {C : CT} (X : cM C "java/util/ArrayList" b_AL_add 2 (some .boolean)) (Post : Int32 → va_W → Prop) {P_20 : va_W → Prop} (x1 : Nat) (P : va_W) (h0 : Nat) (mc0 : Int32) (vs : List Value) (e0 : Nat) (sz : Nat) (fa : Nat → Option Nat) (i1 : Nat) (c0 s0 : Nat) (hf : P[i1]? = some (x1, .inr (10, vs)))
    (b_20 : c0 + 1 ≤ 1 ∧ s0 + 10 ≤ 10)
    (m_20 : uV C.1 y_AL_add3 (Cond.code y_AL_add3 b_AL_add3 4 none) 3 1 10 [.ref h0, .ref x1, .ref e0, .int (nI sz)] ([(h0, .inr (11, [.int (mc0 + 1), .ref e0, .int (nI sz)])), (e0, .inl (C.1.2.2.2.1 6, 10, .inr (.inr (.inr (.inr fa)))))] ++ (P)) P_20)
    (k_20 : ∀ (u : va_W), P_20 u → zc_AL_add_C1 C Post (c0 + 1) (s0 + 10) 23 [(0, .ref h0), (1, .ref x1)] [] (u)) : zc_AL_add_C1 C Post c0 s0 0 [(0, .ref h0), (1, .ref x1)] [] ([(h0, .inr (11, [.int mc0, .ref e0, .int (nI sz)])), (e0, .inl (C.1.2.2.2.1 6, 10, .inr (.inr (.inr (.inr fa)))))] ++ (P)) := by
  obtain ⟨⟨l, dC, dI, k, a⟩, p, e, s, m, args, below, meth, c, A⟩ := C
  obtain ⟨hx, hb, hr, htz, hown, hlocks, hml, hE, hK, hA⟩ := X
  intro H locs ls hl hP hD hS
  have hl : lv_has ls 2 [(0, .ref h0), (1, .ref x1)] := hl
  have hP : va_P (dC, dI) classes ([(h0, .inr (11, [.int mc0, .ref e0, .int (nI sz)])), (e0, .inl (k 6, 10, .inr (.inr (.inr (.inr fa)))))] ++ (P)) H := hP
  have hD : va_D A ([(h0, .inr (11, [.int mc0, .ref e0, .int (nI sz)])), (e0, .inl (k 6, 10, .inr (.inr (.inr (.inr fa)))))] ++ (P)) := hD
  show W p l e (z_rm 4 1 10) s m args below meth c H locs c0 s0 _ (F0 m 0 ls [])
  refine lv_aload_n hx hb d_AL_add_0 rfl (lv_at hl 0 rfl) ?_
  refine lv_dup hx hb d_AL_add_1 rfl ?_
  refine va_get (D := (dC, dI)) (ci := 11) (v := .int mc0) (C := R_AL) (T := F_AL) (N := 3) hx hb htz i_AL hown hK hP 0 rfl rfl 0 (by decide) (htz _ kf_AL_63) (u_same (htz _ sf_AL)) rfl d_AL_add_2 ?_
  refine lv_iconst (v := 1) hx hb d_AL_add_5 (by decide) ?_
  refine lv_iadd hx hb d_AL_add_6 ?_
  refine va_put (D := (dC, dI)) (ci := 11) (v := .int (mc0 + 1)) (ty := .int) (C := R_AL) (T := F_AL) (N := 3) hx hb htz i_AL t_AL o_AL n_AL hown hK hP hD hS 0 rfl rfl 0 (by decide) (htz _ kf_AL_63) (u_same (htz _ sf_AL)) rfl (by decide +kernel) rfl rfl (Nat.le_of_ble_eq_true rfl) d_AL_add_7 (fun H locs hP hD hS => ?_)
  have hP : va_P (dC, dI) classes ([(h0, .inr (11, [.int (mc0 + 1), .ref e0, .int (nI sz)])), (e0, .inl (k 6, 10, .inr (.inr (.inr (.inr fa)))))] ++ (P)) H := hP
  have hD : va_D A ([(h0, .inr (11, [.int (mc0 + 1), .ref e0, .int (nI sz)])), (e0, .inl (k 6, 10, .inr (.inr (.inr (.inr fa)))))] ++ (P)) := hD
  refine lv_aload_n hx hb d_AL_add_10 rfl (lv_at hl 0 rfl) ?_
  refine lv_aload_n hx hb d_AL_add_11 rfl (lv_at hl 1 rfl) ?_
  refine lv_aload_n hx hb d_AL_add_12 rfl (lv_at hl 0 rfl) ?_
  refine va_get (D := (dC, dI)) (ci := 11) (v := .ref e0) (C := R_AL) (T := F_AL) (N := 3) hx hb htz i_AL hown hK hP 0 rfl rfl 1 (by decide) (htz _ kf_AL_9) (fun _ h9 => h9) rfl d_AL_add_13 ?_
  refine lv_aload_n hx hb d_AL_add_16 rfl (lv_at hl 0 rfl) ?_
  refine va_get (D := (dC, dI)) (ci := 11) (v := .int (nI sz)) (C := R_AL) (T := F_AL) (N := 3) hx hb htz i_AL hown hK hP 0 rfl rfl 2 (by decide) (htz _ kf_AL_48) (fun _ h9 => h9) rfl d_AL_add_17 ?_
  have hFc : ∀ q, va_A ([(h0, .inr (11, [.int (mc0 + 1), .ref e0, .int (nI sz)])), (e0, .inl (k 6, 10, .inr (.inr (.inr (.inr fa)))))] ++ (P)) H.size q → A q := fun q h => h.elim (fun z => by obtain ⟨i9, e9, h9⟩ := z; exact hD.2 i9 _ h9) (fun z => hA q (Nat.le_trans hS.1 z))
  refine va_callv (va_runV (As := [.ref x1, .ref e0, .int (nI sz)]) (rest := []) ⟨hx, hb, hml, hown, htz⟩ (m_20 H.size) (cwV 3 htz (z_gV (fun _ h => h) km_AL_131 in_AL_add3 se_AL_add3 ini_AL m_AL_add3) rfl rfl rfl (by decide +kernel) ⟨(Nat.le_of_ble_eq_true rfl), (Nat.le_of_ble_eq_true rfl)⟩) ⟨z_blind, va_recv hK hP (ci := 11) (q0 := 0) rfl rfl, fun U hU hW => ⟨rfl, by rw [hU], hE.call hS hFc hU hW, by rw [hU]; exact hP, va_K.moved hW.alike hK, (hD.weaken (fun _ _ _ _ => trivial))⟩⟩ rfl rfl hl.1 rfl (lv_room (Nat.le_of_ble_eq_true rfl)) d_AL_add_20 b_20) hS (fun q _ h => hFc q h) hFc (fun u t H1 locs ht hvm hw hB hz1 hk1 hS => ?_)
  obtain ⟨hP1, hK1, hD1⟩ := hB
  rw [ht] at hP1
  have hP := hP1
  have hD := hD1.weaken (fun _ q _ h => hFc _ h)
  exact k_20 _ hw H1 locs ls (lv_sub hl [0, 1] rfl) hP hD hS
set_option maxHeartbeats 1000000 in
set_option maxRecDepth 100000 in
theorem k_AL_add_C1_23 {C : CT} (X : cM C "java/util/ArrayList" b_AL_add 2 (some .boolean)) (Post : Int32 → va_W → Prop) (x1 : Nat) (P : va_W) (h0 : Nat) (mc0 : Int32) (vs : List Value) (e0 : Nat) (sz : Nat) (fa : Nat → Option Nat) (c0 s0 : Nat)
    (b_24 : c0 ≤ 1 ∧ s0 ≤ 10)
    (q_24 : Post (1) (P)) : zc_AL_add_C1 C Post c0 s0 23 [(0, .ref h0), (1, .ref x1)] [] (P) := by
  obtain ⟨⟨l, dC, dI, k, a⟩, p, e, s, m, args, below, meth, c, A⟩ := C
  obtain ⟨hx, hb, hr, htz, hown, hlocks, hml, hE, hK, hA⟩ := X
  intro H locs ls hl hP hD hS
  have hl : lv_has ls 2 [(0, .ref h0), (1, .ref x1)] := hl
  have hP : va_P (dC, dI) classes (P) H := hP
  have hD : va_D A (P) := hD
  show W p l e (z_rm 4 1 10) s m args below meth c H locs c0 s0 _ (F0 m 23 ls [])
  refine lv_iconst (v := 1) hx hb d_AL_add_23 (by decide) ?_
  refine W.widen (k := 1) (n := 10) b_24.1 b_24.2 ?_
  exact W.zret (v := 1) (ty := .boolean) hx hb hr rfl (fun t ht hW => ⟨⟨_, (P), rfl, q_24, by rw [ht]; exact hP, va_K.moved hW.alike hK, hD⟩, hS.F ht⟩) hS.2.2 d_AL_add_24
set_option maxHeartbeats 1000000 in
set_option maxRecDepth 100000 in
theorem e_AL_add_C1 (T : ST) (Post : Int32 → va_W → Prop) (x1 : Nat) (P : va_W) (h0 : Nat) (mc0 : Int32) (vs : List Value) (e0 : Nat) (sz : Nat) (fa : Nat → Option Nat) (h : ∀ C : CT, C.1 = T → cM C "java/util/ArrayList" b_AL_add 2 (some .boolean) → zc_AL_add_C1 C Post 0 0 0 [(0, .ref h0), (1, .ref x1)] [] ([(h0, .inr (11, [.int mc0, .ref e0, .int (nI sz)])), (e0, .inl (C.1.2.2.2.1 6, 10, .inr (.inr (.inr (.inr fa)))))] ++ (P))) : uI T y_AL_add (Cond.code y_AL_add b_AL_add 2 (some .boolean)) 4 1 10 [.ref h0, .ref x1] ([(h0, .inr (11, [.int mc0, .ref e0, .int (nI sz)])), (e0, .inl (T.2.2.2.1 6, 10, .inr (.inr (.inr (.inr fa)))))] ++ (P)) Post := by
  obtain ⟨l, dC, dI, k, a⟩ := T
  intro sz
  refine Met.ofW (cc := b_AL_add) (maxL := 2) (ret := (some .boolean)) (by decide) rfl ?_
  intro p e s m args below meth c s₁ B hml hv
  obtain ⟨rfl, hsz, hE, hP, hK, hD0⟩ := hv
  have hts := atoms_spec (ws := (Cond.code y_AL_add b_AL_add 2 (some .boolean)) :: z_T) B.pre
  have htz : ∀ w ∈ z_T, w.before _ s = true := fun w h => hts w (z_cons w h)
  subst hsz
  have hD := hD0.self (sz := s.heap.size)
  generalize hAe : va_A ([(h0, .inr (11, [.int mc0, .ref e0, .int (nI sz)])), (e0, .inl (k 6, 10, .inr (.inr (.inr (.inr fa)))))] ++ (P)) s.heap.size = A at hD hE ⊢
  have hA : ∀ q : Nat, s.heap.size ≤ q → A q := fun q h => by rw [← hAe]; exact Or.inr h
  have hl := lv_entry ([.ref h0, .ref x1]) (n := 2) (Nat.le_of_ble_eq_true rfl)
  rw [lg_entry_eq]
  generalize (lg_sl ([.ref h0, .ref x1]) ++ List.replicate (2 - (lg_sl ([.ref h0, .ref x1])).length) Slot.unset).toArray = ls at hl ⊢
  exact h ((l, dC, dI, k, a), p, e, s, m, ([.ref h0, .ref x1] : List Value).toArray, below, meth, c, A) rfl ⟨B.exec, B.bytes, B.returns, htz, findClass_of_methodNamed B.named, B.notSynchronized, hml, hE, hK, hA⟩ s.heap [] ls hl hP hD va_S.rf
