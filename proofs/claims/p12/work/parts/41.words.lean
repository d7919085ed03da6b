def zc_Ar_checkLength (C : CT) (Post : va_W → Prop) (c0 s0 pc : Nat) (loc : List (Nat × Value)) (st : List Value) (ws : va_W) : Prop := zW C (z_rm 0 0 0) 2 (oV C 0 0 Post) c0 s0 pc loc st ws
set_option maxHeartbeats 1000000 in
set_option maxRecDepth 100000 in
theorem k_Ar_checkLength_0 {C : CT} (X : cM C "java/util/Arrays" b_Ar_checkLength 2 none) (Post : va_W → Prop) (x0 : Int32) (x1 : Int32) (c0 s0 : Nat)
    (b_37 : (x0 ≤ x1) → c0 ≤ 0 ∧ s0 ≤ 0)
    (q_37 : (x0 ≤ x1) → Post ([]))
    (z_5 : (¬ x0 ≤ x1) → False) : zc_Ar_checkLength C Post c0 s0 0 [(0, .int x0), (1, .int x1)] [] ([]) := by
  obtain ⟨⟨l, dC, dI, k, a⟩, p, e, s, m, args, below, meth, c, A⟩ := C
  obtain ⟨hx, hb, hr, htz, hown, hlocks, hml, hE, hK, hA⟩ := X
  intro H locs ls hl hP hD hS
  have hl : lv_has ls 2 [(0, .int x0), (1, .int x1)] := hl
  have hP : va_P (dC, dI) classes ([]) H := hP
  have hD : va_D A ([]) := hD
  show W p l e (z_rm 0 0 0) s m args below meth c H locs c0 s0 _ (F0 m 0 ls [])
  refine lv_iload_n hx hb d_Ar_checkLength_0 rfl (lv_at hl 1 rfl) ?_
  refine lv_iload_n hx hb d_Ar_checkLength_1 rfl (lv_at hl 0 rfl) ?_
  refine lv_icmp_ge (tgt := 37) hx hb d_Ar_checkLength_2 (by decide) (fun c_2 => ?_) (fun c_2 => ?_)
  · refine W.widen (k := 0) (n := 0) (b_37 c_2).1 (b_37 c_2).2 ?_
    exact W.vret hx hb hr (fun t ht hW => ⟨⟨([]), rfl, (q_37 c_2), by rw [ht]; exact hP, va_K.moved hW.alike hK, hD⟩, hS.F ht⟩) hS.2.2 d_Ar_checkLength_37
  · exact (z_5 c_2).elim
set_option maxHeartbeats 1000000 in
set_option maxRecDepth 100000 in
theorem e_Ar_checkLength (T : ST) (Post : va_W → Prop) (x0 : Int32) (x1 : Int32) (h : ∀ C : CT, C.1 = T → cM C "java/util/Arrays" b_Ar_checkLength 2 none → zc_Ar_checkLength C Post 0 0 0 [(0, .int x0), (1, .int x1)] [] ([])) : uV T y_Ar_checkLength (Cond.code y_Ar_checkLength b_Ar_checkLength 2 none) 0 0 0 [.int x0, .int x1] ([]) Post := by
  obtain ⟨l, dC, dI, k, a⟩ := T
  intro sz
  refine Met.ofW (cc := b_Ar_checkLength) (maxL := 2) (ret := none) (by decide) rfl ?_
  intro p e s m args below meth c s₁ B hml hv
  obtain ⟨rfl, hsz, hE, hP, hK, hD0⟩ := hv
  have hts := atoms_spec (ws := (Cond.code y_Ar_checkLength b_Ar_checkLength 2 none) :: z_T) B.pre
  have htz : ∀ w ∈ z_T, w.before _ s = true := fun w h => hts w (z_cons w h)
  subst hsz
  have hD := hD0.self (sz := s.heap.size)
  generalize hAe : va_A ([]) s.heap.size = A at hD hE ⊢
  have hA : ∀ q : Nat, s.heap.size ≤ q → A q := fun q h => by rw [← hAe]; exact Or.inr h
  have hl := lv_entry ([.int x0, .int x1]) (n := 2) (Nat.le_of_ble_eq_true rfl)
  rw [lg_entry_eq]
  generalize (lg_sl ([.int x0, .int x1]) ++ List.replicate (2 - (lg_sl ([.int x0, .int x1])).length) Slot.unset).toArray = ls at hl ⊢
  exact h ((l, dC, dI, k, a), p, e, s, m, ([.int x0, .int x1] : List Value).toArray, below, meth, c, A) rfl ⟨B.exec, B.bytes, B.returns, htz, findClass_of_methodNamed B.named, B.notSynchronized, hml, hE, hK, hA⟩ s.heap [] ls hl hP hD va_S.rf
def zc_Ar_copyOfRangeInt (C : CT) (Post : Option Nat → va_W → Prop) (NN : Nat) (c0 s0 pc : Nat) (loc : List (Nat × Value)) (st : List Value) (ws : va_W) : Prop := zW C (z_rm 1 1 NN) 5 (oR C 1 NN Post) c0 s0 pc loc st ws
set_option maxHeartbeats 1000000 in
set_option maxRecDepth 100000 in
theorem k_Ar_copyOfRangeInt_0 {C : CT} (X : cM C "java/util/Arrays" b_Ar_copyOfRangeInt 5 (some (.array .int))) (Post : Option Nat → va_W → Prop) {P_2 : va_W → Prop} (x1 : Int32) (x2 : Int32) (f_t : FT) (g_t : GT) (P : va_W) (NN : Nat) (c0 s0 : Nat)
    (b_2 : c0 ≤ 1 ∧ s0 ≤ NN)
    (m_2 : uV C.1 y_Ar_checkLength (Cond.code y_Ar_checkLength b_Ar_checkLength 2 none) 0 0 0 [.int x1, .int x2] ([]) P_2)
    (k_2 : ∀ (u : va_W), P_2 u → zc_Ar_copyOfRangeInt C Post NN c0 s0 5 [(0, .ref (ad C.1 21)), (1, .int x1), (2, .int x2)] [] (s_t C.1.2.2.2.1 C.1.2.2.2.2 f_t g_t ++ (P))) : zc_Ar_copyOfRangeInt C Post NN c0 s0 0 [(0, .ref (ad C.1 21)), (1, .int x1), (2, .int x2)] [] (s_t C.1.2.2.2.1 C.1.2.2.2.2 f_t g_t ++ (P)) := by
  obtain ⟨⟨l, dC, dI, k, a⟩, p, e, s, m, args, below, meth, c, A⟩ := C
  obtain ⟨hx, hb, hr, htz, hown, hlocks, hml, hE, hK, hA⟩ := X
  intro H locs ls hl hP hD hS
  have hl : lv_has ls 5 [(0, .ref (a 21)), (1, .int x1), (2, .int x2)] := hl
  have hP : va_P (dC, dI) classes (s_t k a f_t g_t ++ (P)) H := hP
  have hD : va_D A (s_t k a f_t g_t ++ (P)) := hD
  show W p l e (z_rm 1 1 NN) s m args below meth c H locs c0 s0 _ (F0 m 0 ls [])
  refine lv_iload_n hx hb d_Ar_copyOfRangeInt_0 rfl (lv_at hl 1 rfl) ?_
  refine lv_iload_n hx hb d_Ar_copyOfRangeInt_1 rfl (lv_at hl 2 rfl) ?_
  have hFc : ∀ q, va_A [] H.size q → A q := fun q h => h.elim (fun z => by obtain ⟨i9, e9, h9⟩ := z; cases h9) (fun z => hA q (Nat.le_trans hS.1 z))
  refine va_callv (va_runS (As := [.int x1, .int x2]) (rest := []) ⟨hx, hb, hml, hown, htz⟩ (m_2 H.size) (va_cwS 2 htz (z_gS (fun _ h => h) km_Ar_343 st_Ar_checkLength ini_Ar m_Ar_checkLength) rfl rfl rfl (by decide +kernel) ⟨(Nat.le_of_ble_eq_true rfl), (Nat.le_of_ble_eq_true rfl)⟩) ⟨z_blind, fun U hU hW => ⟨rfl, by rw [hU], hE.call hS hFc hU hW, by rw [hU]; exact zP0, va_K.moved hW.alike hK, zD0⟩⟩ rfl rfl hl.1 rfl (lv_room (Nat.le_of_ble_eq_true rfl)) d_Ar_copyOfRangeInt_2 b_2) hS (fun q _ h => hFc q h) hFc (fun u t H1 locs ht hvm hw hB hz1 hk1 hS => ?_)
  obtain ⟨hP1, hK1, hD1⟩ := hB
  rw [ht] at hP1
  have hP : va_P (dC, dI) classes (s_t k a f_t g_t ++ (P)) H1 := hP.kept (fun j q hq => hk1 q.1 (hP j q hq).lt (fun z => z.elim (fun z => by obtain ⟨i9, e9, h9⟩ := z; cases h9) (fun z => absurd z (Nat.not_le.mpr (hP j q hq).lt))))
  exact k_2 _ hw H1 locs ls (lv_sub hl [0, 1, 2] rfl) hP hD hS
set_option maxHeartbeats 1000000 in
set_option maxRecDepth 100000 in
theorem k_Ar_copyOfRangeInt_5 {C : CT} (X : cM C "java/util/Arrays" b_Ar_copyOfRangeInt 5 (some (.array .int))) (Post : Option Nat → va_W → Prop) (x1 : Int32) (x2 : Int32) (f_t : FT) (g_t : GT) (P : va_W) (NN : Nat) (c0 s0 : Nat)
    (b_10 : c0 + 1 ≤ 1 ∧ s0 + NN ≤ NN)
    (n_10 : ¬ (x2 - x1) < 0)
    (n_10_1 : (x2 - x1 : Int32).toNatClampNeg = NN)
    (n_10_2 : NN * 4 ≤ 536870912)
    (b_24 : ∀ w10 : Nat, c0 + 1 ≤ 1 ∧ s0 + NN ≤ NN)
    (a_27 : ∀ w10 : Nat, ¬ x1 < 0)
    (a_27_1 : ∀ w10 : Nat, ¬ (0 : Int32) < 0)
    (a_27_2 : ∀ w10 : Nat, ¬ (if x2 - x1 < (nI 400) - x1 then x2 - x1 else (nI 400) - x1) < 0)
    (a_27_3 : ∀ w10 : Nat, (x1 : Int32).toNatClampNeg + (if x2 - x1 < (nI 400) - x1 then x2 - x1 else (nI 400) - x1 : Int32).toNatClampNeg ≤ 400)
    (a_27_4 : ∀ w10 : Nat, (0 : Int32).toNatClampNeg + (if x2 - x1 < (nI 400) - x1 then x2 - x1 else (nI 400) - x1 : Int32).toNatClampNeg ≤ NN)
    (b_32 : ∀ w10 : Nat, c0 + 1 ≤ 1 ∧ s0 + NN ≤ NN)
    (q_32 : ∀ w10 : Nat, Post (some w10) ([(w10, .inl (C.1.2.2.2.1 0, NN, .inl (va_cpy (g_t 0) (fun _ => 0) (x1 : Int32).toNatClampNeg (0 : Int32).toNatClampNeg (if x2 - x1 < (nI 400) - x1 then x2 - x1 else (nI 400) - x1 : Int32).toNatClampNeg)))] ++ (s_t C.1.2.2.2.1 C.1.2.2.2.2 f_t g_t ++ (P)))) : zc_Ar_copyOfRangeInt C Post NN c0 s0 5 [(0, .ref (ad C.1 21)), (1, .int x1), (2, .int x2)] [] (s_t C.1.2.2.2.1 C.1.2.2.2.2 f_t g_t ++ (P)) := by
  obtain ⟨⟨l, dC, dI, k, a⟩, p, e, s, m, args, below, meth, c, A⟩ := C
  obtain ⟨hx, hb, hr, htz, hown, hlocks, hml, hE, hK, hA⟩ := X
  intro H locs ls hl hP hD hS
  have hl : lv_has ls 5 [(0, .ref (a 21)), (1, .int x1), (2, .int x2)] := hl
  have hP : va_P (dC, dI) classes (s_t k a f_t g_t ++ (P)) H := hP
  have hD : va_D A (s_t k a f_t g_t ++ (P)) := hD
  show W p l e (z_rm 1 1 NN) s m args below meth c H locs c0 s0 _ (F0 m 5 ls [])
  refine lv_iload_n hx hb d_Ar_copyOfRangeInt_5 rfl (lv_at hl 2 rfl) ?_
  refine lv_iload_n hx hb d_Ar_copyOfRangeInt_6 rfl (lv_at hl 1 rfl) ?_
  refine lv_isub hx hb d_Ar_copyOfRangeInt_7 ?_
  refine lv_istore_n (lv' := [(3, .int (x2 - x1)), (0, .ref (a 21)), (1, .int x1), (2, .int x2)]) hx hb d_Ar_copyOfRangeInt_8 rfl hl (by decide) rfl (fun ls hl => ?_)
  refine lv_iload_n hx hb d_Ar_copyOfRangeInt_9 rfl (lv_at hl 0 rfl) ?_
  refine z_newa (atype := .int) (n := x2 - x1) (a0 := (NN, .inl (fun _ => 0))) hx hb (htz (.arrayClass .int) az_int) (ty := .int) rfl hK hP hD hS hA 0 rfl (N' := NN) (fun _ => rfl) n_10 n_10_1 n_10_2 b_10.1 b_10.2 d_Ar_copyOfRangeInt_10 (fun w10 H hP hD hS => ?_)
  replace hP := zsP hP
  replace hD := zsD hD
  have hP : va_P (dC, dI) classes ([(w10, .inl (k 0, NN, .inl (fun _ => 0)))] ++ (s_t k a f_t g_t ++ (P))) H := hP
  have hD : va_D A ([(w10, .inl (k 0, NN, .inl (fun _ => 0)))] ++ (s_t k a f_t g_t ++ (P))) := hD
  refine lv_astore (lv' := [(4, .ref w10), (3, .int (x2 - x1)), (0, .ref (a 21)), (1, .int x1), (2, .int x2)]) hx hb d_Ar_copyOfRangeInt_12 hl (by decide) rfl (fun ls hl => ?_)
  refine lv_aload_n hx hb d_Ar_copyOfRangeInt_14 rfl (lv_at hl 2 rfl) ?_
  refine lv_iload_n hx hb d_Ar_copyOfRangeInt_15 rfl (lv_at hl 3 rfl) ?_
  refine lv_aload hx hb d_Ar_copyOfRangeInt_16 (lv_at hl 0 rfl) ?_
  refine lv_iconst (v := 0) hx hb d_Ar_copyOfRangeInt_18 (by decide) ?_
  refine lv_aload_n hx hb d_Ar_copyOfRangeInt_19 rfl (lv_at hl 2 rfl) ?_
  refine va_alen hx hb hK hP 2 0 rfl rfl (v := nI 400) rfl d_Ar_copyOfRangeInt_20 ?_
  refine lv_iload_n hx hb d_Ar_copyOfRangeInt_21 rfl (lv_at hl 3 rfl) ?_
  refine lv_isub hx hb d_Ar_copyOfRangeInt_22 ?_
  refine lv_iload_n hx hb d_Ar_copyOfRangeInt_23 rfl (lv_at hl 1 rfl) ?_
  refine va_mmin hx hb (hml.trans hl.1.symm) hown (htz _ km_Ar_304) (htz _ st_Ma_min) (htz _ ini_Ma) (htz _ m_Ma_min) (Nat.le_of_ble_eq_true rfl) (Nat.le_of_ble_eq_true rfl) (b_24 w10).1 (b_24 w10).2 d_Ar_copyOfRangeInt_24 ?_
  refine va_copyi (ty := .int) hx hb (hml.trans hl.1.symm) hown (htz _ km_Ar_150) (htz _ nat_ac) (htz _ st_ac) (htz _ ini_SY) hK hP hD hS 2 0 0 0 rfl rfl rfl rfl rfl (a_27 w10) (a_27_1 w10) (a_27_2 w10) (a_27_3 w10) (a_27_4 w10) (fun _ _ => rfl) (Nat.le_of_ble_eq_true rfl) (Nat.le_of_ble_eq_true rfl) d_Ar_copyOfRangeInt_27 (fun H locs hP hD hS => ?_)
  have hP : va_P (dC, dI) classes ([(w10, .inl (k 0, NN, .inl (va_cpy (g_t 0) (fun _ => 0) (x1 : Int32).toNatClampNeg (0 : Int32).toNatClampNeg (if x2 - x1 < (nI 400) - x1 then x2 - x1 else (nI 400) - x1 : Int32).toNatClampNeg)))] ++ (s_t k a f_t g_t ++ (P))) H := hP
  have hD : va_D A ([(w10, .inl (k 0, NN, .inl (va_cpy (g_t 0) (fun _ => 0) (x1 : Int32).toNatClampNeg (0 : Int32).toNatClampNeg (if x2 - x1 < (nI 400) - x1 then x2 - x1 else (nI 400) - x1 : Int32).toNatClampNeg)))] ++ (s_t k a f_t g_t ++ (P))) := hD
  refine lv_aload hx hb d_Ar_copyOfRangeInt_30 (lv_at hl 0 rfl) ?_
  refine W.widen (k := 1) (n := NN) (b_32 w10).1 (b_32 w10).2 ?_
  exact W.aret (v := .ref w10) hx hb hr (Or.inr ⟨_, rfl⟩) (Or.inr ⟨_, rfl⟩) (fun t ht hW => ⟨⟨(some w10), ([(w10, .inl (k 0, NN, .inl (va_cpy (g_t 0) (fun _ => 0) (x1 : Int32).toNatClampNeg (0 : Int32).toNatClampNeg (if x2 - x1 < (nI 400) - x1 then x2 - x1 else (nI 400) - x1 : Int32).toNatClampNeg)))] ++ (s_t k a f_t g_t ++ (P))), rfl, (q_32 w10), by rw [ht]; exact hP, va_K.moved hW.alike hK, hD⟩, hS.F ht⟩) hS.2.2 d_Ar_copyOfRangeInt_32
set_option maxHeartbeats 1000000 in
set_option maxRecDepth 100000 in
theorem e_Ar_copyOfRangeInt (T : ST) (Post : Option Nat → va_W → Prop) (x1 : Int32) (x2 : Int32) (f_t : FT) (g_t : GT) (P : va_W) (NN : Nat) (h : ∀ C : CT, C.1 = T → cM C "java/util/Arrays" b_Ar_copyOfRangeInt 5 (some (.array .int)) → zc_Ar_copyOfRangeInt C Post NN 0 0 0 [(0, .ref (ad C.1 21)), (1, .int x1), (2, .int x2)] [] (s_t C.1.2.2.2.1 C.1.2.2.2.2 f_t g_t ++ (P))) : uR T y_Ar_copyOfRangeInt (Cond.code y_Ar_copyOfRangeInt b_Ar_copyOfRangeInt 5 (some (.array .int))) 1 1 NN [.ref (ad T 21), .int x1, .int x2] (s_t T.2.2.2.1 T.2.2.2.2 f_t g_t ++ (P)) Post := by
  obtain ⟨l, dC, dI, k, a⟩ := T
  intro sz
  refine Met.ofW (cc := b_Ar_copyOfRangeInt) (maxL := 5) (ret := (some (.array .int))) (by decide) rfl ?_
  intro p e s m args below meth c s₁ B hml hv
  obtain ⟨rfl, hsz, hE, hP, hK, hD0⟩ := hv
  have hts := atoms_spec (ws := (Cond.code y_Ar_copyOfRangeInt b_Ar_copyOfRangeInt 5 (some (.array .int))) :: z_T) B.pre
  have htz : ∀ w ∈ z_T, w.before _ s = true := fun w h => hts w (z_cons w h)
  subst hsz
  have hD := hD0.self (sz := s.heap.size)
  generalize hAe : va_A (s_t k a f_t g_t ++ (P)) s.heap.size = A at hD hE ⊢
  have hA : ∀ q : Nat, s.heap.size ≤ q → A q := fun q h => by rw [← hAe]; exact Or.inr h
  have hl := lv_entry ([.ref (a 21), .int x1, .int x2]) (n := 5) (Nat.le_of_ble_eq_true rfl)
  rw [lg_entry_eq]
  generalize (lg_sl ([.ref (a 21), .int x1, .int x2]) ++ List.replicate (5 - (lg_sl ([.ref (a 21), .int x1, .int x2])).length) Slot.unset).toArray = ls at hl ⊢
  exact h ((l, dC, dI, k, a), p, e, s, m, ([.ref (a 21), .int x1, .int x2] : List Value).toArray, below, meth, c, A) rfl ⟨B.exec, B.bytes, B.returns, htz, findClass_of_methodNamed B.named, B.notSynchronized, hml, hE, hK, hA⟩ s.heap [] ls hl hP hD va_S.rf
def zc_Ar_copyOfRange (C : CT) (Post : Option Nat → va_W → Prop) (NN : Nat) (c0 s0 pc : Nat) (loc : List (Nat × Value)) (st : List Value) (ws : va_W) : Prop := zW C (z_rm 2 1 NN) 3 (oR C 1 NN Post) c0 s0 pc loc st ws
set_option maxHeartbeats 1000000 in
set_option maxRecDepth 100000 in
theorem k_Ar_copyOfRange_0 {C : CT} (X : cM C "java/util/Arrays" b_Ar_copyOfRange 3 (some (.array .int))) (Post : Option Nat → va_W → Prop) {P_13 : Option Nat → va_W → Prop} (x1 : Int32) (x2 : Int32) (f_t : FT) (g_t : GT) (P : va_W) (NN : Nat) (c0 s0 : Nat)
    (b_13 : (¬ x1 = 0) → c0 + 1 ≤ 1 ∧ s0 + NN ≤ NN)
    (m_13 : (¬ x1 = 0) → uR C.1 y_Ar_copyOfRangeInt (Cond.code y_Ar_copyOfRangeInt b_Ar_copyOfRangeInt 5 (some (.array .int))) 1 1 NN [.ref (ad C.1 21), .int x1, .int x2] (s_t C.1.2.2.2.1 C.1.2.2.2.2 f_t g_t ++ (P)) P_13)
    (k_13 : (¬ x1 = 0) → ∀ (r : Option Nat) (u : va_W), P_13 r u → zc_Ar_copyOfRange C Post NN (c0 + 1) (s0 + NN) 16 [(0, .ref (ad C.1 21)), (1, .int x1), (2, .int x2)] [va_rf r] (u))
    (z_4 : (x1 = 0) → False) : zc_Ar_copyOfRange C Post NN c0 s0 0 [(0, .ref (ad C.1 21)), (1, .int x1), (2, .int x2)] [] (s_t C.1.2.2.2.1 C.1.2.2.2.2 f_t g_t ++ (P)) := by
  obtain ⟨⟨l, dC, dI, k, a⟩, p, e, s, m, args, below, meth, c, A⟩ := C
  obtain ⟨hx, hb, hr, htz, hown, hlocks, hml, hE, hK, hA⟩ := X
  intro H locs ls hl hP hD hS
  have hl : lv_has ls 3 [(0, .ref (a 21)), (1, .int x1), (2, .int x2)] := hl
  have hP : va_P (dC, dI) classes (s_t k a f_t g_t ++ (P)) H := hP
  have hD : va_D A (s_t k a f_t g_t ++ (P)) := hD
  show W p l e (z_rm 2 1 NN) s m args below meth c H locs c0 s0 _ (F0 m 0 ls [])
  refine lv_iload_n hx hb d_Ar_copyOfRange_0 rfl (lv_at hl 1 rfl) ?_
  refine lv_if_ne (tgt := 10) hx hb d_Ar_copyOfRange_1 (by decide) (fun c_1 => ?_) (fun c_1 => ?_)
  · refine lv_aload_n hx hb d_Ar_copyOfRange_10 rfl (lv_at hl 0 rfl) ?_
    refine lv_iload_n hx hb d_Ar_copyOfRange_11 rfl (lv_at hl 1 rfl) ?_
    refine lv_iload_n hx hb d_Ar_copyOfRange_12 rfl (lv_at hl 2 rfl) ?_
    have hFc : ∀ q, va_A (s_t k a f_t g_t ++ (P)) H.size q → A q := fun q h => h.elim (fun z => by obtain ⟨i9, e9, h9⟩ := z; exact hD.2 i9 _ h9) (fun z => hA q (Nat.le_trans hS.1 z))
    refine va_callq (va_runS (As := [.ref (a 21), .int x1, .int x2]) (rest := []) ⟨hx, hb, hml, hown, htz⟩ ((m_13 c_1) H.size) (va_cwS 3 htz (z_gS (fun _ h => h) km_Ar_351 st_Ar_copyOfRangeInt ini_Ar m_Ar_copyOfRangeInt) rfl rfl rfl (by decide +kernel) ⟨(Nat.le_of_ble_eq_true rfl), (Nat.le_of_ble_eq_true rfl)⟩) ⟨z_blind, fun U hU hW => ⟨rfl, by rw [hU], hE.call hS hFc hU hW, by rw [hU]; exact hP, va_K.moved hW.alike hK, (hD.weaken (fun _ _ _ _ => trivial))⟩⟩ rfl rfl hl.1 rfl (lv_room (Nat.le_of_ble_eq_true rfl)) d_Ar_copyOfRange_13 (b_13 c_1)) hS (fun q _ h => hFc q h) hFc (fun r u t H1 locs ht hvm hw hB hz1 hk1 hS => ?_)
    obtain ⟨hP1, hK1, hD1⟩ := hB
    rw [ht] at hP1
    have hP := hP1
    have hD := hD1.weaken (fun _ q _ h => hFc _ h)
    exact (k_13 c_1) r _ hw H1 locs ls (lv_sub hl [0, 1, 2] rfl) hP hD hS
  · exact (z_4 c_1).elim
set_option maxHeartbeats 1000000 in
set_option maxRecDepth 100000 in
theorem k_Ar_copyOfRange_16 {C : CT} (X : cM C "java/util/Arrays" b_Ar_copyOfRange 3 (some (.array .int))) (Post : Option Nat → va_W → Prop) (x1 : Int32) (x2 : Int32) (y0 : Nat) (f_t : FT) (g_t : GT) (P : va_W) (NN : Nat) (c0 s0 : Nat)
    (b_16 : c0 ≤ 1 ∧ s0 ≤ NN)
    (q_16 : Post (some y0) (s_t C.1.2.2.2.1 C.1.2.2.2.2 f_t g_t ++ (P))) : zc_Ar_copyOfRange C Post NN c0 s0 16 [(0, .ref (ad C.1 21)), (1, .int x1), (2, .int x2)] [.ref y0] (s_t C.1.2.2.2.1 C.1.2.2.2.2 f_t g_t ++ (P)) := by
  obtain ⟨⟨l, dC, dI, k, a⟩, p, e, s, m, args, below, meth, c, A⟩ := C
  obtain ⟨hx, hb, hr, htz, hown, hlocks, hml, hE, hK, hA⟩ := X
  intro H locs ls hl hP hD hS
  have hl : lv_has ls 3 [(0, .ref (a 21)), (1, .int x1), (2, .int x2)] := hl
  have hP : va_P (dC, dI) classes (s_t k a f_t g_t ++ (P)) H := hP
  have hD : va_D A (s_t k a f_t g_t ++ (P)) := hD
  show W p l e (z_rm 2 1 NN) s m args below meth c H locs c0 s0 _ (F0 m 16 ls [.ref y0])
  refine W.widen (k := 1) (n := NN) b_16.1 b_16.2 ?_
  exact W.aret (v := .ref y0) hx hb hr (Or.inr ⟨_, rfl⟩) (Or.inr ⟨_, rfl⟩) (fun t ht hW => ⟨⟨(some y0), (s_t k a f_t g_t ++ (P)), rfl, q_16, by rw [ht]; exact hP, va_K.moved hW.alike hK, hD⟩, hS.F ht⟩) hS.2.2 d_Ar_copyOfRange_16
set_option maxHeartbeats 1000000 in
set_option maxRecDepth 100000 in
theorem e_Ar_copyOfRange (T : ST) (Post : Option Nat → va_W → Prop) (x1 : Int32) (x2 : Int32) (f_t : FT) (g_t : GT) (P : va_W) (NN : Nat) (h : ∀ C : CT, C.1 = T → cM C "java/util/Arrays" b_Ar_copyOfRange 3 (some (.array .int)) → zc_Ar_copyOfRange C Post NN 0 0 0 [(0, .ref (ad C.1 21)), (1, .int x1), (2, .int x2)] [] (s_t C.1.2.2.2.1 C.1.2.2.2.2 f_t g_t ++ (P))) : uR T y_Ar_copyOfRange (Cond.code y_Ar_copyOfRange b_Ar_copyOfRange 3 (some (.array .int))) 2 1 NN [.ref (ad T 21), .int x1, .int x2] (s_t T.2.2.2.1 T.2.2.2.2 f_t g_t ++ (P)) Post := by
  obtain ⟨l, dC, dI, k, a⟩ := T
  intro sz
  refine Met.ofW (cc := b_Ar_copyOfRange) (maxL := 3) (ret := (some (.array .int))) (by decide) rfl ?_
  intro p e s m args below meth c s₁ B hml hv
  obtain ⟨rfl, hsz, hE, hP, hK, hD0⟩ := hv
  have hts := atoms_spec (ws := (Cond.code y_Ar_copyOfRange b_Ar_copyOfRange 3 (some (.array .int))) :: z_T) B.pre
  have htz : ∀ w ∈ z_T, w.before _ s = true := fun w h => hts w (z_cons w h)
  subst hsz
  have hD := hD0.self (sz := s.heap.size)
  generalize hAe : va_A (s_t k a f_t g_t ++ (P)) s.heap.size = A at hD hE ⊢
  have hA : ∀ q : Nat, s.heap.size ≤ q → A q := fun q h => by rw [← hAe]; exact Or.inr h
  have hl := lv_entry ([.ref (a 21), .int x1, .int x2]) (n := 3) (Nat.le_of_ble_eq_true rfl)
  rw [lg_entry_eq]
  generalize (lg_sl ([.ref (a 21), .int x1, .int x2]) ++ List.replicate (3 - (lg_sl ([.ref (a 21), .int x1, .int x2])).length) Slot.unset).toArray = ls at hl ⊢
  exact h ((l, dC, dI, k, a), p, e, s, m, ([.ref (a 21), .int x1, .int x2] : List Value).toArray, below, meth, c, A) rfl ⟨B.exec, B.bytes, B.returns, htz, findClass_of_methodNamed B.named, B.notSynchronized, hml, hE, hK, hA⟩ s.heap [] ls hl hP hD va_S.rf
def zc_TR_readWords (C : CT) (Post : Option Nat → va_W → Prop) (PX : String → va_W → Prop) (c0 s0 pc : Nat) (loc : List (Nat × Value)) (st : List Value) (ws : va_W) : Prop := zW C (z_rm 3 3 24) 2 (yR C 3 24 Post PX) c0 s0 pc loc st ws
set_option maxHeartbeats 1000000 in
set_option maxRecDepth 100000 in
theorem k_TR_readWords_0 {C : CT} (X : cX C "QuestionText$TextReader" b_TR_readWords 2 (some (.array .int))) (Post : Option Nat → va_W → Prop) (PX : String → va_W → Prop) {P_3 : va_W → Prop} {X_3 : String → va_W → Prop} (f_t : FT) (g_t : GT) (P : va_W) (NN : Nat) (c0 s0 : Nat)
    (b_3 : c0 + 1 ≤ 3 ∧ s0 + 6 ≤ 24)
    (m_3 : xV C.1 y_TR_take (Cond.code y_TR_take b_TR_take 2 none) 1 1 6 [.ref (ad C.1 20), .int 34] (s_t C.1.2.2.2.1 C.1.2.2.2.2 f_t g_t) P_3 X_3)
    (k_3 : ∀ (u : va_W), P_3 u → zc_TR_readWords C Post PX (c0 + 1) (s0 + 6) 6 [(0, .ref (ad C.1 20))] [] (u ++ (P)))
    (x_3 : ∀ (E : String) (u : va_W), X_3 E u → PX E (u ++ (P))) : zc_TR_readWords C Post PX c0 s0 0 [(0, .ref (ad C.1 20))] [] (s_t C.1.2.2.2.1 C.1.2.2.2.2 f_t g_t ++ (P)) := by
  obtain ⟨⟨l, dC, dI, k, a⟩, p, e, s, m, args, below, meth, c, A⟩ := C
  obtain ⟨⟨hx, hb, hr, htz, hown, hlocks, hml, hE, hK, hA⟩, hno, hlt⟩ := X
  intro H locs ls hl hP hD hS
  have hl : lv_has ls 2 [(0, .ref (a 20))] := hl
  have hP : va_P (dC, dI) classes (s_t k a f_t g_t ++ (P)) H := hP
  have hD : va_D A (s_t k a f_t g_t ++ (P)) := hD
  show W p l e (z_rm 3 3 24) s m args below meth c H locs c0 s0 _ (F0 m 0 ls [])
  refine lv_aload_n hx hb d_TR_readWords_0 rfl (lv_at hl 0 rfl) ?_
  refine lv_bipush (v := 34) hx hb d_TR_readWords_1 (by decide) ?_
  have hPf : va_P (dC, dI) classes (([]) ++ ((s_t k a f_t g_t) ++ (P))) H := hP
  have hDf : va_D A (([]) ++ ((s_t k a f_t g_t) ++ (P))) := hD
  have hFc := zfree hDf hS hA
  refine vx_callv (vx_runV (As := [.int 34]) (rest := []) ⟨hx, hb, hml, hown, htz⟩ (m_3 H.size) (cwV 1 htz (z_gV (fun _ h => h) km_TR_48 in_TR_take se_TR_take ini_TR m_TR_take) rfl rfl rfl (by decide +kernel) ⟨(Nat.le_of_ble_eq_true rfl), (Nat.le_of_ble_eq_true rfl)⟩) ⟨z_blind, va_recv hK hP (ci := 1) (q0 := 0) rfl rfl, fun U hU hW => ⟨rfl, by rw [hU], hE.call hS hFc hU hW, by rw [hU]; exact (zPc hPf), va_K.moved hW.alike hK, (zDc hDf)⟩⟩ rfl rfl hl.1 rfl (lv_room (Nat.le_of_ble_eq_true rfl)) d_TR_readWords_3 b_3) hS (fun q _ h => hFc q h) hFc (fun q _ h => hFc q h) (fun E ce q9 u t H1 locs ht hvm hw hB hz1 hk1 hS hce hcv hcl => ?_) (fun u t H1 locs ht hvm hw hB hz1 hk1 hS => ?_)
  · obtain ⟨hxe, hP1, hK1, hD1⟩ := hB
    rw [ht] at hP1
    obtain ⟨hP, hD⟩ := zf hPf hDf hk1 hFc hP1 hD1
    exact vx_out (fun x hx9 => (hno x hx9).elim) hlocks hce hcv hcl (fun t9 h9 h8 => ⟨_, trivial, ⟨x_3 E u hxe, by rw [h9]; exact hP, va_K.moved h8 hK, hD⟩, hS.F h9⟩) hS.2.2 b_3.1 b_3.2
  · obtain ⟨hP1, hK1, hD1⟩ := hB
    rw [ht] at hP1
    obtain ⟨hP, hD⟩ := zf hPf hDf hk1 hFc hP1 hD1
    exact k_3 _ hw H1 locs ls (lv_sub hl [0] rfl) hP hD hS
set_option maxHeartbeats 1000000 in
set_option maxRecDepth 100000 in
theorem k_TR_readWords_6 {C : CT} (X : cX C "QuestionText$TextReader" b_TR_readWords 2 (some (.array .int))) (Post : Option Nat → va_W → Prop) (PX : String → va_W → Prop) (f_t : FT) (g_t : GT) (P : va_W) (NN : Nat) (c0 s0 : Nat)
    (k_11 : zc_TR_readWords C Post PX c0 s0 11 [(0, .ref (ad C.1 20)), (1, .int (f_t 1))] [] (s_t C.1.2.2.2.1 C.1.2.2.2.2 f_t g_t ++ (P))) : zc_TR_readWords C Post PX c0 s0 6 [(0, .ref (ad C.1 20))] [] (s_t C.1.2.2.2.1 C.1.2.2.2.2 f_t g_t ++ (P)) := by
  obtain ⟨⟨l, dC, dI, k, a⟩, p, e, s, m, args, below, meth, c, A⟩ := C
  obtain ⟨⟨hx, hb, hr, htz, hown, hlocks, hml, hE, hK, hA⟩, hno, hlt⟩ := X
  intro H locs ls hl hP hD hS
  have hl : lv_has ls 2 [(0, .ref (a 20))] := hl
  have hP : va_P (dC, dI) classes (s_t k a f_t g_t ++ (P)) H := hP
  have hD : va_D A (s_t k a f_t g_t ++ (P)) := hD
  show W p l e (z_rm 3 3 24) s m args below meth c H locs c0 s0 _ (F0 m 6 ls [])
  refine lv_aload_n hx hb d_TR_readWords_6 rfl (lv_at hl 0 rfl) ?_
  refine va_get (D := (dC, dI)) (ci := 1) (v := .int (f_t 1)) (C := R_TR) (T := F_TR) (N := 5) hx hb htz i_TR hown hK hP 0 rfl rfl 4 (by decide) (htz _ kf_TR_31) (fun _ h9 => h9) rfl d_TR_readWords_7 ?_
  refine lv_istore_n (lv' := [(1, .int (f_t 1)), (0, .ref (a 20))]) hx hb d_TR_readWords_10 rfl hl (by decide) rfl (fun ls hl => ?_)
  exact k_11 H locs ls (lv_sub hl [1, 0] rfl) hP hD hS
set_option maxHeartbeats 1000000 in
set_option maxRecDepth 100000 in
theorem k_TR_readWords_11 {C : CT} (X : cX C "QuestionText$TextReader" b_TR_readWords 2 (some (.array .int))) (Post : Option Nat → va_W → Prop) (PX : String → va_W → Prop) {P_42 : Int32 → va_W → Prop} (x1 : Int32) (f_t : FT) (g_t : GT) (P : va_W) (NN : Nat) (c0 s0 : Nat)
    (k_61 : (f_t 0 ≤ f_t 1) → zc_TR_readWords C Post PX c0 s0 61 [(0, .ref (ad C.1 20)), (1, .int x1)] [] (s_t C.1.2.2.2.1 C.1.2.2.2.2 f_t g_t ++ (P)))
    (k_61_1 : (¬ f_t 0 ≤ f_t 1) → (x1 + 12 ≤ f_t 1) → zc_TR_readWords C Post PX c0 s0 61 [(0, .ref (ad C.1 20)), (1, .int x1)] [] (s_t C.1.2.2.2.1 C.1.2.2.2.2 f_t g_t ++ (P)))
    (h_41 : (¬ f_t 0 ≤ f_t 1) → (¬ x1 + 12 ≤ f_t 1) → vp_in (f_t 1) 400)
    (b_42 : (¬ f_t 0 ≤ f_t 1) → (¬ x1 + 12 ≤ f_t 1) → c0 ≤ 3 ∧ s0 ≤ 24)
    (m_42 : (¬ f_t 0 ≤ f_t 1) → (¬ x1 + 12 ≤ f_t 1) → uI C.1 y_TR_isWordByte (Cond.code y_TR_isWordByte b_TR_isWordByte 1 (some .boolean)) 0 0 0 [.int ((g_t 0) (f_t 1 : Int32).toNatClampNeg)] ([]) P_42)
    (k_42 : (¬ f_t 0 ≤ f_t 1) → (¬ x1 + 12 ≤ f_t 1) → ∀ (r : Int32) (u : va_W), P_42 r u → zc_TR_readWords C Post PX c0 s0 45 [(0, .ref (ad C.1 20)), (1, .int x1)] [.int r] (s_t C.1.2.2.2.1 C.1.2.2.2.2 f_t g_t ++ (P))) : zc_TR_readWords C Post PX c0 s0 11 [(0, .ref (ad C.1 20)), (1, .int x1)] [] (s_t C.1.2.2.2.1 C.1.2.2.2.2 f_t g_t ++ (P)) := by
  obtain ⟨⟨l, dC, dI, k, a⟩, p, e, s, m, args, below, meth, c, A⟩ := C
  obtain ⟨⟨hx, hb, hr, htz, hown, hlocks, hml, hE, hK, hA⟩, hno, hlt⟩ := X
  intro H locs ls hl hP hD hS
  have hl : lv_has ls 2 [(0, .ref (a 20)), (1, .int x1)] := hl
  have hP : va_P (dC, dI) classes (s_t k a f_t g_t ++ (P)) H := hP
  have hD : va_D A (s_t k a f_t g_t ++ (P)) := hD
  show W p l e (z_rm 3 3 24) s m args below meth c H locs c0 s0 _ (F0 m 11 ls [])
  refine lv_aload_n hx hb d_TR_readWords_11 rfl (lv_at hl 0 rfl) ?_
  refine va_get (D := (dC, dI)) (ci := 1) (v := .int (f_t 1)) (C := R_TR) (T := F_TR) (N := 5) hx hb htz i_TR hown hK hP 0 rfl rfl 4 (by decide) (htz _ kf_TR_31) (fun _ h9 => h9) rfl d_TR_readWords_12 ?_
  refine lv_aload_n hx hb d_TR_readWords_15 rfl (lv_at hl 0 rfl) ?_
  refine va_get (D := (dC, dI)) (ci := 1) (v := .int (f_t 0)) (C := R_TR) (T := F_TR) (N := 5) hx hb htz i_TR hown hK hP 0 rfl rfl 3 (by decide) (htz _ kf_TR_27) (fun _ h9 => h9) rfl d_TR_readWords_16 ?_
  refine lv_icmp_ge (tgt := 61) hx hb d_TR_readWords_19 (by decide) (fun c_19 => ?_) (fun c_19 => ?_)
  · exact (k_61 c_19) H locs ls (lv_sub hl [0, 1] rfl) hP hD hS
  · refine lv_aload_n hx hb d_TR_readWords_22 rfl (lv_at hl 0 rfl) ?_
    refine va_get (D := (dC, dI)) (ci := 1) (v := .int (f_t 1)) (C := R_TR) (T := F_TR) (N := 5) hx hb htz i_TR hown hK hP 0 rfl rfl 4 (by decide) (htz _ kf_TR_31) (fun _ h9 => h9) rfl d_TR_readWords_23 ?_
    refine lv_iload_n hx hb d_TR_readWords_26 rfl (lv_at hl 1 rfl) ?_
    refine lv_bipush (v := 12) hx hb d_TR_readWords_27 (by decide) ?_
    refine lv_iadd hx hb d_TR_readWords_29 ?_
    refine lv_icmp_ge (tgt := 61) hx hb d_TR_readWords_30 (by decide) (fun c_30 => ?_) (fun c_30 => ?_)
    · exact (k_61_1 c_19 c_30) H locs ls (lv_sub hl [0, 1] rfl) hP hD hS
    · refine lv_aload_n hx hb d_TR_readWords_33 rfl (lv_at hl 0 rfl) ?_
      refine va_get (D := (dC, dI)) (ci := 1) (v := .ref (a 21)) (C := R_TR) (T := F_TR) (N := 5) hx hb htz i_TR hown hK hP 0 rfl rfl 0 (by decide) (htz _ kf_TR_9) (fun _ h9 => h9) rfl d_TR_readWords_34 ?_
      refine lv_aload_n hx hb d_TR_readWords_37 rfl (lv_at hl 0 rfl) ?_
      refine va_get (D := (dC, dI)) (ci := 1) (v := .int (f_t 1)) (C := R_TR) (T := F_TR) (N := 5) hx hb htz i_TR hown hK hP 0 rfl rfl 4 (by decide) (htz _ kf_TR_31) (fun _ h9 => h9) rfl d_TR_readWords_38 ?_
      refine va_iald hx hb hK hP 1 0 rfl rfl (h_41 c_19 c_30) d_TR_readWords_41 ?_
      have hFc : ∀ q, va_A [] H.size q → A q := fun q h => h.elim (fun z => by obtain ⟨i9, e9, h9⟩ := z; cases h9) (fun z => hA q (Nat.le_trans hS.1 z))
      refine va_calli (va_runS (As := [.int ((g_t 0) (f_t 1 : Int32).toNatClampNeg)]) (rest := []) ⟨hx, hb, hml, hown, htz⟩ ((m_42 c_19 c_30) H.size) (va_cwS 1 htz (z_gS (fun _ h => h) km_TR_96 st_TR_isWordByte ini_TR m_TR_isWordByte) rfl rfl rfl (by decide +kernel) ⟨(Nat.le_of_ble_eq_true rfl), (Nat.le_of_ble_eq_true rfl)⟩) ⟨z_blind, fun U hU hW => ⟨rfl, by rw [hU], hE.call hS hFc hU hW, by rw [hU]; exact zP0, va_K.moved hW.alike hK, zD0⟩⟩ rfl rfl hl.1 rfl (lv_room (Nat.le_of_ble_eq_true rfl)) d_TR_readWords_42 (b_42 c_19 c_30)) hS (fun q _ h => hFc q h) hFc (fun r u t H1 locs ht hvm hw hB hz1 hk1 hS => ?_)
      obtain ⟨hP1, hK1, hD1⟩ := hB
      rw [ht] at hP1
      have hP : va_P (dC, dI) classes (s_t k a f_t g_t ++ (P)) H1 := hP.kept (fun j q hq => hk1 q.1 (hP j q hq).lt (fun z => z.elim (fun z => by obtain ⟨i9, e9, h9⟩ := z; cases h9) (fun z => absurd z (Nat.not_le.mpr (hP j q hq).lt))))
      exact (k_42 c_19 c_30) r _ hw H1 locs ls (lv_sub hl [0, 1] rfl) hP hD hS
set_option maxHeartbeats 1000000 in
set_option maxRecDepth 100000 in
theorem k_TR_readWords_45 {C : CT} (X : cX C "QuestionText$TextReader" b_TR_readWords 2 (some (.array .int))) (Post : Option Nat → va_W → Prop) (PX : String → va_W → Prop) (x1 : Int32) (y0 : Int32) (f_t : FT) (g_t : GT) (P : va_W) (NN : Nat) (c0 s0 : Nat)
    (k_61 : (y0 = 0) → zc_TR_readWords C Post PX c0 s0 61 [(0, .ref (ad C.1 20)), (1, .int x1)] [] (s_t C.1.2.2.2.1 C.1.2.2.2.2 f_t g_t ++ (P)))
    (k_11 : (¬ y0 = 0) → zc_TR_readWords C Post PX c0 s0 11 [(0, .ref (ad C.1 20)), (1, .int x1)] [] (s_t C.1.2.2.2.1 C.1.2.2.2.2 (va_up f_t 1 ((f_t 1) + 1)) g_t ++ (P))) : zc_TR_readWords C Post PX c0 s0 45 [(0, .ref (ad C.1 20)), (1, .int x1)] [.int y0] (s_t C.1.2.2.2.1 C.1.2.2.2.2 f_t g_t ++ (P)) := by
  obtain ⟨⟨l, dC, dI, k, a⟩, p, e, s, m, args, below, meth, c, A⟩ := C
  obtain ⟨⟨hx, hb, hr, htz, hown, hlocks, hml, hE, hK, hA⟩, hno, hlt⟩ := X
  intro H locs ls hl hP hD hS
  have hl : lv_has ls 2 [(0, .ref (a 20)), (1, .int x1)] := hl
  have hP : va_P (dC, dI) classes (s_t k a f_t g_t ++ (P)) H := hP
  have hD : va_D A (s_t k a f_t g_t ++ (P)) := hD
  show W p l e (z_rm 3 3 24) s m args below meth c H locs c0 s0 _ (F0 m 45 ls [.int y0])
  refine lv_if_eq (tgt := 61) hx hb d_TR_readWords_45 (by decide) (fun c_45 => ?_) (fun c_45 => ?_)
  · exact (k_61 c_45) H locs ls (lv_sub hl [0, 1] rfl) hP hD hS
  · refine lv_aload_n hx hb d_TR_readWords_48 rfl (lv_at hl 0 rfl) ?_
    refine lv_dup hx hb d_TR_readWords_49 rfl ?_
    refine va_get (D := (dC, dI)) (ci := 1) (v := .int (f_t 1)) (C := R_TR) (T := F_TR) (N := 5) hx hb htz i_TR hown hK hP 0 rfl rfl 4 (by decide) (htz _ kf_TR_31) (fun _ h9 => h9) rfl d_TR_readWords_50 ?_
    refine lv_iconst (v := 1) hx hb d_TR_readWords_53 (by decide) ?_
    refine lv_iadd hx hb d_TR_readWords_54 ?_
    refine va_put (D := (dC, dI)) (ci := 1) (v := .int ((f_t 1) + 1)) (ty := .int) (C := R_TR) (T := F_TR) (N := 5) hx hb htz i_TR t_TR o_TR n_TR hown hK hP hD hS 0 rfl rfl 4 (by decide) (htz _ kf_TR_31) (fun _ h9 => h9) rfl (by decide +kernel) rfl rfl (Nat.le_of_ble_eq_true rfl) d_TR_readWords_55 (fun H locs hP hD hS => ?_)
    have hP : va_P (dC, dI) classes (s_t k a (va_up f_t 1 ((f_t 1) + 1)) g_t ++ (P)) H := hP
    have hD : va_D A (s_t k a (va_up f_t 1 ((f_t 1) + 1)) g_t ++ (P)) := hD
    refine lv_goto (tgt := 11) hx hb d_TR_readWords_58 (by decide) ?_
    exact (k_11 c_45) H locs ls (lv_sub hl [0, 1] rfl) hP hD hS
set_option maxHeartbeats 1000000 in
set_option maxRecDepth 100000 in
theorem k_TR_readWords_61 {C : CT} (X : cX C "QuestionText$TextReader" b_TR_readWords 2 (some (.array .int))) (Post : Option Nat → va_W → Prop) (PX : String → va_W → Prop) (x1 : Int32) (f_t : FT) (g_t : GT) (P : va_W) (NN : Nat) (c0 s0 : Nat)
    (k_94 : (f_t 1 = x1) → zc_TR_readWords C Post PX c0 s0 94 [(0, .ref (ad C.1 20)), (1, .int x1)] [] (s_t C.1.2.2.2.1 C.1.2.2.2.2 f_t g_t ++ (P)))
    (k_94_1 : (¬ f_t 1 = x1) → (f_t 0 ≤ f_t 1) → zc_TR_readWords C Post PX c0 s0 94 [(0, .ref (ad C.1 20)), (1, .int x1)] [] (s_t C.1.2.2.2.1 C.1.2.2.2.2 f_t g_t ++ (P)))
    (h_88 : (¬ f_t 1 = x1) → (¬ f_t 0 ≤ f_t 1) → vp_in (f_t 1) 400)
    (k_102 : (¬ f_t 1 = x1) → (¬ f_t 0 ≤ f_t 1) → ((g_t 0) (f_t 1 : Int32).toNatClampNeg = 34) → zc_TR_readWords C Post PX c0 s0 102 [(0, .ref (ad C.1 20)), (1, .int x1)] [] (s_t C.1.2.2.2.1 C.1.2.2.2.2 f_t g_t ++ (P)))
    (k_94_2 : (¬ f_t 1 = x1) → (¬ f_t 0 ≤ f_t 1) → (¬ (g_t 0) (f_t 1 : Int32).toNatClampNeg = 34) → zc_TR_readWords C Post PX c0 s0 94 [(0, .ref (ad C.1 20)), (1, .int x1)] [] (s_t C.1.2.2.2.1 C.1.2.2.2.2 f_t g_t ++ (P))) : zc_TR_readWords C Post PX c0 s0 61 [(0, .ref (ad C.1 20)), (1, .int x1)] [] (s_t C.1.2.2.2.1 C.1.2.2.2.2 f_t g_t ++ (P)) := by
  obtain ⟨⟨l, dC, dI, k, a⟩, p, e, s, m, args, below, meth, c, A⟩ := C
  obtain ⟨⟨hx, hb, hr, htz, hown, hlocks, hml, hE, hK, hA⟩, hno, hlt⟩ := X
  intro H locs ls hl hP hD hS
  have hl : lv_has ls 2 [(0, .ref (a 20)), (1, .int x1)] := hl
  have hP : va_P (dC, dI) classes (s_t k a f_t g_t ++ (P)) H := hP
  have hD : va_D A (s_t k a f_t g_t ++ (P)) := hD
  show W p l e (z_rm 3 3 24) s m args below meth c H locs c0 s0 _ (F0 m 61 ls [])
  refine lv_aload_n hx hb d_TR_readWords_61 rfl (lv_at hl 0 rfl) ?_
  refine va_get (D := (dC, dI)) (ci := 1) (v := .int (f_t 1)) (C := R_TR) (T := F_TR) (N := 5) hx hb htz i_TR hown hK hP 0 rfl rfl 4 (by decide) (htz _ kf_TR_31) (fun _ h9 => h9) rfl d_TR_readWords_62 ?_
  refine lv_iload_n hx hb d_TR_readWords_65 rfl (lv_at hl 1 rfl) ?_
  refine lv_icmp_eq (tgt := 94) hx hb d_TR_readWords_66 (by decide) (fun c_66 => ?_) (fun c_66 => ?_)
  · exact (k_94 c_66) H locs ls (lv_sub hl [0, 1] rfl) hP hD hS
  · refine lv_aload_n hx hb d_TR_readWords_69 rfl (lv_at hl 0 rfl) ?_
    refine va_get (D := (dC, dI)) (ci := 1) (v := .int (f_t 1)) (C := R_TR) (T := F_TR) (N := 5) hx hb htz i_TR hown hK hP 0 rfl rfl 4 (by decide) (htz _ kf_TR_31) (fun _ h9 => h9) rfl d_TR_readWords_70 ?_
    refine lv_aload_n hx hb d_TR_readWords_73 rfl (lv_at hl 0 rfl) ?_
    refine va_get (D := (dC, dI)) (ci := 1) (v := .int (f_t 0)) (C := R_TR) (T := F_TR) (N := 5) hx hb htz i_TR hown hK hP 0 rfl rfl 3 (by decide) (htz _ kf_TR_27) (fun _ h9 => h9) rfl d_TR_readWords_74 ?_
    refine lv_icmp_ge (tgt := 94) hx hb d_TR_readWords_77 (by decide) (fun c_77 => ?_) (fun c_77 => ?_)
    · exact (k_94_1 c_66 c_77) H locs ls (lv_sub hl [0, 1] rfl) hP hD hS
    · refine lv_aload_n hx hb d_TR_readWords_80 rfl (lv_at hl 0 rfl) ?_
      refine va_get (D := (dC, dI)) (ci := 1) (v := .ref (a 21)) (C := R_TR) (T := F_TR) (N := 5) hx hb htz i_TR hown hK hP 0 rfl rfl 0 (by decide) (htz _ kf_TR_9) (fun _ h9 => h9) rfl d_TR_readWords_81 ?_
      refine lv_aload_n hx hb d_TR_readWords_84 rfl (lv_at hl 0 rfl) ?_
      refine va_get (D := (dC, dI)) (ci := 1) (v := .int (f_t 1)) (C := R_TR) (T := F_TR) (N := 5) hx hb htz i_TR hown hK hP 0 rfl rfl 4 (by decide) (htz _ kf_TR_31) (fun _ h9 => h9) rfl d_TR_readWords_85 ?_
      refine va_iald hx hb hK hP 1 0 rfl rfl (h_88 c_66 c_77) d_TR_readWords_88 ?_
      refine lv_bipush (v := 34) hx hb d_TR_readWords_89 (by decide) ?_
      refine lv_icmp_eq (tgt := 102) hx hb d_TR_readWords_91 (by decide) (fun c_91 => ?_) (fun c_91 => ?_)
      · exact (k_102 c_66 c_77 c_91) H locs ls (lv_sub hl [0, 1] rfl) hP hD hS
      · exact (k_94_2 c_66 c_77 c_91) H locs ls (lv_sub hl [0, 1] rfl) hP hD hS
set_option maxHeartbeats 1000000 in
set_option maxRecDepth 100000 in
theorem k_TR_readWords_94 {C : CT} (X : cX C "QuestionText$TextReader" b_TR_readWords 2 (some (.array .int))) (Post : Option Nat → va_W → Prop) (PX : String → va_W → Prop) {P_99 : va_W → Prop} {X_99 : String → va_W → Prop} (x1 : Int32) (f_t : FT) (g_t : GT) (P : va_W) (NN : Nat) (c0 s0 : Nat)
    (b_99 : c0 + 1 ≤ 3 ∧ s0 + 6 ≤ 24)
    (m_99 : xV C.1 y_TR_fail (Cond.code y_TR_fail b_TR_fail 2 none) 0 1 6 [.ref (ad C.1 20), .int (f_t 1)] (s_t C.1.2.2.2.1 C.1.2.2.2.2 f_t g_t) P_99 X_99)
    (k_99 : ∀ (u : va_W), P_99 u → zc_TR_readWords C Post PX (c0 + 1) (s0 + 6) 102 [(0, .ref (ad C.1 20)), (1, .int x1)] [] (u ++ (P)))
    (x_99 : ∀ (E : String) (u : va_W), X_99 E u → PX E (u ++ (P))) : zc_TR_readWords C Post PX c0 s0 94 [(0, .ref (ad C.1 20)), (1, .int x1)] [] (s_t C.1.2.2.2.1 C.1.2.2.2.2 f_t g_t ++ (P)) := by
  obtain ⟨⟨l, dC, dI, k, a⟩, p, e, s, m, args, below, meth, c, A⟩ := C
  obtain ⟨⟨hx, hb, hr, htz, hown, hlocks, hml, hE, hK, hA⟩, hno, hlt⟩ := X
  intro H locs ls hl hP hD hS
  have hl : lv_has ls 2 [(0, .ref (a 20)), (1, .int x1)] := hl
  have hP : va_P (dC, dI) classes (s_t k a f_t g_t ++ (P)) H := hP
  have hD : va_D A (s_t k a f_t g_t ++ (P)) := hD
  show W p l e (z_rm 3 3 24) s m args below meth c H locs c0 s0 _ (F0 m 94 ls [])
  refine lv_aload_n hx hb d_TR_readWords_94 rfl (lv_at hl 0 rfl) ?_
  refine lv_aload_n hx hb d_TR_readWords_95 rfl (lv_at hl 0 rfl) ?_
  refine va_get (D := (dC, dI)) (ci := 1) (v := .int (f_t 1)) (C := R_TR) (T := F_TR) (N := 5) hx hb htz i_TR hown hK hP 0 rfl rfl 4 (by decide) (htz _ kf_TR_31) (fun _ h9 => h9) rfl d_TR_readWords_96 ?_
  have hPf : va_P (dC, dI) classes (([]) ++ ((s_t k a f_t g_t) ++ (P))) H := hP
  have hDf : va_D A (([]) ++ ((s_t k a f_t g_t) ++ (P))) := hD
  have hFc := zfree hDf hS hA
  refine vx_callv (vx_runV (As := [.int (f_t 1)]) (rest := []) ⟨hx, hb, hml, hown, htz⟩ (m_99 H.size) (cwV 1 htz (z_gV (fun _ h => h) km_TR_61 in_TR_fail se_TR_fail ini_TR m_TR_fail) rfl rfl rfl (by decide +kernel) ⟨(Nat.le_of_ble_eq_true rfl), (Nat.le_of_ble_eq_true rfl)⟩) ⟨z_blind, va_recv hK hP (ci := 1) (q0 := 0) rfl rfl, fun U hU hW => ⟨rfl, by rw [hU], hE.call hS hFc hU hW, by rw [hU]; exact (zPc hPf), va_K.moved hW.alike hK, (zDc hDf)⟩⟩ rfl rfl hl.1 rfl (lv_room (Nat.le_of_ble_eq_true rfl)) d_TR_readWords_99 b_99) hS (fun q _ h => hFc q h) hFc (fun q _ h => hFc q h) (fun E ce q9 u t H1 locs ht hvm hw hB hz1 hk1 hS hce hcv hcl => ?_) (fun u t H1 locs ht hvm hw hB hz1 hk1 hS => ?_)
  · obtain ⟨hxe, hP1, hK1, hD1⟩ := hB
    rw [ht] at hP1
    obtain ⟨hP, hD⟩ := zf hPf hDf hk1 hFc hP1 hD1
    exact vx_out (fun x hx9 => (hno x hx9).elim) hlocks hce hcv hcl (fun t9 h9 h8 => ⟨_, trivial, ⟨x_99 E u hxe, by rw [h9]; exact hP, va_K.moved h8 hK, hD⟩, hS.F h9⟩) hS.2.2 b_99.1 b_99.2
  · obtain ⟨hP1, hK1, hD1⟩ := hB
    rw [ht] at hP1
    obtain ⟨hP, hD⟩ := zf hPf hDf hk1 hFc hP1 hD1
    exact k_99 _ hw H1 locs ls (lv_sub hl [0, 1] rfl) hP hD hS
set_option maxHeartbeats 1000000 in
set_option maxRecDepth 100000 in
theorem k_TR_readWords_102 {C : CT} (X : cX C "QuestionText$TextReader" b_TR_readWords 2 (some (.array .int))) (Post : Option Nat → va_W → Prop) (PX : String → va_W → Prop) {P_123 : Option Nat → va_W → Prop} (x1 : Int32) (f_t : FT) (g_t : GT) (P : va_W) (NN : Nat) (c0 s0 : Nat)
    (b_123 : c0 + 1 ≤ 3 ∧ s0 + NN ≤ 24)
    (m_123 : uR C.1 y_Ar_copyOfRange (Cond.code y_Ar_copyOfRange b_Ar_copyOfRange 3 (some (.array .int))) 2 1 NN [.ref (ad C.1 21), .int x1, .int (((f_t 1) + 1) - 1)] (s_t C.1.2.2.2.1 C.1.2.2.2.2 (va_up f_t 1 ((f_t 1) + 1)) g_t ++ (P)) P_123)
    (k_123 : ∀ (r : Option Nat) (u : va_W), P_123 r u → zc_TR_readWords C Post PX (c0 + 1) (s0 + NN) 126 [(0, .ref (ad C.1 20)), (1, .int x1)] [va_rf r] (u)) : zc_TR_readWords C Post PX c0 s0 102 [(0, .ref (ad C.1 20)), (1, .int x1)] [] (s_t C.1.2.2.2.1 C.1.2.2.2.2 f_t g_t ++ (P)) := by
  obtain ⟨⟨l, dC, dI, k, a⟩, p, e, s, m, args, below, meth, c, A⟩ := C
  obtain ⟨⟨hx, hb, hr, htz, hown, hlocks, hml, hE, hK, hA⟩, hno, hlt⟩ := X
  intro H locs ls hl hP hD hS
  have hl : lv_has ls 2 [(0, .ref (a 20)), (1, .int x1)] := hl
  have hP : va_P (dC, dI) classes (s_t k a f_t g_t ++ (P)) H := hP
  have hD : va_D A (s_t k a f_t g_t ++ (P)) := hD
  show W p l e (z_rm 3 3 24) s m args below meth c H locs c0 s0 _ (F0 m 102 ls [])
  refine lv_aload_n hx hb d_TR_readWords_102 rfl (lv_at hl 0 rfl) ?_
  refine lv_dup hx hb d_TR_readWords_103 rfl ?_
  refine va_get (D := (dC, dI)) (ci := 1) (v := .int (f_t 1)) (C := R_TR) (T := F_TR) (N := 5) hx hb htz i_TR hown hK hP 0 rfl rfl 4 (by decide) (htz _ kf_TR_31) (fun _ h9 => h9) rfl d_TR_readWords_104 ?_
  refine lv_iconst (v := 1) hx hb d_TR_readWords_107 (by decide) ?_
  refine lv_iadd hx hb d_TR_readWords_108 ?_
  refine va_put (D := (dC, dI)) (ci := 1) (v := .int ((f_t 1) + 1)) (ty := .int) (C := R_TR) (T := F_TR) (N := 5) hx hb htz i_TR t_TR o_TR n_TR hown hK hP hD hS 0 rfl rfl 4 (by decide) (htz _ kf_TR_31) (fun _ h9 => h9) rfl (by decide +kernel) rfl rfl (Nat.le_of_ble_eq_true rfl) d_TR_readWords_109 (fun H locs hP hD hS => ?_)
  have hP : va_P (dC, dI) classes (s_t k a (va_up f_t 1 ((f_t 1) + 1)) g_t ++ (P)) H := hP
  have hD : va_D A (s_t k a (va_up f_t 1 ((f_t 1) + 1)) g_t ++ (P)) := hD
  refine lv_aload_n hx hb d_TR_readWords_112 rfl (lv_at hl 0 rfl) ?_
  refine va_get (D := (dC, dI)) (ci := 1) (v := .ref (a 21)) (C := R_TR) (T := F_TR) (N := 5) hx hb htz i_TR hown hK hP 0 rfl rfl 0 (by decide) (htz _ kf_TR_9) (fun _ h9 => h9) rfl d_TR_readWords_113 ?_
  refine lv_iload_n hx hb d_TR_readWords_116 rfl (lv_at hl 1 rfl) ?_
  refine lv_aload_n hx hb d_TR_readWords_117 rfl (lv_at hl 0 rfl) ?_
  refine va_get (D := (dC, dI)) (ci := 1) (v := .int ((f_t 1) + 1)) (C := R_TR) (T := F_TR) (N := 5) hx hb htz i_TR hown hK hP 0 rfl rfl 4 (by decide) (htz _ kf_TR_31) (fun _ h9 => h9) rfl d_TR_readWords_118 ?_
  refine lv_iconst (v := 1) hx hb d_TR_readWords_121 (by decide) ?_
  refine lv_isub hx hb d_TR_readWords_122 ?_
  have hFc : ∀ q, va_A (s_t k a (va_up f_t 1 ((f_t 1) + 1)) g_t ++ (P)) H.size q → A q := fun q h => h.elim (fun z => by obtain ⟨i9, e9, h9⟩ := z; exact hD.2 i9 _ h9) (fun z => hA q (Nat.le_trans hS.1 z))
  refine va_callq (va_runS (As := [.ref (a 21), .int x1, .int (((f_t 1) + 1) - 1)]) (rest := []) ⟨hx, hb, hml, hown, htz⟩ (m_123 H.size) (va_cwS 3 htz (z_gS (fun _ h => h) km_TR_99 st_Ar_copyOfRange ini_Ar m_Ar_copyOfRange) rfl rfl rfl (by decide +kernel) ⟨(Nat.le_of_ble_eq_true rfl), (Nat.le_of_ble_eq_true rfl)⟩) ⟨z_blind, fun U hU hW => ⟨rfl, by rw [hU], hE.call hS hFc hU hW, by rw [hU]; exact hP, va_K.moved hW.alike hK, (hD.weaken (fun _ _ _ _ => trivial))⟩⟩ rfl rfl hl.1 rfl (lv_room (Nat.le_of_ble_eq_true rfl)) d_TR_readWords_123 b_123) hS (fun q _ h => hFc q h) hFc (fun r u t H1 locs ht hvm hw hB hz1 hk1 hS => ?_)
  obtain ⟨hP1, hK1, hD1⟩ := hB
  rw [ht] at hP1
  have hP := hP1
  have hD := hD1.weaken (fun _ q _ h => hFc _ h)
  exact k_123 r _ hw H1 locs ls (lv_sub hl [0, 1] rfl) hP hD hS
set_option maxHeartbeats 1000000 in
set_option maxRecDepth 100000 in
theorem k_TR_readWords_126 {C : CT} (X : cX C "QuestionText$TextReader" b_TR_readWords 2 (some (.array .int))) (Post : Option Nat → va_W → Prop) (PX : String → va_W → Prop) (x1 : Int32) (y0 : Nat) (f_t : FT) (g_t : GT) (P : va_W) (NN : Nat) (c0 s0 : Nat)
    (b_126 : c0 ≤ 3 ∧ s0 ≤ 24)
    (q_126 : Post (some y0) (s_t C.1.2.2.2.1 C.1.2.2.2.2 f_t g_t ++ (P))) : zc_TR_readWords C Post PX c0 s0 126 [(0, .ref (ad C.1 20)), (1, .int x1)] [.ref y0] (s_t C.1.2.2.2.1 C.1.2.2.2.2 f_t g_t ++ (P)) := by
  obtain ⟨⟨l, dC, dI, k, a⟩, p, e, s, m, args, below, meth, c, A⟩ := C
  obtain ⟨⟨hx, hb, hr, htz, hown, hlocks, hml, hE, hK, hA⟩, hno, hlt⟩ := X
  intro H locs ls hl hP hD hS
  have hl : lv_has ls 2 [(0, .ref (a 20)), (1, .int x1)] := hl
  have hP : va_P (dC, dI) classes (s_t k a f_t g_t ++ (P)) H := hP
  have hD : va_D A (s_t k a f_t g_t ++ (P)) := hD
  show W p l e (z_rm 3 3 24) s m args below meth c H locs c0 s0 _ (F0 m 126 ls [.ref y0])
  refine W.widen (k := 3) (n := 24) b_126.1 b_126.2 ?_
  refine vx_ret ?_
  exact W.aret (v := .ref y0) hx hb hr (Or.inr ⟨_, rfl⟩) (Or.inr ⟨_, rfl⟩) (fun t ht hW => ⟨⟨(some y0), (s_t k a f_t g_t ++ (P)), rfl, q_126, by rw [ht]; exact hP, va_K.moved hW.alike hK, hD⟩, hS.F ht⟩) hS.2.2 d_TR_readWords_126
set_option maxHeartbeats 1000000 in
set_option maxRecDepth 100000 in
theorem e_TR_readWords (T : ST) (hlt : T.1.stackTraces = false) (Post : Option Nat → va_W → Prop) (PX : String → va_W → Prop) (f_t : FT) (g_t : GT) (P : va_W) (NN : Nat) (h : ∀ C : CT, C.1 = T → cX C "QuestionText$TextReader" b_TR_readWords 2 (some (.array .int)) → zc_TR_readWords C Post PX 0 0 0 [(0, .ref (ad C.1 20))] [] (s_t C.1.2.2.2.1 C.1.2.2.2.2 f_t g_t ++ (P))) : xR T y_TR_readWords (Cond.code y_TR_readWords b_TR_readWords 2 (some (.array .int))) 3 3 24 [.ref (ad T 20)] (s_t T.2.2.2.1 T.2.2.2.2 f_t g_t ++ (P)) Post PX := by
  obtain ⟨l, dC, dI, k, a⟩ := T
  intro sz
  refine vx_ofW (cc := b_TR_readWords) (maxL := 2) (ret := (some (.array .int))) (by decide) rfl ?_
  intro p e s m args below meth c s₁ B hml hno hv
  obtain ⟨rfl, hsz, hE, hP, hK, hD0⟩ := hv
  have hts := atoms_spec (ws := (Cond.code y_TR_readWords b_TR_readWords 2 (some (.array .int))) :: z_T) B.pre
  have htz : ∀ w ∈ z_T, w.before _ s = true := fun w h => hts w (z_cons w h)
  subst hsz
  have hD := hD0.self (sz := s.heap.size)
  generalize hAe : va_A (s_t k a f_t g_t ++ (P)) s.heap.size = A at hD hE ⊢
  have hA : ∀ q : Nat, s.heap.size ≤ q → A q := fun q h => by rw [← hAe]; exact Or.inr h
  have hl := lv_entry ([.ref (a 20)]) (n := 2) (Nat.le_of_ble_eq_true rfl)
  rw [lg_entry_eq]
  generalize (lg_sl ([.ref (a 20)]) ++ List.replicate (2 - (lg_sl ([.ref (a 20)])).length) Slot.unset).toArray = ls at hl ⊢
  exact h ((l, dC, dI, k, a), p, e, s, m, ([.ref (a 20)] : List Value).toArray, below, meth, c, A) rfl ⟨⟨B.exec, B.bytes, B.returns, htz, findClass_of_methodNamed B.named, B.notSynchronized, hml, hE, hK, hA⟩, hno, hlt⟩ s.heap [] ls hl hP hD va_S.rf
