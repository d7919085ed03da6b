-- small ones
def z_fl (v : Int32) (f : Nat → Int32) (i : Nat) : Nat → Int32 := fun j => if j < i then v else f j
theorem z_fl_0 (v : Int32) (f : Nat → Int32) : z_fl v f 0 = f := by
  funext j
  simp [z_fl]
theorem z_fl_s (v : Int32) (f : Nat → Int32) (i : Nat) : upd (z_fl v f i) i v = z_fl v f (i + 1) := by
  funext j
  unfold upd z_fl
  by_cases h : j = i
  · rw [if_pos h, if_pos (by omega)]
  · rw [if_neg h]
    by_cases h2 : j < i
    · rw [if_pos h2, if_pos (by omega)]
    · rw [if_neg h2, if_neg (by omega)]
def z_hm (set : Int64) (nb : Int32) : Int32 := if (set.toUInt64 >>> (nb.toInt64.toUInt64 &&& Int64.toUInt64 63)).toInt64 &&& 1 = 0 then 0 else 1
def z_rd (g : Nat → Option Nat) (hi x : Int32) : Option Nat := if x < 1 then none else if x ≤ hi then g x.toNatClampNeg else none
theorem z_rd_in {x hi : Int32} {N : Nat} (hh : hi.toInt < N) (h1 : ¬ x < 1) (h2 : x ≤ hi) : vp_in x N := by
  rw [vp_in_iff]
  rw [Int32.lt_iff_toInt_lt] at h1
  rw [Int32.le_iff_toInt_le] at h2
  have : (1 : Int32).toInt = 1 := by decide
  omega
set_option maxHeartbeats 1000000 in
set_option maxRecDepth 100000 in
theorem c_Ar_fill (l : Launch) (dC : Nat → ClassId) (dI : Nat → Nat → Nat) (k : Nat → ClassId) (sz : Nat) (h0 : Nat) (nn : Nat) (f : Nat → Int32) (v : Int32) (hn : nn < 2 ^ 31) : Met l y_Ar_fill (Cond.code y_Ar_fill b_Ar_fill 4 none :: z_T) (z_rm 0 0 0) (z_Pc dC dI k sz [.ref h0, .int v] [(h0, .inl (k 0, nn, .inl f))]) (va_Qv (fun (u : Unit) => True) (fun (u : Unit) t => z_B dC dI k (va_A [(h0, .inl (k 0, nn, .inl f))] sz) [(h0, .inl (k 0, nn, .inl (z_fl v f nn)))] t) (va_A [(h0, .inl (k 0, nn, .inl f))] sz)) 0 0 (va_A [(h0, .inl (k 0, nn, .inl f))] sz) := by
  refine Met.ofW (cc := b_Ar_fill) (maxL := 4) (ret := none) (by decide) rfl ?_
  intro p e s m args below meth c s₁ B hml hv
  obtain ⟨rfl, hsz, hE, hP, hK, hD0⟩ := hv
  have hx := B.exec
  have hb := B.bytes
  have hr := B.returns
  have hts := atoms_spec (ws := Cond.code y_Ar_fill b_Ar_fill 4 none :: z_T) B.pre
  have htz : ∀ w ∈ z_T, w.before _ s = true := fun w h => hts w (z_cons w h)
  have hown : s.vm.findClass "java/util/Arrays" = some m.cls := findClass_of_methodNamed B.named
  have hlocks := B.notSynchronized
  subst hsz
  have hD := hD0.self (sz := s.heap.size)
  generalize hAe : va_A [(h0, .inl (k 0, nn, .inl f))] s.heap.size = A at hD hE ⊢
  have hA : ∀ q : Nat, s.heap.size ≤ q → A q := fun q h => by rw [← hAe]; exact Or.inr h
  have hS : va_S A s.heap s.heap [] := va_S.rf
  have hP : va_P (dC, dI) classes [(h0, .inl (k 0, nn, .inl f))] s.heap := hP
  have hl := lv_entry ([.ref h0, .int v]) (n := 4) (Nat.le_of_ble_eq_true rfl)
  rw [lg_entry_eq]
  generalize (lg_sl ([.ref h0, .int v]) ++ List.replicate (4 - (lg_sl ([.ref h0, .int v])).length) Slot.unset).toArray = ls at hl ⊢
  have hl : lv_has ls 4 [(0, .ref h0), (1, .int v)] := hl
  refine lv_iconst (v := 0) hx hb d_Ar_fill_0 (by decide) ?_
  refine lv_istore_n (lv' := [(2, .int 0), (0, .ref h0), (1, .int v)]) hx hb d_Ar_fill_1 rfl hl (by decide) rfl (fun ls hl => ?_)
  refine lv_aload_n hx hb d_Ar_fill_2 rfl (lv_at hl 1 rfl) ?_
  refine va_alen hx hb hK hP 0 0 rfl rfl (v := nI nn) rfl d_Ar_fill_3 ?_
  refine lv_istore_n (lv' := [(3, .int (nI nn)), (2, .int 0), (0, .ref h0), (1, .int v)]) hx hb d_Ar_fill_4 rfl hl (by decide) rfl (fun ls hl => ?_)
  have loop : ∀ (d i : Nat) (H : Heap) (locs : List Loc) (ls : Array Slot), i + d = nn → va_P (dC, dI) classes [(h0, .inl (k 0, nn, .inl (z_fl v f i)))] H → va_D A [(h0, .inl (k 0, nn, .inl (z_fl v f i)))] → va_S A s.heap H locs → lv_has ls 4 [(0, .ref h0), (1, .int v), (2, .int (nI i)), (3, .int (nI nn))] → W p l e (headSpec (Cond.code y_Ar_fill b_Ar_fill 4 none :: z_T) (z_rm 0 0 0)).room s m ([.ref h0, .int v] : List Value).toArray below meth c H locs 0 0 (MQ below (va_Qv (fun (u : Unit) => True) (fun (u : Unit) t => z_B dC dI k A [(h0, .inl (k 0, nn, .inl (z_fl v f nn)))] t) A) ([.ref h0, .int v] : List Value).toArray s 0 0 A) (F0 m 5 ls []) := by
    intro d
    induction d with
    | zero =>
      intro i H locs ls hi hP hD hS hl
      refine lv_iload_n hx hb d_Ar_fill_5 rfl (lv_at hl 2 rfl) ?_
      refine lv_iload_n hx hb d_Ar_fill_6 rfl (lv_at hl 3 rfl) ?_
      refine lv_icmp_ge (tgt := 20) hx hb d_Ar_fill_7 (by decide) (fun c_7 => ?_) (fun c_7 => ?_)
      · have hi : i = nn := by omega
        subst hi
        have hP9 := hP.sub (ws' := [(h0, .inl (k 0, i, .inl (z_fl v f i)))]) [0] rfl
        have hD9 := hD.sub (ws' := [(h0, .inl (k 0, i, .inl (z_fl v f i)))]) [0] (by decide) rfl
        exact W.vret hx hb hr (fun t ht hW => ⟨⟨(), rfl, trivial, by rw [ht]; exact hP9, va_K.moved hW.alike hK, hD9⟩, hS.F ht⟩) hS.2.2 d_Ar_fill_20
      · exact absurd (nI_le (show nn ≤ i by omega) (show i < 2 ^ 31 by omega)) c_7
    | succ d ih =>
      intro i H locs ls hi hP hD hS hl
      refine lv_iload_n hx hb d_Ar_fill_5 rfl (lv_at hl 2 rfl) ?_
      refine lv_iload_n hx hb d_Ar_fill_6 rfl (lv_at hl 3 rfl) ?_
      refine lv_icmp_ge (tgt := 20) hx hb d_Ar_fill_7 (by decide) (fun c_7 => ?_) (fun c_7 => ?_)
      · exact absurd c_7 (nI_ge (by omega) hn)
      · refine lv_aload_n hx hb d_Ar_fill_10 rfl (lv_at hl 0 rfl) ?_
        refine lv_iload_n hx hb d_Ar_fill_11 rfl (lv_at hl 2 rfl) ?_
        refine lv_iload_n hx hb d_Ar_fill_12 rfl (lv_at hl 1 rfl) ?_
        refine va_iast hx hb hK hP hD hS 0 0 rfl rfl (vp_in_nI (by omega) hn) d_Ar_fill_13 (fun H locs hP hD hS => ?_)
        have hP : va_P (dC, dI) classes [(h0, .inl (k 0, nn, .inl (upd (z_fl v f i) ((nI i).toNatClampNeg) v)))] H := hP
        have hD : va_D A [(h0, .inl (k 0, nn, .inl (upd (z_fl v f i) ((nI i).toNatClampNeg) v)))] := hD
        rw [nI_clamp (show i < 2 ^ 31 by omega), z_fl_s] at hP hD
        have hP : va_P (dC, dI) classes [(h0, .inl (k 0, nn, .inl (z_fl v f (i + 1))))] H := hP
        have hD : va_D A [(h0, .inl (k 0, nn, .inl (z_fl v f (i + 1))))] := hD
        refine lv_iinc (v := nI (i + 1)) (lv' := [(2, .int (nI (i + 1))), (0, .ref h0), (1, .int v), (3, .int (nI nn))]) hx hb d_Ar_fill_14 hl (k := 2) rfl (nI_1 i) (by decide) rfl (fun ls hl => ?_)
        refine lv_goto (tgt := 5) hx hb d_Ar_fill_17 (by decide) ?_
        exact ih (i + 1) H locs ls (by omega) hP hD hS (lv_sub hl [1, 2, 0, 3] rfl)
  rw [← z_fl_0 v f] at hP
  have hD : va_D A [(h0, .inl (k 0, nn, .inl (z_fl v f 0)))] := by rw [z_fl_0]; exact hD
  exact loop nn 0 _ _ ls (by omega) hP hD hS (lv_sub hl [2, 3, 1, 0] rfl)
set_option maxHeartbeats 1000000 in
set_option maxRecDepth 100000 in
theorem c_Ca_clear (l : Launch) (dC : Nat → ClassId) (dI : Nat → Nat → Nat) (k : Nat → ClassId) (sz : Nat) (h0 : Nat) (b1 : Nat) (b2 : Nat) (cn : Int32) (nw : Int32) (pt : Int32) (kd : Int32) (f : Nat → Int32) : Met l y_Ca_clear (Cond.code y_Ca_clear b_Ca_clear 1 none :: z_T) (z_rm 1 0 0) (z_Pc dC dI k sz [.ref h0] [(h0, .inr (2, [.ref b1, .ref b2, .int cn, .int nw, .int pt, .int kd])), (b2, .inl (k 0, 61, .inl f))]) (va_Qv (fun (u : Unit) => True) (fun (u : Unit) t => z_B dC dI k (va_A [(h0, .inr (2, [.ref b1, .ref b2, .int cn, .int nw, .int pt, .int kd])), (b2, .inl (k 0, 61, .inl f))] sz) [(h0, .inr (2, [.ref b1, .ref b2, .int 0, .int 0, .int 0, .int 0])), (b2, .inl (k 0, 61, .inl (z_fl (-1) f 61)))] t) (va_A [(h0, .inr (2, [.ref b1, .ref b2, .int cn, .int nw, .int pt, .int kd])), (b2, .inl (k 0, 61, .inl f))] sz)) 0 0 (va_A [(h0, .inr (2, [.ref b1, .ref b2, .int cn, .int nw, .int pt, .int kd])), (b2, .inl (k 0, 61, .inl f))] sz) := by
  refine Met.ofW (cc := b_Ca_clear) (maxL := 1) (ret := none) (by decide) rfl ?_
  intro p e s m args below meth c s₁ B hml hv
  obtain ⟨rfl, hsz, hE, hP, hK, hD0⟩ := hv
  have hx := B.exec
  have hb := B.bytes
  have hr := B.returns
  have hts := atoms_spec (ws := Cond.code y_Ca_clear b_Ca_clear 1 none :: z_T) B.pre
  have htz : ∀ w ∈ z_T, w.before _ s = true := fun w h => hts w (z_cons w h)
  have hown : s.vm.findClass "QuestionText$Call" = some m.cls := findClass_of_methodNamed B.named
  have hlocks := B.notSynchronized
  subst hsz
  have hD := hD0.self (sz := s.heap.size)
  generalize hAe : va_A [(h0, .inr (2, [.ref b1, .ref b2, .int cn, .int nw, .int pt, .int kd])), (b2, .inl (k 0, 61, .inl f))] s.heap.size = A at hD hE ⊢
  have hA : ∀ q : Nat, s.heap.size ≤ q → A q := fun q h => by rw [← hAe]; exact Or.inr h
  have hS : va_S A s.heap s.heap [] := va_S.rf
  have hP : va_P (dC, dI) classes [(h0, .inr (2, [.ref b1, .ref b2, .int cn, .int nw, .int pt, .int kd])), (b2, .inl (k 0, 61, .inl f))] s.heap := hP
  have hl := lv_entry ([.ref h0]) (n := 1) (Nat.le_of_ble_eq_true rfl)
  rw [lg_entry_eq]
  generalize (lg_sl ([.ref h0]) ++ List.replicate (1 - (lg_sl ([.ref h0])).length) Slot.unset).toArray = ls at hl ⊢
  have hl : lv_has ls 1 [(0, .ref h0)] := hl
  refine lv_aload_n hx hb d_Ca_clear_0 rfl (lv_at hl 0 rfl) ?_
  refine va_get (D := (dC, dI)) (ci := 2) (v := .ref b2) (C := R_Ca) (T := F_Ca) (N := 6) hx hb htz i_Ca hown hK hP 0 rfl rfl 1 (by decide) (htz _ kf_Ca_15) (fun _ h9 => h9) rfl d_Ca_clear_1 ?_
  refine lv_iconst (v := -1) hx hb d_Ca_clear_4 (by decide) ?_
  have hPc := hP.sub (ws' := [(b2, .inl (k 0, 61, .inl f))]) [1] rfl
  have hDc := hD.sub (ws' := [(b2, .inl (k 0, 61, .inl f))]) [1] (by decide) rfl
  have hFc := va_free (wc := [(b2, .inl (k 0, 61, .inl f))]) hD hS hA [1] rfl
  refine va_callv (va_runS (As := [.ref b2, .int (-1)]) (rest := []) ⟨hx, hb, hml, hown, htz⟩ (c_Ar_fill l dC dI k s.heap.size b2 61 f (-1) (by decide)) (va_cwS 2 htz (z_gS (fun _ h => h) km_Ca_31 st_Ar_fill ini_Ar m_Ar_fill) rfl rfl rfl (by decide +kernel) ⟨(Nat.le_of_ble_eq_true rfl), (Nat.le_of_ble_eq_true rfl)⟩) ⟨z_blind, fun U hU hW => ⟨rfl, by rw [hU], hE.call hS hFc hU hW, by rw [hU]; exact hPc, va_K.moved hW.alike hK, hDc.weaken (fun _ _ _ _ => trivial)⟩⟩ rfl rfl hl.1 rfl (lv_room (Nat.le_of_ble_eq_true rfl)) d_Ca_clear_5 ⟨(Nat.le_of_ble_eq_true rfl), (Nat.le_of_ble_eq_true rfl)⟩) hS (fun q _ h => hFc q h) hFc (fun u t H1 locs ht hvm hw hB hz1 hk1 hS => ?_)
  obtain ⟨hP1, hK1, hD1⟩ := hB
  rw [ht] at hP1
  try dsimp only at hw
  obtain ⟨hP, hD⟩ := va_join (wr := [(h0, .inr (2, [.ref b1, .ref b2, .int cn, .int nw, .int pt, .int kd]))]) (w1 := [(b2, .inl (k 0, 61, .inl (z_fl (-1) f 61)))]) hP hD [1] [0] rfl rfl (by decide) (by decide) hk1 hFc hP1 hD1
  generalize H1 = H at hP hS ⊢
  have hP : va_P (dC, dI) classes [(h0, .inr (2, [.ref b1, .ref b2, .int cn, .int nw, .int pt, .int kd])), (b2, .inl (k 0, 61, .inl (z_fl (-1) f 61)))] H := hP
  have hD : va_D A [(h0, .inr (2, [.ref b1, .ref b2, .int cn, .int nw, .int pt, .int kd])), (b2, .inl (k 0, 61, .inl (z_fl (-1) f 61)))] := hD
  refine lv_aload_n hx hb d_Ca_clear_8 rfl (lv_at hl 0 rfl) ?_
  refine lv_iconst (v := 0) hx hb d_Ca_clear_9 (by decide) ?_
  refine va_put (D := (dC, dI)) (ci := 2) (v := .int 0) (ty := .int) (C := R_Ca) (T := F_Ca) (N := 6) hx hb htz i_Ca t_Ca o_Ca n_Ca hown hK hP hD hS 0 rfl rfl 2 (by decide) (htz _ kf_Ca_18) (fun _ h9 => h9) rfl (by decide +kernel) rfl rfl (Nat.le_of_ble_eq_true rfl) d_Ca_clear_10 (fun H locs hP hD hS => ?_)
  have hP : va_P (dC, dI) classes [(h0, .inr (2, [.ref b1, .ref b2, .int 0, .int nw, .int pt, .int kd])), (b2, .inl (k 0, 61, .inl (z_fl (-1) f 61)))] H := hP
  have hD : va_D A [(h0, .inr (2, [.ref b1, .ref b2, .int 0, .int nw, .int pt, .int kd])), (b2, .inl (k 0, 61, .inl (z_fl (-1) f 61)))] := hD
  refine lv_aload_n hx hb d_Ca_clear_13 rfl (lv_at hl 0 rfl) ?_
  refine lv_iconst (v := 0) hx hb d_Ca_clear_14 (by decide) ?_
  refine va_put (D := (dC, dI)) (ci := 2) (v := .int 0) (ty := .int) (C := R_Ca) (T := F_Ca) (N := 6) hx hb htz i_Ca t_Ca o_Ca n_Ca hown hK hP hD hS 0 rfl rfl 3 (by decide) (htz _ kf_Ca_22) (fun _ h9 => h9) rfl (by decide +kernel) rfl rfl (Nat.le_of_ble_eq_true rfl) d_Ca_clear_15 (fun H locs hP hD hS => ?_)
  have hP : va_P (dC, dI) classes [(h0, .inr (2, [.ref b1, .ref b2, .int 0, .int 0, .int pt, .int kd])), (b2, .inl (k 0, 61, .inl (z_fl (-1) f 61)))] H := hP
  have hD : va_D A [(h0, .inr (2, [.ref b1, .ref b2, .int 0, .int 0, .int pt, .int kd])), (b2, .inl (k 0, 61, .inl (z_fl (-1) f 61)))] := hD
  refine lv_aload_n hx hb d_Ca_clear_18 rfl (lv_at hl 0 rfl) ?_
  refine lv_iconst (v := 0) hx hb d_Ca_clear_19 (by decide) ?_
  refine va_put (D := (dC, dI)) (ci := 2) (v := .int 0) (ty := .int) (C := R_Ca) (T := F_Ca) (N := 6) hx hb htz i_Ca t_Ca o_Ca n_Ca hown hK hP hD hS 0 rfl rfl 4 (by decide) (htz _ kf_Ca_25) (fun _ h9 => h9) rfl (by decide +kernel) rfl rfl (Nat.le_of_ble_eq_true rfl) d_Ca_clear_20 (fun H locs hP hD hS => ?_)
  have hP : va_P (dC, dI) classes [(h0, .inr (2, [.ref b1, .ref b2, .int 0, .int 0, .int 0, .int kd])), (b2, .inl (k 0, 61, .inl (z_fl (-1) f 61)))] H := hP
  have hD : va_D A [(h0, .inr (2, [.ref b1, .ref b2, .int 0, .int 0, .int 0, .int kd])), (b2, .inl (k 0, 61, .inl (z_fl (-1) f 61)))] := hD
  refine lv_aload_n hx hb d_Ca_clear_23 rfl (lv_at hl 0 rfl) ?_
  refine lv_iconst (v := 0) hx hb d_Ca_clear_24 (by decide) ?_
  refine va_put (D := (dC, dI)) (ci := 2) (v := .int 0) (ty := .int) (C := R_Ca) (T := F_Ca) (N := 6) hx hb htz i_Ca t_Ca o_Ca n_Ca hown hK hP hD hS 0 rfl rfl 5 (by decide) (htz _ kf_Ca_28) (fun _ h9 => h9) rfl (by decide +kernel) rfl rfl (Nat.le_of_ble_eq_true rfl) d_Ca_clear_25 (fun H locs hP hD hS => ?_)
  have hP : va_P (dC, dI) classes [(h0, .inr (2, [.ref b1, .ref b2, .int 0, .int 0, .int 0, .int 0])), (b2, .inl (k 0, 61, .inl (z_fl (-1) f 61)))] H := hP
  have hD : va_D A [(h0, .inr (2, [.ref b1, .ref b2, .int 0, .int 0, .int 0, .int 0])), (b2, .inl (k 0, 61, .inl (z_fl (-1) f 61)))] := hD
  have hP9 := hP.sub (ws' := [(h0, .inr (2, [.ref b1, .ref b2, .int 0, .int 0, .int 0, .int 0])), (b2, .inl (k 0, 61, .inl (z_fl (-1) f 61)))]) [0, 1] rfl
  have hD9 := hD.sub (ws' := [(h0, .inr (2, [.ref b1, .ref b2, .int 0, .int 0, .int 0, .int 0])), (b2, .inl (k 0, 61, .inl (z_fl (-1) f 61)))]) [0, 1] (by decide) rfl
  exact W.vret hx hb hr (fun t ht hW => ⟨⟨(), rfl, trivial, by rw [ht]; exact hP9, va_K.moved hW.alike hK, hD9⟩, hS.F ht⟩) hS.2.2 d_Ca_clear_28
set_option maxHeartbeats 1000000 in
set_option maxRecDepth 100000 in
theorem c_Q_hasMember (l : Launch) (dC : Nat → ClassId) (dI : Nat → Nat → Nat) (k : Nat → ClassId) (sz : Nat) (set : Int64) (nb : Int32) : Met l y_Q_hasMember (Cond.code y_Q_hasMember b_Q_hasMember 3 (some .boolean) :: z_T) (z_rm 0 0 0) (z_Pc dC dI k sz [.long set, .int nb] []) (va_Qi (fun (r : Int32) (u : Unit) => r = z_hm set nb) (fun (u : Unit) t => z_B dC dI k (va_A [] sz) [] t) (va_A [] sz)) 0 0 (va_A [] sz) := by
  refine Met.ofW (cc := b_Q_hasMember) (maxL := 3) (ret := (some .boolean)) (by decide) rfl ?_
  intro p e s m args below meth c s₁ B hml hv
  obtain ⟨rfl, hsz, hE, hP, hK, hD0⟩ := hv
  have hx := B.exec
  have hb := B.bytes
  have hr := B.returns
  have hts := atoms_spec (ws := Cond.code y_Q_hasMember b_Q_hasMember 3 (some .boolean) :: z_T) B.pre
  have htz : ∀ w ∈ z_T, w.before _ s = true := fun w h => hts w (z_cons w h)
  have hown : s.vm.findClass "QuestionText" = some m.cls := findClass_of_methodNamed B.named
  have hlocks := B.notSynchronized
  subst hsz
  have hD := hD0.self (sz := s.heap.size)
  generalize hAe : va_A [] s.heap.size = A at hD hE ⊢
  have hA : ∀ q : Nat, s.heap.size ≤ q → A q := fun q h => by rw [← hAe]; exact Or.inr h
  have hS : va_S A s.heap s.heap [] := va_S.rf
  have hP : va_P (dC, dI) classes [] s.heap := hP
  have hl := lv_entry ([.long set, .int nb]) (n := 3) (Nat.le_of_ble_eq_true rfl)
  rw [lg_entry_eq]
  generalize (lg_sl ([.long set, .int nb]) ++ List.replicate (3 - (lg_sl ([.long set, .int nb])).length) Slot.unset).toArray = ls at hl ⊢
  have hl : lv_has ls 3 [(0, .long set), (2, .int nb)] := hl
  refine lv_lload_n hx hb d_Q_hasMember_0 rfl (lv_at hl 0 rfl) ?_
  refine lv_iload_n hx hb d_Q_hasMember_1 rfl (lv_at hl 1 rfl) ?_
  refine lv_lushr (v := (set.toUInt64 >>> (nb.toInt64.toUInt64 &&& Int64.toUInt64 63)).toInt64) hx hb d_Q_hasMember_2 rfl ?_
  refine lv_lconst (v := 1) hx hb d_Q_hasMember_3 (by decide) ?_
  refine lv_land hx hb d_Q_hasMember_4 ?_
  refine lv_lconst (v := 0) hx hb d_Q_hasMember_5 (by decide) ?_
  refine W.lcmp hx hb d_Q_hasMember_6 ?_
  refine lv_if_eq (tgt := 14) hx hb d_Q_hasMember_7 (by decide) (fun c_7 => ?_) (fun c_7 => ?_)
  · refine lv_iconst (v := 0) hx hb d_Q_hasMember_14 (by decide) ?_
    have hP9 := hP.sub (ws' := []) [] rfl
    have hD9 := hD.sub (ws' := []) [] (by decide) rfl
    exact W.zret (v := 0) (ty := .boolean) hx hb hr rfl (fun t ht hW => ⟨⟨0, (), rfl, by unfold z_hm; rw [if_pos ((lg_cmp_eq _ _).mp c_7)], by rw [ht]; exact hP9, va_K.moved hW.alike hK, hD9⟩, hS.F ht⟩) hS.2.2 d_Q_hasMember_15
  · refine lv_iconst (v := 1) hx hb d_Q_hasMember_10 (by decide) ?_
    refine lv_goto (tgt := 15) hx hb d_Q_hasMember_11 (by decide) ?_
    have hP9 := hP.sub (ws' := []) [] rfl
    have hD9 := hD.sub (ws' := []) [] (by decide) rfl
    exact W.zret (v := 1) (ty := .boolean) hx hb hr rfl (fun t ht hW => ⟨⟨1, (), rfl, by unfold z_hm; rw [if_neg (fun h9 => c_7 ((lg_cmp_eq _ _).mpr h9))], by rw [ht]; exact hP9, va_K.moved hW.alike hK, hD9⟩, hS.F ht⟩) hS.2.2 d_Q_hasMember_15
set_option maxHeartbeats 1000000 in
set_option maxRecDepth 100000 in
theorem c_Ed_questionAt (l : Launch) (dC : Nat → ClassId) (dI : Nat → Nat → Nat) (k : Nat → ClassId) (sz : Nat) (h0 : Nat) (e1 : Nat) (e2 : Nat) (sz1 : Int32) (l1 : Int64) (l2 : Int64) (l3 : Int64) (g1 : Nat → Option Nat) (g2 : Nat → Option Nat) (x : Int32) : Met l y_Ed_questionAt (Cond.code y_Ed_questionAt b_Ed_questionAt 2 (some (.object "QuestionText$Question")) :: z_T) (z_rm 0 0 0) (z_Pc dC dI k sz [.ref h0, .int x] [(h0, .inr (3, [.ref e1, .ref e2, .int sz1, .long l1, .long l2, .long l3])), (e1, .inl (k 3, 61, .inr (.inr (.inr (.inr g1))))), (e2, .inl (k 4, 10, .inr (.inr (.inr (.inr g2)))))]) (va_Qq (fun (r : Option Nat) (u : Unit) => r = z_rd g1 60 x) (fun (u : Unit) t => z_B dC dI k (va_A [(h0, .inr (3, [.ref e1, .ref e2, .int sz1, .long l1, .long l2, .long l3])), (e1, .inl (k 3, 61, .inr (.inr (.inr (.inr g1))))), (e2, .inl (k 4, 10, .inr (.inr (.inr (.inr g2)))))] sz) [(h0, .inr (3, [.ref e1, .ref e2, .int sz1, .long l1, .long l2, .long l3])), (e1, .inl (k 3, 61, .inr (.inr (.inr (.inr g1))))), (e2, .inl (k 4, 10, .inr (.inr (.inr (.inr g2)))))] t) (va_A [(h0, .inr (3, [.ref e1, .ref e2, .int sz1, .long l1, .long l2, .long l3])), (e1, .inl (k 3, 61, .inr (.inr (.inr (.inr g1))))), (e2, .inl (k 4, 10, .inr (.inr (.inr (.inr g2)))))] sz)) 0 0 (va_A [(h0, .inr (3, [.ref e1, .ref e2, .int sz1, .long l1, .long l2, .long l3])), (e1, .inl (k 3, 61, .inr (.inr (.inr (.inr g1))))), (e2, .inl (k 4, 10, .inr (.inr (.inr (.inr g2)))))] sz) := by
  refine Met.ofW (cc := b_Ed_questionAt) (maxL := 2) (ret := (some (.object "QuestionText$Question"))) (by decide) rfl ?_
  intro p e s m args below meth c s₁ B hml hv
  obtain ⟨rfl, hsz, hE, hP, hK, hD0⟩ := hv
  have hx := B.exec
  have hb := B.bytes
  have hr := B.returns
  have hts := atoms_spec (ws := Cond.code y_Ed_questionAt b_Ed_questionAt 2 (some (.object "QuestionText$Question")) :: z_T) B.pre
  have htz : ∀ w ∈ z_T, w.before _ s = true := fun w h => hts w (z_cons w h)
  have hown : s.vm.findClass "QuestionText$Edition" = some m.cls := findClass_of_methodNamed B.named
  have hlocks := B.notSynchronized
  subst hsz
  have hD := hD0.self (sz := s.heap.size)
  generalize hAe : va_A [(h0, .inr (3, [.ref e1, .ref e2, .int sz1, .long l1, .long l2, .long l3])), (e1, .inl (k 3, 61, .inr (.inr (.inr (.inr g1))))), (e2, .inl (k 4, 10, .inr (.inr (.inr (.inr g2)))))] s.heap.size = A at hD hE ⊢
  have hA : ∀ q : Nat, s.heap.size ≤ q → A q := fun q h => by rw [← hAe]; exact Or.inr h
  have hS : va_S A s.heap s.heap [] := va_S.rf
  have hP : va_P (dC, dI) classes [(h0, .inr (3, [.ref e1, .ref e2, .int sz1, .long l1, .long l2, .long l3])), (e1, .inl (k 3, 61, .inr (.inr (.inr (.inr g1))))), (e2, .inl (k 4, 10, .inr (.inr (.inr (.inr g2)))))] s.heap := hP
  have hl := lv_entry ([.ref h0, .int x]) (n := 2) (Nat.le_of_ble_eq_true rfl)
  rw [lg_entry_eq]
  generalize (lg_sl ([.ref h0, .int x]) ++ List.replicate (2 - (lg_sl ([.ref h0, .int x])).length) Slot.unset).toArray = ls at hl ⊢
  have hl : lv_has ls 2 [(0, .ref h0), (1, .int x)] := hl
  refine lv_iload_n hx hb d_Ed_questionAt_0 rfl (lv_at hl 1 rfl) ?_
  refine lv_iconst (v := 1) hx hb d_Ed_questionAt_1 (by decide) ?_
  refine lv_icmp_lt (tgt := 11) hx hb d_Ed_questionAt_2 (by decide) (fun c_2 => ?_) (fun c_2 => ?_)
  · refine lv_null hx hb d_Ed_questionAt_11 ?_
    refine lv_goto (tgt := 21) hx hb d_Ed_questionAt_12 (by decide) ?_
    have hP9 := hP.sub (ws' := [(h0, .inr (3, [.ref e1, .ref e2, .int sz1, .long l1, .long l2, .long l3])), (e1, .inl (k 3, 61, .inr (.inr (.inr (.inr g1))))), (e2, .inl (k 4, 10, .inr (.inr (.inr (.inr g2)))))]) [0, 1, 2] rfl
    have hD9 := hD.sub (ws' := [(h0, .inr (3, [.ref e1, .ref e2, .int sz1, .long l1, .long l2, .long l3])), (e1, .inl (k 3, 61, .inr (.inr (.inr (.inr g1))))), (e2, .inl (k 4, 10, .inr (.inr (.inr (.inr g2)))))]) [0, 1, 2] (by decide) rfl
    exact W.aret (v := .null) hx hb hr (Or.inl ⟨_, rfl⟩) (Or.inl rfl) (fun t ht hW => ⟨⟨none, (), rfl, by unfold z_rd; rw [if_pos c_2], by rw [ht]; exact hP9, va_K.moved hW.alike hK, hD9⟩, hS.F ht⟩) hS.2.2 d_Ed_questionAt_21
  · refine lv_iload_n hx hb d_Ed_questionAt_5 rfl (lv_at hl 1 rfl) ?_
    refine lv_bipush (v := 60) hx hb d_Ed_questionAt_6 (by decide) ?_
    refine lv_icmp_le (tgt := 15) hx hb d_Ed_questionAt_8 (by decide) (fun c_8 => ?_) (fun c_8 => ?_)
    · refine lv_aload_n hx hb d_Ed_questionAt_15 rfl (lv_at hl 0 rfl) ?_
      refine va_get (D := (dC, dI)) (ci := 3) (v := .ref e1) (C := R_Ed) (T := F_Ed) (N := 6) hx hb htz i_Ed hown hK hP 0 rfl rfl 0 (by decide) (htz _ kf_Ed_11) (fun _ h9 => h9) rfl d_Ed_questionAt_16 ?_
      refine lv_iload_n hx hb d_Ed_questionAt_19 rfl (lv_at hl 1 rfl) ?_
      refine va_aldq hx hb hK hP 1 3 rfl rfl (z_rd_in (hi := 60) (by decide) c_2 c_8) d_Ed_questionAt_20 ?_
      have hP9 := hP.sub (ws' := [(h0, .inr (3, [.ref e1, .ref e2, .int sz1, .long l1, .long l2, .long l3])), (e1, .inl (k 3, 61, .inr (.inr (.inr (.inr g1))))), (e2, .inl (k 4, 10, .inr (.inr (.inr (.inr g2)))))]) [0, 1, 2] rfl
      have hD9 := hD.sub (ws' := [(h0, .inr (3, [.ref e1, .ref e2, .int sz1, .long l1, .long l2, .long l3])), (e1, .inl (k 3, 61, .inr (.inr (.inr (.inr g1))))), (e2, .inl (k 4, 10, .inr (.inr (.inr (.inr g2)))))]) [0, 1, 2] (by decide) rfl
      exact W.aret (v := va_rf (g1 x.toNatClampNeg)) hx hb hr (Or.inl ⟨_, rfl⟩) (by cases (g1 x.toNatClampNeg) <;> simp [va_rf]) (fun t ht hW => ⟨⟨g1 x.toNatClampNeg, (), rfl, by unfold z_rd; rw [if_neg c_2, if_pos c_8], by rw [ht]; exact hP9, va_K.moved hW.alike hK, hD9⟩, hS.F ht⟩) hS.2.2 d_Ed_questionAt_21
    · refine lv_null hx hb d_Ed_questionAt_11 ?_
      refine lv_goto (tgt := 21) hx hb d_Ed_questionAt_12 (by decide) ?_
      have hP9 := hP.sub (ws' := [(h0, .inr (3, [.ref e1, .ref e2, .int sz1, .long l1, .long l2, .long l3])), (e1, .inl (k 3, 61, .inr (.inr (.inr (.inr g1))))), (e2, .inl (k 4, 10, .inr (.inr (.inr (.inr g2)))))]) [0, 1, 2] rfl
      have hD9 := hD.sub (ws' := [(h0, .inr (3, [.ref e1, .ref e2, .int sz1, .long l1, .long l2, .long l3])), (e1, .inl (k 3, 61, .inr (.inr (.inr (.inr g1))))), (e2, .inl (k 4, 10, .inr (.inr (.inr (.inr g2)))))]) [0, 1, 2] (by decide) rfl
      exact W.aret (v := .null) hx hb hr (Or.inl ⟨_, rfl⟩) (Or.inl rfl) (fun t ht hW => ⟨⟨none, (), rfl, by unfold z_rd; rw [if_neg c_2, if_neg c_8], by rw [ht]; exact hP9, va_K.moved hW.alike hK, hD9⟩, hS.F ht⟩) hS.2.2 d_Ed_questionAt_21
set_option maxHeartbeats 1000000 in
set_option maxRecDepth 100000 in
theorem c_Ed_kindAt (l : Launch) (dC : Nat → ClassId) (dI : Nat → Nat → Nat) (k : Nat → ClassId) (sz : Nat) (h0 : Nat) (e1 : Nat) (e2 : Nat) (sz1 : Int32) (l1 : Int64) (l2 : Int64) (l3 : Int64) (g1 : Nat → Option Nat) (g2 : Nat → Option Nat) (x : Int32) : Met l y_Ed_kindAt (Cond.code y_Ed_kindAt b_Ed_kindAt 2 (some (.object "QuestionText$Kind")) :: z_T) (z_rm 0 0 0) (z_Pc dC dI k sz [.ref h0, .int x] [(h0, .inr (3, [.ref e1, .ref e2, .int sz1, .long l1, .long l2, .long l3])), (e1, .inl (k 3, 61, .inr (.inr (.inr (.inr g1))))), (e2, .inl (k 4, 10, .inr (.inr (.inr (.inr g2)))))]) (va_Qq (fun (r : Option Nat) (u : Unit) => r = z_rd g2 9 x) (fun (u : Unit) t => z_B dC dI k (va_A [(h0, .inr (3, [.ref e1, .ref e2, .int sz1, .long l1, .long l2, .long l3])), (e1, .inl (k 3, 61, .inr (.inr (.inr (.inr g1))))), (e2, .inl (k 4, 10, .inr (.inr (.inr (.inr g2)))))] sz) [(h0, .inr (3, [.ref e1, .ref e2, .int sz1, .long l1, .long l2, .long l3])), (e1, .inl (k 3, 61, .inr (.inr (.inr (.inr g1))))), (e2, .inl (k 4, 10, .inr (.inr (.inr (.inr g2)))))] t) (va_A [(h0, .inr (3, [.ref e1, .ref e2, .int sz1, .long l1, .long l2, .long l3])), (e1, .inl (k 3, 61, .inr (.inr (.inr (.inr g1))))), (e2, .inl (k 4, 10, .inr (.inr (.inr (.inr g2)))))] sz)) 0 0 (va_A [(h0, .inr (3, [.ref e1, .ref e2, .int sz1, .long l1, .long l2, .long l3])), (e1, .inl (k 3, 61, .inr (.inr (.inr (.inr g1))))), (e2, .inl (k 4, 10, .inr (.inr (.inr (.inr g2)))))] sz) := by
  refine Met.ofW (cc := b_Ed_kindAt) (maxL := 2) (ret := (some (.object "QuestionText$Kind"))) (by decide) rfl ?_
  intro p e s m args below meth c s₁ B hml hv
  obtain ⟨rfl, hsz, hE, hP, hK, hD0⟩ := hv
  have hx := B.exec
  have hb := B.bytes
  have hr := B.returns
  have hts := atoms_spec (ws := Cond.code y_Ed_kindAt b_Ed_kindAt 2 (some (.object "QuestionText$Kind")) :: z_T) B.pre
  have htz : ∀ w ∈ z_T, w.before _ s = true := fun w h => hts w (z_cons w h)
  have hown : s.vm.findClass "QuestionText$Edition" = some m.cls := findClass_of_methodNamed B.named
  have hlocks := B.notSynchronized
  subst hsz
  have hD := hD0.self (sz := s.heap.size)
  generalize hAe : va_A [(h0, .inr (3, [.ref e1, .ref e2, .int sz1, .long l1, .long l2, .long l3])), (e1, .inl (k 3, 61, .inr (.inr (.inr (.inr g1))))), (e2, .inl (k 4, 10, .inr (.inr (.inr (.inr g2)))))] s.heap.size = A at hD hE ⊢
  have hA : ∀ q : Nat, s.heap.size ≤ q → A q := fun q h => by rw [← hAe]; exact Or.inr h
  have hS : va_S A s.heap s.heap [] := va_S.rf
  have hP : va_P (dC, dI) classes [(h0, .inr (3, [.ref e1, .ref e2, .int sz1, .long l1, .long l2, .long l3])), (e1, .inl (k 3, 61, .inr (.inr (.inr (.inr g1))))), (e2, .inl (k 4, 10, .inr (.inr (.inr (.inr g2)))))] s.heap := hP
  have hl := lv_entry ([.ref h0, .int x]) (n := 2) (Nat.le_of_ble_eq_true rfl)
  rw [lg_entry_eq]
  generalize (lg_sl ([.ref h0, .int x]) ++ List.replicate (2 - (lg_sl ([.ref h0, .int x])).length) Slot.unset).toArray = ls at hl ⊢
  have hl : lv_has ls 2 [(0, .ref h0), (1, .int x)] := hl
  refine lv_iload_n hx hb d_Ed_kindAt_0 rfl (lv_at hl 1 rfl) ?_
  refine lv_iconst (v := 1) hx hb d_Ed_kindAt_1 (by decide) ?_
  refine lv_icmp_lt (tgt := 11) hx hb d_Ed_kindAt_2 (by decide) (fun c_2 => ?_) (fun c_2 => ?_)
  · refine lv_null hx hb d_Ed_kindAt_11 ?_
    refine lv_goto (tgt := 21) hx hb d_Ed_kindAt_12 (by decide) ?_
    have hP9 := hP.sub (ws' := [(h0, .inr (3, [.ref e1, .ref e2, .int sz1, .long l1, .long l2, .long l3])), (e1, .inl (k 3, 61, .inr (.inr (.inr (.inr g1))))), (e2, .inl (k 4, 10, .inr (.inr (.inr (.inr g2)))))]) [0, 1, 2] rfl
    have hD9 := hD.sub (ws' := [(h0, .inr (3, [.ref e1, .ref e2, .int sz1, .long l1, .long l2, .long l3])), (e1, .inl (k 3, 61, .inr (.inr (.inr (.inr g1))))), (e2, .inl (k 4, 10, .inr (.inr (.inr (.inr g2)))))]) [0, 1, 2] (by decide) rfl
    exact W.aret (v := .null) hx hb hr (Or.inl ⟨_, rfl⟩) (Or.inl rfl) (fun t ht hW => ⟨⟨none, (), rfl, by unfold z_rd; rw [if_pos c_2], by rw [ht]; exact hP9, va_K.moved hW.alike hK, hD9⟩, hS.F ht⟩) hS.2.2 d_Ed_kindAt_21
  · refine lv_iload_n hx hb d_Ed_kindAt_5 rfl (lv_at hl 1 rfl) ?_
    refine lv_bipush (v := 9) hx hb d_Ed_kindAt_6 (by decide) ?_
    refine lv_icmp_le (tgt := 15) hx hb d_Ed_kindAt_8 (by decide) (fun c_8 => ?_) (fun c_8 => ?_)
    · refine lv_aload_n hx hb d_Ed_kindAt_15 rfl (lv_at hl 0 rfl) ?_
      refine va_get (D := (dC, dI)) (ci := 3) (v := .ref e2) (C := R_Ed) (T := F_Ed) (N := 6) hx hb htz i_Ed hown hK hP 0 rfl rfl 1 (by decide) (htz _ kf_Ed_19) (fun _ h9 => h9) rfl d_Ed_kindAt_16 ?_
      refine lv_iload_n hx hb d_Ed_kindAt_19 rfl (lv_at hl 1 rfl) ?_
      refine va_aldq hx hb hK hP 2 4 rfl rfl (z_rd_in (hi := 9) (by decide) c_2 c_8) d_Ed_kindAt_20 ?_
      have hP9 := hP.sub (ws' := [(h0, .inr (3, [.ref e1, .ref e2, .int sz1, .long l1, .long l2, .long l3])), (e1, .inl (k 3, 61, .inr (.inr (.inr (.inr g1))))), (e2, .inl (k 4, 10, .inr (.inr (.inr (.inr g2)))))]) [0, 1, 2] rfl
      have hD9 := hD.sub (ws' := [(h0, .inr (3, [.ref e1, .ref e2, .int sz1, .long l1, .long l2, .long l3])), (e1, .inl (k 3, 61, .inr (.inr (.inr (.inr g1))))), (e2, .inl (k 4, 10, .inr (.inr (.inr (.inr g2)))))]) [0, 1, 2] (by decide) rfl
      exact W.aret (v := va_rf (g2 x.toNatClampNeg)) hx hb hr (Or.inl ⟨_, rfl⟩) (by cases (g2 x.toNatClampNeg) <;> simp [va_rf]) (fun t ht hW => ⟨⟨g2 x.toNatClampNeg, (), rfl, by unfold z_rd; rw [if_neg c_2, if_pos c_8], by rw [ht]; exact hP9, va_K.moved hW.alike hK, hD9⟩, hS.F ht⟩) hS.2.2 d_Ed_kindAt_21
    · refine lv_null hx hb d_Ed_kindAt_11 ?_
      refine lv_goto (tgt := 21) hx hb d_Ed_kindAt_12 (by decide) ?_
      have hP9 := hP.sub (ws' := [(h0, .inr (3, [.ref e1, .ref e2, .int sz1, .long l1, .long l2, .long l3])), (e1, .inl (k 3, 61, .inr (.inr (.inr (.inr g1))))), (e2, .inl (k 4, 10, .inr (.inr (.inr (.inr g2)))))]) [0, 1, 2] rfl
      have hD9 := hD.sub (ws' := [(h0, .inr (3, [.ref e1, .ref e2, .int sz1, .long l1, .long l2, .long l3])), (e1, .inl (k 3, 61, .inr (.inr (.inr (.inr g1))))), (e2, .inl (k 4, 10, .inr (.inr (.inr (.inr g2)))))]) [0, 1, 2] (by decide) rfl
      exact W.aret (v := .null) hx hb hr (Or.inl ⟨_, rfl⟩) (Or.inl rfl) (fun t ht hW => ⟨⟨none, (), rfl, by unfold z_rd; rw [if_neg c_2, if_neg c_8], by rw [ht]; exact hP9, va_K.moved hW.alike hK, hD9⟩, hS.F ht⟩) hS.2.2 d_Ed_kindAt_21
