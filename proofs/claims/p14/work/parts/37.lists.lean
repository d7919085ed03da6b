-- lists: an ArrayList q with the elements xs lies in the cells w
def isAL (k : Nat → ClassId) (q : Nat) (xs : List Nat) (w : va_W) : Prop := (xs = [] ∧ ∃ m : Int32, w = [(q, .inr (11, [.int m, .ref (k 7), .int 0]))]) ∨ (xs ≠ [] ∧ xs.length ≤ 10 ∧ ∃ (m : Int32) (e : Nat) (f : Nat → Option Nat), w = [(q, .inr (11, [.int m, .ref e, .int (nI xs.length)])), (e, .inl (k 6, 10, .inr (.inr (.inr (.inr f)))))] ∧ ∀ (i : Nat) (h : i < xs.length), f i = some xs[i])
theorem d_AC (T : ST) (q : Nat) (Post : va_W → Prop) (hq : Post [(q, .inr (11, [.int 0, .null, .int 0]))]) : uV T y_AC_init (Cond.code y_AC_init b_AC_init 1 none) 0 0 0 [.ref q] [(q, .inr (11, [.int 0, .null, .int 0]))] Post := by
  refine e_AC_init T Post q ?_
  rintro C rfl X
  exact k_AC_init_0 X Post q 0 0 ⟨by decide, by decide⟩ hq
theorem d_AB (T : ST) (q : Nat) (Post : va_W → Prop) (hq : Post [(q, .inr (11, [.int 0, .null, .int 0]))]) : uV T y_AB_init (Cond.code y_AB_init b_AB_init 1 none) 1 0 0 [.ref q] [(q, .inr (11, [.int 0, .null, .int 0]))] Post := by
  refine e_AB_init T Post q ?_
  rintro C rfl X
  refine k_AB_init_0 X Post (P_1 := fun u => u = [(q, .inr (11, [.int 0, .null, .int 0]))]) q 0 0 ⟨by decide, by decide⟩ (d_AC _ q _ rfl) ?_
  rintro u rfl
  exact k_AB_init_4 X Post q 0 0 ⟨by decide, by decide⟩ hq
theorem d_ALinit (T : ST) (q : Nat) (Post : va_W → Prop) (hq : Post [(q, .inr (11, [.int 0, .ref (T.2.2.2.1 7), .int 0]))]) : uV T y_AL_init (Cond.code y_AL_init b_AL_init 1 none) 2 0 0 [.ref q] [(q, .inr (11, [.int 0, .null, .int 0]))] Post := by
  refine e_AL_init T Post q ?_
  rintro C rfl X
  refine k_AL_init_0 X Post (P_1 := fun u => u = [(q, .inr (11, [.int 0, .null, .int 0]))]) q 0 0 ⟨by decide, by decide⟩ (d_AB _ q _ rfl) ?_
  rintro u rfl
  exact k_AL_init_4 X Post q 0 0 ⟨by decide, by decide⟩ hq
theorem d_grow1 (T : ST) (h0 : Nat) (mc0 x1 : Int32) (P : va_W) (hx : x1 = 1) (Post : Option Nat → va_W → Prop) (hq : ∀ e : Nat, Post (some e) ([(e, .inl (T.2.2.2.1 6, 10, .inr (.inr (.inr (.inr (fun _ => none)))))), (h0, .inr (11, [.int mc0, .ref e, .int 0]))] ++ P)) : uR T y_AL_grow1 (Cond.code y_AL_grow1 b_AL_grow1 4 (some (.array (.object "java/lang/Object")))) 1 1 10 [.ref h0, .int x1] ([(h0, .inr (11, [.int mc0, .ref (T.2.2.2.1 7), .int 0]))] ++ P) Post := by
  refine e_AL_grow1 T Post x1 P h0 mc0 ?_
  rintro C rfl X
  subst hx
  refine k_AL_grow1_0 X Post 1 P h0 mc0 0 0 ⟨by decide, by decide⟩ ?_
  rw [show ((if (10 : Int32) < 1 then 1 else 10) : Int32) = 10 by decide +kernel]
  exact k_AL_grow1_52 X Post 1 0 P h0 mc0 0 0 ⟨by decide, by decide⟩ (fun _ => ⟨by decide, by decide⟩) hq
theorem d_grow (T : ST) (h0 : Nat) (mc0 : Int32) (P : va_W) (Post : Option Nat → va_W → Prop) (hq : ∀ e : Nat, Post (some e) ([(e, .inl (T.2.2.2.1 6, 10, .inr (.inr (.inr (.inr (fun _ => none)))))), (h0, .inr (11, [.int mc0, .ref e, .int 0]))] ++ P)) : uR T y_AL_grow (Cond.code y_AL_grow b_AL_grow 1 (some (.array (.object "java/lang/Object")))) 2 1 10 [.ref h0] ([(h0, .inr (11, [.int mc0, .ref (T.2.2.2.1 7), .int 0]))] ++ P) Post := by
  refine e_AL_grow T Post P h0 mc0 ?_
  rintro C rfl X
  refine k_AL_grow_0 X Post (P_7 := fun r u => ∃ e, r = some e ∧ u = [(e, .inl (C.1.2.2.2.1 6, 10, .inr (.inr (.inr (.inr (fun _ => none)))))), (h0, .inr (11, [.int mc0, .ref e, .int 0]))] ++ P) P h0 mc0 0 0 ⟨by decide, by decide⟩ ?_ ?_
  · exact d_grow1 _ h0 mc0 _ P (by decide +kernel) _ (fun e => ⟨e, rfl, rfl⟩)
  rintro r u ⟨e, rfl, rfl⟩
  exact k_AL_grow_10 X Post e _ h0 mc0 _ _ ⟨by decide, by decide⟩ (hq e)

theorem d_add3_J0 (T : ST) (h0 x1 i1 : Nat) (mc0 : Int32) (vs : List Value) (P : va_W) (hf : P[i1]? = some (x1, .inr (8, vs))) (Post : va_W → Prop) (hq : ∀ e : Nat, Post ([(e, .inl (T.2.2.2.1 6, 10, .inr (.inr (.inr (.inr (va_up (fun _ => none) (0 : Int32).toNatClampNeg (some x1))))))), (h0, .inr (11, [.int mc0, .ref e, .int (0 + 1)]))] ++ P)) : uV T y_AL_add3 (Cond.code y_AL_add3 b_AL_add3 4 none) 3 1 10 [.ref h0, .ref x1, .ref (T.2.2.2.1 7), .int 0] ([(h0, .inr (11, [.int mc0, .ref (T.2.2.2.1 7), .int 0]))] ++ P) Post := by
  refine e_AL_add3_J0 T Post x1 P h0 mc0 vs 0 ?_
  rintro C rfl X
  refine k_AL_add3_J0_0 X Post (P_7 := fun r u => ∃ e, r = some e ∧ u = [(e, .inl (C.1.2.2.2.1 6, 10, .inr (.inr (.inr (.inr (fun _ => none)))))), (h0, .inr (11, [.int mc0, .ref e, .int 0]))] ++ P) x1 P h0 mc0 vs 0 i1 0 0 hf ⟨by decide, by decide⟩ ?_ ?_
  · exact d_grow _ h0 mc0 P _ (fun e => ⟨e, rfl, rfl⟩)
  rintro r u ⟨e, rfl, rfl⟩
  exact k_AL_add3_J0_10 X Post x1 P h0 mc0 vs e i1 _ _ hf (by unfold vp_in; decide) ⟨by decide, by decide⟩ (hq e)
theorem d_add3_J1 (T : ST) (h0 x1 i1 e0 sz : Nat) (mc0 : Int32) (fa : Nat → Option Nat) (vs : List Value) (P : va_W) (hf : P[i1]? = some (x1, .inr (8, vs))) (hsz : sz < 10) (Post : va_W → Prop) (hq : Post ([(h0, .inr (11, [.int mc0, .ref e0, .int (nI sz + 1)])), (e0, .inl (T.2.2.2.1 6, 10, .inr (.inr (.inr (.inr (va_up fa (nI sz : Int32).toNatClampNeg (some x1)))))))] ++ P)) : uV T y_AL_add3 (Cond.code y_AL_add3 b_AL_add3 4 none) 3 1 10 [.ref h0, .ref x1, .ref e0, .int (nI sz)] ([(h0, .inr (11, [.int mc0, .ref e0, .int (nI sz)])), (e0, .inl (T.2.2.2.1 6, 10, .inr (.inr (.inr (.inr fa)))))] ++ P) Post := by
  refine e_AL_add3_J1 T Post x1 P h0 mc0 vs e0 sz fa ?_
  rintro C rfl X
  have hne : ¬ nI sz = nI 10 := fun z => absurd ((nI_eq (by omega) (by decide)).mp z) (by omega)
  exact k_AL_add3_J1_0 X Post x1 P h0 mc0 vs e0 sz fa i1 0 0 hf (fun _ => vi_n hsz (by decide)) (fun _ => ⟨by decide, by decide⟩) (fun _ => hq) (fun z => hne z)
theorem d_add_J (T : ST) (q x : Nat) (xs : List Nat) (vs : List Value) (w P : va_W) (hx : (x, (.inr (8, vs) : va_E)) ∈ P) (hal : isAL T.2.2.2.1 q xs w) (hlen : xs.length < 10) : uI T y_AL_add (Cond.code y_AL_add b_AL_add 2 (some .boolean)) 4 1 10 [.ref q, .ref x] (w ++ P) (fun _ u => ∃ w', u.Perm (w' ++ P) ∧ isAL T.2.2.2.1 q (xs ++ [x]) w') := by
  obtain ⟨i1, hf⟩ := List.getElem?_of_mem hx
  rcases hal with ⟨hxs, mc0, rfl⟩ | ⟨hxs, hl, mc0, e0, fa, rfl, hfa⟩
  · refine e_AL_add_J0 T _ x P q mc0 vs ?_
    rintro C rfl X
    refine k_AL_add_J0_0 X _ (P_20 := fun u => ∃ e, u = [(e, .inl (C.1.2.2.2.1 6, 10, .inr (.inr (.inr (.inr (va_up (fun _ => none) (0 : Int32).toNatClampNeg (some x))))))), (q, .inr (11, [.int (mc0 + 1), .ref e, .int (0 + 1)]))] ++ P) x P q mc0 vs i1 0 0 hf ⟨by decide, by decide⟩ ?_ ?_
    · exact d_add3_J0 _ q x i1 (mc0 + 1) vs P hf _ (fun e => ⟨e, rfl⟩)
    rintro u ⟨e, rfl⟩
    refine k_AL_add_J0_23 X _ x _ q mc0 vs _ _ ⟨by decide, by decide⟩ ?_
    refine ⟨[(q, .inr (11, [.int (mc0 + 1), .ref e, .int (0 + 1)])), (e, .inl (C.1.2.2.2.1 6, 10, .inr (.inr (.inr (.inr (va_up (fun _ => none) (0 : Int32).toNatClampNeg (some x)))))))], List.Perm.swap _ _ _, Or.inr ⟨by simp, by rw [hxs]; show 1 ≤ 10; decide, mc0 + 1, e, va_up (fun _ => none) (0 : Int32).toNatClampNeg (some x), ?_, ?_⟩⟩
    · rw [hxs]; rfl
    · intro i hi
      subst hxs
      have hi0 : i = 0 := by simp at hi; omega
      subst hi0
      exact if_pos (by decide)
  · refine e_AL_add_J1 T _ x P q mc0 vs e0 xs.length fa ?_
    rintro C rfl X
    refine k_AL_add_J1_0 X _ (P_20 := fun u => u = [(q, .inr (11, [.int (mc0 + 1), .ref e0, .int (nI xs.length + 1)])), (e0, .inl (C.1.2.2.2.1 6, 10, .inr (.inr (.inr (.inr (va_up fa (nI xs.length : Int32).toNatClampNeg (some x)))))))] ++ P) x P q mc0 vs e0 xs.length fa i1 0 0 hf ⟨by decide, by decide⟩ ?_ ?_
    · exact d_add3_J1 _ q x i1 e0 xs.length (mc0 + 1) fa vs P hf hlen _ rfl
    rintro u rfl
    refine k_AL_add_J1_23 X _ x _ q mc0 vs e0 xs.length fa _ _ ⟨by decide, by decide⟩ ?_
    refine ⟨_, List.Perm.refl _, Or.inr ⟨by simp, by simp; omega, mc0 + 1, e0, va_up fa (nI xs.length : Int32).toNatClampNeg (some x), ?_, ?_⟩⟩
    · rw [nI_1, List.length_append]; rfl
    · intro i hi
      rw [nI_clamp (by omega)]
      by_cases c : i = xs.length
      · subst c
        rw [up_same, List.getElem_append_right (Nat.le_refl _)]
        simp
      · rw [up_other _ _ c, hfa i (by simp at hi; omega), List.getElem_append_left]

theorem d_add3_T0 (T : ST) (h0 x1 i1 : Nat) (mc0 : Int32) (vs : List Value) (P : va_W) (hf : P[i1]? = some (x1, .inr (9, vs))) (Post : va_W → Prop) (hq : ∀ e : Nat, Post ([(e, .inl (T.2.2.2.1 6, 10, .inr (.inr (.inr (.inr (va_up (fun _ => none) (0 : Int32).toNatClampNeg (some x1))))))), (h0, .inr (11, [.int mc0, .ref e, .int (0 + 1)]))] ++ P)) : uV T y_AL_add3 (Cond.code y_AL_add3 b_AL_add3 4 none) 3 1 10 [.ref h0, .ref x1, .ref (T.2.2.2.1 7), .int 0] ([(h0, .inr (11, [.int mc0, .ref (T.2.2.2.1 7), .int 0]))] ++ P) Post := by
  refine e_AL_add3_T0 T Post x1 P h0 mc0 vs 0 ?_
  rintro C rfl X
  refine k_AL_add3_T0_0 X Post (P_7 := fun r u => ∃ e, r = some e ∧ u = [(e, .inl (C.1.2.2.2.1 6, 10, .inr (.inr (.inr (.inr (fun _ => none)))))), (h0, .inr (11, [.int mc0, .ref e, .int 0]))] ++ P) x1 P h0 mc0 vs 0 i1 0 0 hf ⟨by decide, by decide⟩ ?_ ?_
  · exact d_grow _ h0 mc0 P _ (fun e => ⟨e, rfl, rfl⟩)
  rintro r u ⟨e, rfl, rfl⟩
  exact k_AL_add3_T0_10 X Post x1 P h0 mc0 vs e i1 _ _ hf (by unfold vp_in; decide) ⟨by decide, by decide⟩ (hq e)
theorem d_add3_T1 (T : ST) (h0 x1 i1 e0 sz : Nat) (mc0 : Int32) (fa : Nat → Option Nat) (vs : List Value) (P : va_W) (hf : P[i1]? = some (x1, .inr (9, vs))) (hsz : sz < 10) (Post : va_W → Prop) (hq : Post ([(h0, .inr (11, [.int mc0, .ref e0, .int (nI sz + 1)])), (e0, .inl (T.2.2.2.1 6, 10, .inr (.inr (.inr (.inr (va_up fa (nI sz : Int32).toNatClampNeg (some x1)))))))] ++ P)) : uV T y_AL_add3 (Cond.code y_AL_add3 b_AL_add3 4 none) 3 1 10 [.ref h0, .ref x1, .ref e0, .int (nI sz)] ([(h0, .inr (11, [.int mc0, .ref e0, .int (nI sz)])), (e0, .inl (T.2.2.2.1 6, 10, .inr (.inr (.inr (.inr fa)))))] ++ P) Post := by
  refine e_AL_add3_T1 T Post x1 P h0 mc0 vs e0 sz fa ?_
  rintro C rfl X
  have hne : ¬ nI sz = nI 10 := fun z => absurd ((nI_eq (by omega) (by decide)).mp z) (by omega)
  exact k_AL_add3_T1_0 X Post x1 P h0 mc0 vs e0 sz fa i1 0 0 hf (fun _ => vi_n hsz (by decide)) (fun _ => ⟨by decide, by decide⟩) (fun _ => hq) (fun z => hne z)
theorem d_add_T (T : ST) (q x : Nat) (xs : List Nat) (vs : List Value) (w P : va_W) (hx : (x, (.inr (9, vs) : va_E)) ∈ P) (hal : isAL T.2.2.2.1 q xs w) (hlen : xs.length < 10) : uI T y_AL_add (Cond.code y_AL_add b_AL_add 2 (some .boolean)) 4 1 10 [.ref q, .ref x] (w ++ P) (fun _ u => ∃ w', u.Perm (w' ++ P) ∧ isAL T.2.2.2.1 q (xs ++ [x]) w') := by
  obtain ⟨i1, hf⟩ := List.getElem?_of_mem hx
  rcases hal with ⟨hxs, mc0, rfl⟩ | ⟨hxs, hl, mc0, e0, fa, rfl, hfa⟩
  · refine e_AL_add_T0 T _ x P q mc0 vs ?_
    rintro C rfl X
    refine k_AL_add_T0_0 X _ (P_20 := fun u => ∃ e, u = [(e, .inl (C.1.2.2.2.1 6, 10, .inr (.inr (.inr (.inr (va_up (fun _ => none) (0 : Int32).toNatClampNeg (some x))))))), (q, .inr (11, [.int (mc0 + 1), .ref e, .int (0 + 1)]))] ++ P) x P q mc0 vs i1 0 0 hf ⟨by decide, by decide⟩ ?_ ?_
    · exact d_add3_T0 _ q x i1 (mc0 + 1) vs P hf _ (fun e => ⟨e, rfl⟩)
    rintro u ⟨e, rfl⟩
    refine k_AL_add_T0_23 X _ x _ q mc0 vs _ _ ⟨by decide, by decide⟩ ?_
    refine ⟨[(q, .inr (11, [.int (mc0 + 1), .ref e, .int (0 + 1)])), (e, .inl (C.1.2.2.2.1 6, 10, .inr (.inr (.inr (.inr (va_up (fun _ => none) (0 : Int32).toNatClampNeg (some x)))))))], List.Perm.swap _ _ _, Or.inr ⟨by simp, by rw [hxs]; show 1 ≤ 10; decide, mc0 + 1, e, va_up (fun _ => none) (0 : Int32).toNatClampNeg (some x), ?_, ?_⟩⟩
    · rw [hxs]; rfl
    · intro i hi
      subst hxs
      have hi0 : i = 0 := by simp at hi; omega
      subst hi0
      exact if_pos (by decide)
  · refine e_AL_add_T1 T _ x P q mc0 vs e0 xs.length fa ?_
    rintro C rfl X
    refine k_AL_add_T1_0 X _ (P_20 := fun u => u = [(q, .inr (11, [.int (mc0 + 1), .ref e0, .int (nI xs.length + 1)])), (e0, .inl (C.1.2.2.2.1 6, 10, .inr (.inr (.inr (.inr (va_up fa (nI xs.length : Int32).toNatClampNeg (some x)))))))] ++ P) x P q mc0 vs e0 xs.length fa i1 0 0 hf ⟨by decide, by decide⟩ ?_ ?_
    · exact d_add3_T1 _ q x i1 e0 xs.length (mc0 + 1) fa vs P hf hlen _ rfl
    rintro u rfl
    refine k_AL_add_T1_23 X _ x _ q mc0 vs e0 xs.length fa _ _ ⟨by decide, by decide⟩ ?_
    refine ⟨_, List.Perm.refl _, Or.inr ⟨by simp, by simp; omega, mc0 + 1, e0, va_up fa (nI xs.length : Int32).toNatClampNeg (some x), ?_, ?_⟩⟩
    · rw [nI_1, List.length_append]; rfl
    · intro i hi
      rw [nI_clamp (by omega)]
      by_cases c : i = xs.length
      · subst c
        rw [up_same, List.getElem_append_right (Nat.le_refl _)]
        simp
      · rw [up_other _ _ c, hfa i (by simp at hi; omega), List.getElem_append_left]

theorem d_add3_C0 (T : ST) (h0 x1 i1 : Nat) (mc0 : Int32) (vs : List Value) (P : va_W) (hf : P[i1]? = some (x1, .inr (10, vs))) (Post : va_W → Prop) (hq : ∀ e : Nat, Post ([(e, .inl (T.2.2.2.1 6, 10, .inr (.inr (.inr (.inr (va_up (fun _ => none) (0 : Int32).toNatClampNeg (some x1))))))), (h0, .inr (11, [.int mc0, .ref e, .int (0 + 1)]))] ++ P)) : uV T y_AL_add3 (Cond.code y_AL_add3 b_AL_add3 4 none) 3 1 10 [.ref h0, .ref x1, .ref (T.2.2.2.1 7), .int 0] ([(h0, .inr (11, [.int mc0, .ref (T.2.2.2.1 7), .int 0]))] ++ P) Post := by
  refine e_AL_add3_C0 T Post x1 P h0 mc0 vs 0 ?_
  rintro C rfl X
  refine k_AL_add3_C0_0 X Post (P_7 := fun r u => ∃ e, r = some e ∧ u = [(e, .inl (C.1.2.2.2.1 6, 10, .inr (.inr (.inr (.inr (fun _ => none)))))), (h0, .inr (11, [.int mc0, .ref e, .int 0]))] ++ P) x1 P h0 mc0 vs 0 i1 0 0 hf ⟨by decide, by decide⟩ ?_ ?_
  · exact d_grow _ h0 mc0 P _ (fun e => ⟨e, rfl, rfl⟩)
  rintro r u ⟨e, rfl, rfl⟩
  exact k_AL_add3_C0_10 X Post x1 P h0 mc0 vs e i1 _ _ hf (by unfold vp_in; decide) ⟨by decide, by decide⟩ (hq e)
theorem d_add3_C1 (T : ST) (h0 x1 i1 e0 sz : Nat) (mc0 : Int32) (fa : Nat → Option Nat) (vs : List Value) (P : va_W) (hf : P[i1]? = some (x1, .inr (10, vs))) (hsz : sz < 10) (Post : va_W → Prop) (hq : Post ([(h0, .inr (11, [.int mc0, .ref e0, .int (nI sz + 1)])), (e0, .inl (T.2.2.2.1 6, 10, .inr (.inr (.inr (.inr (va_up fa (nI sz : Int32).toNatClampNeg (some x1)))))))] ++ P)) : uV T y_AL_add3 (Cond.code y_AL_add3 b_AL_add3 4 none) 3 1 10 [.ref h0, .ref x1, .ref e0, .int (nI sz)] ([(h0, .inr (11, [.int mc0, .ref e0, .int (nI sz)])), (e0, .inl (T.2.2.2.1 6, 10, .inr (.inr (.inr (.inr fa)))))] ++ P) Post := by
  refine e_AL_add3_C1 T Post x1 P h0 mc0 vs e0 sz fa ?_
  rintro C rfl X
  have hne : ¬ nI sz = nI 10 := fun z => absurd ((nI_eq (by omega) (by decide)).mp z) (by omega)
  exact k_AL_add3_C1_0 X Post x1 P h0 mc0 vs e0 sz fa i1 0 0 hf (fun _ => vi_n hsz (by decide)) (fun _ => ⟨by decide, by decide⟩) (fun _ => hq) (fun z => hne z)
theorem d_add_C (T : ST) (q x : Nat) (xs : List Nat) (vs : List Value) (w P : va_W) (hx : (x, (.inr (10, vs) : va_E)) ∈ P) (hal : isAL T.2.2.2.1 q xs w) (hlen : xs.length < 10) : uI T y_AL_add (Cond.code y_AL_add b_AL_add 2 (some .boolean)) 4 1 10 [.ref q, .ref x] (w ++ P) (fun _ u => ∃ w', u.Perm (w' ++ P) ∧ isAL T.2.2.2.1 q (xs ++ [x]) w') := by
  obtain ⟨i1, hf⟩ := List.getElem?_of_mem hx
  rcases hal with ⟨hxs, mc0, rfl⟩ | ⟨hxs, hl, mc0, e0, fa, rfl, hfa⟩
  · refine e_AL_add_C0 T _ x P q mc0 vs ?_
    rintro C rfl X
    refine k_AL_add_C0_0 X _ (P_20 := fun u => ∃ e, u = [(e, .inl (C.1.2.2.2.1 6, 10, .inr (.inr (.inr (.inr (va_up (fun _ => none) (0 : Int32).toNatClampNeg (some x))))))), (q, .inr (11, [.int (mc0 + 1), .ref e, .int (0 + 1)]))] ++ P) x P q mc0 vs i1 0 0 hf ⟨by decide, by decide⟩ ?_ ?_
    · exact d_add3_C0 _ q x i1 (mc0 + 1) vs P hf _ (fun e => ⟨e, rfl⟩)
    rintro u ⟨e, rfl⟩
    refine k_AL_add_C0_23 X _ x _ q mc0 vs _ _ ⟨by decide, by decide⟩ ?_
    refine ⟨[(q, .inr (11, [.int (mc0 + 1), .ref e, .int (0 + 1)])), (e, .inl (C.1.2.2.2.1 6, 10, .inr (.inr (.inr (.inr (va_up (fun _ => none) (0 : Int32).toNatClampNeg (some x)))))))], List.Perm.swap _ _ _, Or.inr ⟨by simp, by rw [hxs]; show 1 ≤ 10; decide, mc0 + 1, e, va_up (fun _ => none) (0 : Int32).toNatClampNeg (some x), ?_, ?_⟩⟩
    · rw [hxs]; rfl
    · intro i hi
      subst hxs
      have hi0 : i = 0 := by simp at hi; omega
      subst hi0
      exact if_pos (by decide)
  · refine e_AL_add_C1 T _ x P q mc0 vs e0 xs.length fa ?_
    rintro C rfl X
    refine k_AL_add_C1_0 X _ (P_20 := fun u => u = [(q, .inr (11, [.int (mc0 + 1), .ref e0, .int (nI xs.length + 1)])), (e0, .inl (C.1.2.2.2.1 6, 10, .inr (.inr (.inr (.inr (va_up fa (nI xs.length : Int32).toNatClampNeg (some x)))))))] ++ P) x P q mc0 vs e0 xs.length fa i1 0 0 hf ⟨by decide, by decide⟩ ?_ ?_
    · exact d_add3_C1 _ q x i1 e0 xs.length (mc0 + 1) fa vs P hf hlen _ rfl
    rintro u rfl
    refine k_AL_add_C1_23 X _ x _ q mc0 vs e0 xs.length fa _ _ ⟨by decide, by decide⟩ ?_
    refine ⟨_, List.Perm.refl _, Or.inr ⟨by simp, by simp; omega, mc0 + 1, e0, va_up fa (nI xs.length : Int32).toNatClampNeg (some x), ?_, ?_⟩⟩
    · rw [nI_1, List.length_append]; rfl
    · intro i hi
      rw [nI_clamp (by omega)]
      by_cases c : i = xs.length
      · subst c
        rw [up_same, List.getElem_append_right (Nat.le_refl _)]
        simp
      · rw [up_other _ _ c, hfa i (by simp at hi; omega), List.getElem_append_left]
