set_option maxHeartbeats 1000000 in
theorem c_loopsW (T : ST) (q : Nat) (hq61 : q < 61) (Z : ZT) (t : Nat) (f : FT) (g : GT) (hT : TI Z t f g) (Post : Int32 → FT → GT → Prop) (hq : ∀ r g', TI Z t f g' → Post r f g') : mI T y_Mo_loops (Cond.code y_Mo_loops b_Mo_loops 5 (some .boolean)) 2 [.ref (ad T 0), .int (nI q)] f g Post := by
  refine e_Mo_loops T Post _ f g ?_
  rintro C rfl X
  obtain ⟨c, ec, hc⟩ := hT.2.2.2.1
  have eK := K61 (q := q) ec
  have hk : c * 61 + q < 610 := by omega
  refine k_Mo_loops_0 X Post (P_1 := fun f' g' => f' = f ∧ TI Z t f g') _ _ _ ?_ ?_
  · exact c_unmarkW _ Z t f g hT _ (fun g' h _ => ⟨rfl, h⟩)
  rintro f1 g1 ⟨rfl, h1⟩
  refine k_Mo_loops_4 X Post _ _ _ ?_
  rw [eK]
  have loop : ∀ j i g2, j + i = 7 → i ≤ 6 → TI Z t f1 g2 → zn_loops C Post 16 [(0, .ref (ad C.1 0)), (1, .int (nI q)), (2, .int (nI (c * 61 + q))), (3, .int (nI i))] [] f1 g2 := by
    intro j
    induction j with
    | zero => intro i g2 hj hi; omega
    | succ j ih =>
      intro i g2 hj hi h2
      have hg := h2.2.2.2.2.2.2.2
      obtain ⟨m, em, hm⟩ := hg.2.1 (nI (c * 61 + q)).toNatClampNeg
      refine k_Mo_loops_16 X Post (P_67 := fun _ f' g' => f' = f1 ∧ TI Z t f1 g') (P_46 := fun _ f' g' => f' = f1 ∧ g' = g2) _ _ _ _ _ (vi_n hk (by decide)) ?_ ?_ ?_ ?_ ?_
      · intro _; exact c_spreadsW _ Z t f1 g2 h2 _ (fun _ g' h _ => ⟨rfl, h⟩)
      · rintro _ r f3 g3 ⟨rfl, h3⟩
        exact k_Mo_loops_70 X Post _ _ _ _ _ _ (vi_n hq61 (by decide)) (hq _ _ h3) (nar01 (h3.2.2.2.2.2.2.2.2.2.2.2.2.2 _))
      · intro z
        rw [em, nI_leI (by omega) (by omega)] at z
        rw [J42]; exact vi_n (by omega) (by decide)
      · intro z
        rw [em, nI_leI (by omega) (by omega)] at z
        rw [J42]
        exact c_isThere _ _ _ _ h2.2.2.2.1 (hg.2.2.1 _ (by rw [nI_clamp (by omega)]; omega)) _ ⟨rfl, rfl⟩
      · rintro z r f3 g3 ⟨rfl, rfl⟩
        rw [em, nI_leI (by omega) (by omega)] at z
        rw [J42]
        obtain ⟨to, eto, hto⟩ := hg.2.2.1 (nI (((c * 61 + q) * 6 + i) * 4 + 2)).toNatClampNeg (by rw [nI_clamp (by omega)]; omega)
        rw [eto]
        refine k_Mo_loops_49 X Post _ _ _ _ _ _ _ (fun _ => ?_) (fun _ => vi_n (by omega) (by decide)) (fun _ => ?_)
        · refine k_Mo_loops_60 X Post _ _ _ _ _ _ ?_
          rw [nI_1]
          exact ih (i + 1) _ (by omega) (by omega) h2
        · refine k_Mo_loops_60 X Post _ _ _ _ _ _ ?_
          rw [nI_1]
          exact ih (i + 1) _ (by omega) (by omega) (TI_g h2 (GI_mark hg _ _ (Or.inr rfl)))
  exact loop 7 0 g1 rfl (by decide) h1
set_option maxHeartbeats 1000000 in
theorem c_loopW (T : ST) (x : Int32) (Z : ZT) (t : Nat) (f : FT) (g : GT) (hT : TI Z t f g) (Post : Int32 → FT → GT → Prop) (hq : ∀ r f' g', TI Z t f' g' → Post r f' g') : mI T y_Mo_loop (Cond.code y_Mo_loop b_Mo_loop 4 (some .int)) 3 [.ref (ad T 0), .int x] f g Post := by
  refine e_Mo_loop T Post _ f g ?_
  rintro C rfl X
  have loop : ∀ j q x2 f g, j + q = 61 → TI Z t f g → zn_loop C Post 22 [(0, .ref (ad C.1 0)), (1, .int x), (2, .int x2), (3, .int (nI q))] [] f g := by
    intro j
    induction j with
    | zero =>
      intro q x2 f g hj h
      have h61 : (61 : Int32) ≤ nI q := (nI_leI (a := 61) (b := q) (by decide) (by omega)).mpr (by omega)
      exact k_Mo_loop_22 X Post (P_30 := fun _ _ _ => True) _ _ _ _ _ (fun _ => hq _ _ _ h) (fun z => absurd h61 z) (fun z => absurd h61 z)
    | succ j ih =>
      intro q x2 f g hj h
      have h61 : ¬ (61 : Int32) ≤ nI q := fun z => absurd ((nI_leI (a := 61) (b := q) (by decide) (by omega)).mp z) (by omega)
      have s56 : ∀ x2 g, TI Z t f g → zn_loop C Post 56 [(0, .ref (ad C.1 0)), (1, .int x), (2, .int x2), (3, .int (nI q))] [] f g := by
        intro x2 g h
        refine k_Mo_loop_56 X Post _ _ _ _ _ ?_
        rw [nI_1]
        exact ih (q + 1) x2 f g (by omega) h
      refine k_Mo_loop_22 X Post (P_30 := fun _ f' g' => f' = f ∧ g' = g) _ _ _ _ _ (fun z => absurd z h61) (fun _ => ?_) ?_
      · exact c_isThere _ _ _ _ h.2.2.2.1 ⟨q, rfl, by omega⟩ _ ⟨rfl, rfl⟩
      rintro _ r f1 g1 ⟨rfl, rfl⟩
      refine k_Mo_loop_33 X Post (P_38 := fun _ f' g' => f' = f1 ∧ TI Z t f1 g') _ _ _ _ _ _ (fun _ => s56 _ _ h) (fun _ => ?_) ?_
      · exact c_loopsW _ q (by omega) Z t _ _ h _ (fun _ g' h => ⟨rfl, h⟩)
      rintro _ r f2 g2 ⟨rfl, h2⟩
      exact k_Mo_loop_41 X Post _ _ _ _ _ _ (fun _ _ => s56 _ _ h2) (fun _ _ => hq _ _ _ h2) (fun _ => s56 _ _ h2)
  have s10 : ∀ y, (y = 0 ∨ y = 1) → zn_loop C Post 10 [(0, .ref (ad C.1 0)), (1, .int x)] [.int y, .ref (ad C.1 0)] f g := by
    intro y hy
    refine k_Mo_loop_10 X Post (P_10 := fun _ f' g' => TI Z t f' g') _ _ _ _ ?_ ?_
    · exact c_says _ y hy _ _ _ (TI_0 hT _)
    intro r f1 g1 h1
    exact k_Mo_loop_13 X Post _ _ _ _ (fun _ => loop 60 1 x _ _ rfl h1) (fun _ => hq _ _ _ h1)
  exact k_Mo_loop_0 X Post _ _ _ (fun _ => s10 0 (Or.inl rfl)) (fun _ => s10 1 (Or.inr rfl))
set_option maxHeartbeats 1000000 in
theorem c_neverW (T : ST) (x : Int32) (Z : ZT) (t : Nat) (f : FT) (g : GT) (hT : TI Z t f g) (Post : Int32 → FT → GT → Prop) (hq : ∀ r f' g', TI Z t f' g' → Post r f' g') : mI T y_Mo_never (Cond.code y_Mo_never b_Mo_never 5 (some .int)) 2 [.ref (ad T 0), .int x] f g Post := by
  refine e_Mo_never T Post _ f g ?_
  rintro C rfl X
  have last : ∀ j q x2 x3 f g, j + q = 61 → TI Z t f g → zn_never C Post 76 [(0, .ref (ad C.1 0)), (1, .int x), (2, .int x2), (3, .int x3), (4, .int (nI q))] [] f g := by
    intro j
    induction j with
    | zero =>
      intro q x2 x3 f g hj h
      have h61 : (61 : Int32) ≤ nI q := (nI_leI (a := 61) (b := q) (by decide) (by omega)).mpr (by omega)
      exact k_Mo_never_76 X Post (P_86 := fun _ _ _ => True) _ _ _ _ _ _ (fun _ => hq _ _ _ h) (fun z => absurd h61 z) (fun z => absurd h61 z)
    | succ j ih =>
      intro q x2 x3 f g hj h
      have h61 : ¬ (61 : Int32) ≤ nI q := fun z => absurd ((nI_leI (a := 61) (b := q) (by decide) (by omega)).mp z) (by omega)
      have s115 : ∀ x3, zn_never C Post 115 [(0, .ref (ad C.1 0)), (1, .int x), (2, .int x2), (3, .int x3), (4, .int (nI q))] [] f g := by
        intro x3
        refine k_Mo_never_115 X Post _ _ _ _ _ _ ?_
        rw [nI_1]
        exact ih (q + 1) x2 x3 f g (by omega) h
      refine k_Mo_never_76 X Post (P_86 := fun _ f' g' => f' = f ∧ g' = g) _ _ _ _ _ _ (fun z => absurd z h61) (fun _ => ?_) ?_
      · exact c_isThere _ _ _ _ h.2.2.2.1 ⟨q, rfl, by omega⟩ _ ⟨rfl, rfl⟩
      rintro _ r f1 g1 ⟨rfl, rfl⟩
      exact k_Mo_never_89 X Post _ _ _ _ _ _ _ (fun _ => s115 _) (fun _ => vi_n (by omega) (by decide)) (fun _ _ _ => s115 _) (fun _ _ _ => hq _ _ _ h) (fun _ _ => s115 _)
  have loop : ∀ j i f g, j + i = 10 → TI Z t f g → zn_never C Post 24 [(0, .ref (ad C.1 0)), (1, .int x), (2, .int (nI i))] [] f g := by
    intro j
    induction j with
    | zero =>
      intro i f g hj h
      have h10 : (10 : Int32) ≤ nI i := (nI_leI (a := 10) (b := i) (by decide) (by omega)).mpr (by omega)
      refine k_Mo_never_24 X Post (P_67 := fun _ f' g' => f' = f ∧ TI Z t f g') (P_47 := fun _ _ _ => True) _ _ _ _ (fun _ => ?_) ?_ (fun z => absurd h10 z) (fun z => absurd h10 z) (fun z => absurd h10 z)
      · exact c_spreadsW _ Z t f g h _ (fun _ g' h _ => ⟨rfl, h⟩)
      rintro _ r f1 g1 ⟨rfl, h1⟩
      exact k_Mo_never_70 X Post _ _ _ _ _ (last 60 1 _ _ _ _ rfl h1)
    | succ j ih =>
      intro i f g hj h
      have h10 : ¬ (10 : Int32) ≤ nI i := fun z => absurd ((nI_leI (a := 10) (b := i) (by decide) (by omega)).mp z) (by omega)
      have hg := h.2.2.2.2.2.2.2
      obtain ⟨c, ec, hc⟩ := h.2.2.2.1
      have hb := hg.2.2.2.1 (((f 4) * 10) + nI i : Int32).toNatClampNeg
      refine k_Mo_never_24 X Post (P_67 := fun _ _ _ => True) (P_47 := fun _ f' g' => f' = f ∧ g' = g) _ _ _ _ (fun z => absurd z h10) (fun z => absurd z h10) (fun _ => ?_) (fun _ => ?_) ?_
      · rw [ec, show (10 : Int32) = nI 10 from rfl, pk_mul, nI_add]; exact vi_n (by omega) (by decide)
      · exact c_isThere _ _ _ _ h.2.2.2.1 hb _ ⟨rfl, rfl⟩
      rintro _ r f1 g1 ⟨rfl, rfl⟩
      obtain ⟨to, eto, hto⟩ := hb
      rw [eto]
      refine k_Mo_never_50 X Post _ _ _ _ _ _ (fun _ => ?_) (fun _ => vi_n (by omega) (by decide)) (fun _ => ?_)
      · refine k_Mo_never_60 X Post _ _ _ _ _ ?_
        rw [nI_1]
        exact ih (i + 1) _ _ (by omega) h
      · refine k_Mo_never_60 X Post _ _ _ _ _ ?_
        rw [nI_1]
        exact ih (i + 1) _ _ (by omega) (TI_g h (GI_mark hg _ _ (Or.inr rfl)))
  have s10 : ∀ y, (y = 0 ∨ y = 1) → zn_never C Post 10 [(0, .ref (ad C.1 0)), (1, .int x)] [.int y, .ref (ad C.1 0)] f g := by
    intro y hy
    refine k_Mo_never_10 X Post (P_10 := fun _ f' g' => TI Z t f' g') _ _ _ _ ?_ ?_
    · exact c_says _ y hy _ _ _ (TI_0 hT _)
    intro r f1 g1 h1
    refine k_Mo_never_13 X Post (P_19 := fun f' g' => TI Z t f' g') _ _ _ _ (fun _ => ?_) ?_ (fun _ => hq _ _ _ h1)
    · exact c_unmarkW _ Z t _ _ h1 _ (fun g' h _ => h)
    intro _ f2 g2 h2
    exact k_Mo_never_22 X Post _ _ _ (loop 9 1 _ _ rfl h2)
  exact k_Mo_never_0 X Post _ _ _ (fun _ => s10 0 (Or.inl rfl)) (fun _ => s10 1 (Or.inr rfl))
set_option maxHeartbeats 1000000 in
theorem c_endlessW (T : ST) (x : Int32) (Z : ZT) (t : Nat) (f : FT) (g : GT) (hT : TI Z t f g) (Post : Int32 → FT → GT → Prop) (hq : ∀ r f' g', TI Z t f' g' → Post r f' g') : mI T y_Mo_endless (Cond.code y_Mo_endless b_Mo_endless 5 (some .int)) 2 [.ref (ad T 0), .int x] f g Post := by
  refine e_Mo_endless T Post _ f g ?_
  rintro C rfl X
  have loop : ∀ j i x2 f g, j + i = 10 → TI Z t f g → zn_endless C Post 22 [(0, .ref (ad C.1 0)), (1, .int x), (2, .int x2), (3, .int (nI i))] [] f g := by
    intro j
    induction j with
    | zero =>
      intro i x2 f g hj h
      have h10 : (10 : Int32) ≤ nI i := (nI_leI (a := 10) (b := i) (by decide) (by omega)).mpr (by omega)
      exact k_Mo_endless_22 X Post (P_47 := fun _ _ _ => True) _ _ _ _ _ (fun _ => hq _ _ _ h) (fun z => absurd h10 z) (fun z => absurd h10 z) (fun z => absurd h10 z)
    | succ j ih =>
      intro i x2 f g hj h
      have h10 : ¬ (10 : Int32) ≤ nI i := fun z => absurd ((nI_leI (a := 10) (b := i) (by decide) (by omega)).mp z) (by omega)
      have hg := h.2.2.2.2.2.2.2
      obtain ⟨c, ec, hc⟩ := h.2.2.2.1
      have hb := hg.2.2.2.1 (((f 4) * 10) + nI i : Int32).toNatClampNeg
      refine k_Mo_endless_22 X Post (P_47 := fun _ f' g' => f' = f ∧ g' = g) _ _ _ _ _ (fun z => absurd z h10) (fun _ => ?_) (fun _ => ?_) ?_
      · rw [ec, show (10 : Int32) = nI 10 from rfl, pk_mul, nI_add]; exact vi_n (by omega) (by decide)
      · exact c_isThere _ _ _ _ h.2.2.2.1 hb _ ⟨rfl, rfl⟩
      rintro _ r f1 g1 ⟨rfl, rfl⟩
      obtain ⟨to, eto, hto⟩ := hb
      rw [eto]
      have s87 : ∀ x2 g, TI Z t f1 g → zn_endless C Post 87 [(0, .ref (ad C.1 0)), (1, .int x), (2, .int x2), (3, .int (nI i)), (4, .int (nI to))] [] f1 g := by
        intro x2 g h
        refine k_Mo_endless_87 X Post _ _ _ _ _ _ ?_
        rw [nI_1]
        exact ih (i + 1) _ _ _ (by omega) h
      refine k_Mo_endless_50 X Post (P_57 := fun f' g' => f' = f1 ∧ TI Z t f1 g') _ _ _ _ _ _ _ (fun _ => ?_) ?_ (fun _ => s87 _ _ h)
      · exact c_unmarkW _ Z t _ _ h _ (fun g' h _ => ⟨rfl, h⟩)
      rintro _ f2 g2 ⟨rfl, h2⟩
      refine k_Mo_endless_60 X Post (P_69 := fun _ f' g' => f' = f2 ∧ TI Z t f2 g') _ _ _ _ _ _ (vi_n (by omega) (by decide)) ?_ ?_
      · exact c_spreadsW _ Z t _ _ (TI_g h2 (GI_mark h2.2.2.2.2.2.2.2 _ _ (Or.inr rfl))) _ (fun _ g' h _ => ⟨rfl, h⟩)
      rintro r f3 g3 ⟨rfl, h3⟩
      exact k_Mo_endless_72 X Post _ _ _ _ _ _ _ (fun _ _ => s87 _ _ h3) (fun _ _ => hq _ _ _ h3) (fun _ => s87 _ _ h3)
  have s10 : ∀ y, (y = 0 ∨ y = 1) → zn_endless C Post 10 [(0, .ref (ad C.1 0)), (1, .int x)] [.int y, .ref (ad C.1 0)] f g := by
    intro y hy
    refine k_Mo_endless_10 X Post (P_10 := fun _ f' g' => TI Z t f' g') _ _ _ _ ?_ ?_
    · exact c_says _ y hy _ _ _ (TI_0 hT _)
    intro r f1 g1 h1
    exact k_Mo_endless_13 X Post _ _ _ _ (fun _ => loop 9 1 x _ _ rfl h1) (fun _ => hq _ _ _ h1)
  exact k_Mo_endless_0 X Post _ _ _ (fun _ => s10 0 (Or.inl rfl)) (fun _ => s10 1 (Or.inr rfl))
