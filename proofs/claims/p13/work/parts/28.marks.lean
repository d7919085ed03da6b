theorem c_wordW (T : ST) (x1 x2 x3 : Int32) (Z : ZT) (t : Nat) (f : FT) (g : GT) (hT : TI Z t f g) (Post : Int32 → FT → GT → Prop) (hq : ∀ r f', TI Z t f' g → Post r f' g) : mI T y_Mo_word (Cond.code y_Mo_word b_Mo_word 5 (some .int)) 1 [.ref (ad T 0), .int x1, .int x2, .int x3] f g Post := by
  refine e_Mo_word T Post _ _ _ f g ?_
  rintro C rfl X
  have hg := hT.2.2.2.2.2.2.2
  have s119 : ∀ x4 y f, TI Z t f g → zn_word C Post 119 [(0, .ref (ad C.1 0)), (1, .int x1), (2, .int x2), (3, .int x3), (4, .int x4)] [.int y] f g := fun x4 y f hT => k_Mo_word_119 X Post _ _ _ _ _ _ _ (hq _ _ hT)
  have s92 : ∀ k f, k < 1220 → ¬ x3 < 0 → TI Z t f g → zn_word C Post 92 [(0, .ref (ad C.1 0)), (1, .int x1), (2, .int x2), (3, .int x3), (4, .int (nI k))] [] f g := by
    intro k f hk h3 hT
    obtain ⟨j, hj, ej⟩ := nI_of h3
    obtain ⟨m, em, hm⟩ := hg.1 (nI k).toNatClampNeg
    refine k_Mo_word_92 X Post _ _ _ _ _ _ (vi_n hk (by decide)) (fun _ => s119 _ _ _ hT) (fun z => ?_) (fun _ => s119 _ _ _ hT)
    rw [em, ej, nI_leI (by omega) hj] at z
    rw [ej, show (12 : Int32) = nI 12 from rfl, pk_mul, nI_add]
    exact vi_n (by omega) (by decide)
  have s51 : ∀ y, (y = 0 ∨ (y = 1 ∧ ¬ inV x1 1 60 = 0 ∧ ¬ x3 < 0)) → zn_word C Post 51 [(0, .ref (ad C.1 0)), (1, .int x1), (2, .int x2), (3, .int x3)] [.int y, .ref (ad C.1 0)] f g := by
    intro y hy
    refine k_Mo_word_51 X Post (P_51 := fun r f' g' => r = y ∧ TI Z t f' g ∧ g' = g) _ _ _ _ _ _ ?_ ?_
    · exact c_says _ y (hy.imp id And.left) _ _ _ ⟨rfl, TI_0 hT _, rfl⟩
    rintro r f2 g2 ⟨rfl, hT2, rfl⟩
    rcases hy with hy | ⟨hy, hn, h3⟩
    · refine k_Mo_word_54 X Post _ _ _ _ _ _ ?_ ?_ ?_ ?_ (fun _ => hq _ _ hT2) <;> exact fun z => absurd hy z
    · have hz := inV_nz hn
      obtain ⟨q, hq60, eq⟩ := nI_of2 (x := x1) (M := 60) (n := 60) (by decide +kernel) (fun w => absurd (Int32.lt_of_lt_of_le w (show (0 : Int32) ≤ 1 by decide +kernel)) (Int32.not_lt.mpr hz.1)) hz.2
      obtain ⟨c, ec, hc⟩ := hT2.2.2.2.1
      have e0 : (((f2 4) * 61) + x1) * 2 = nI ((c * 61 + q) * 2) := by rw [eq, K61 ec, show (2 : Int32) = nI 2 from rfl, pk_mul]
      have e1 : (((f2 4) * 61) + x1) * 2 + 1 = nI ((c * 61 + q) * 2 + 1) := by rw [e0, nI_1]
      refine k_Mo_word_54 X Post _ _ _ _ _ _ ?_ ?_ ?_ ?_ ?_
      · intro _ _; rw [e0]; exact s92 _ _ (by omega) h3 hT2
      · intro _ _; rw [e1]; exact vi_n (by omega) (by decide)
      · intro _ _ _; rw [e0]; exact s92 _ _ (by omega) h3 hT2
      · intro _ _ _; rw [e1]; exact s92 _ _ (by omega) h3 hT2
      · intro _; exact hq _ _ hT2
  have s50 : zn_word C Post 50 [(0, .ref (ad C.1 0)), (1, .int x1), (2, .int x2), (3, .int x3)] [.ref (ad C.1 0)] f g := k_Mo_word_50 X Post _ _ _ _ _ (s51 0 (Or.inl rfl))
  refine k_Mo_word_0 X Post (P_5 := fun r f' g' => r = inV x1 1 60 ∧ f' = f ∧ g' = g) _ _ _ _ _ ?_ ?_
  · exact c_in _ _ _ _ _ _ _ ⟨rfl, rfl, rfl⟩
  rintro r f1 g1 ⟨rfl, rfl, rfl⟩
  refine k_Mo_word_8 X Post (P_16 := fun r f' g' => r = inV x1 1 60 ∧ f' = f1 ∧ g' = g1) _ _ _ _ _ _ (fun _ => s50) (fun _ => ?_) ?_
  · exact c_in _ _ _ _ _ _ _ ⟨rfl, rfl, rfl⟩
  rintro hn r f2 g2 ⟨rfl, rfl, rfl⟩
  have hz := inV_nz hn
  have hx : Bd 60 x1 := by
    obtain ⟨q, hq60, eq⟩ := nI_of2 (x := x1) (M := 60) (n := 60) (by decide +kernel) (fun w => absurd (Int32.lt_of_lt_of_le w (show (0 : Int32) ≤ 1 by decide +kernel)) (Int32.not_lt.mpr hz.1)) hz.2
    exact ⟨q, eq, hq60⟩
  refine k_Mo_word_19 X Post _ _ _ _ _ _ (fun z => absurd z hn) (fun _ => ?_)
  refine k_Mo_word_27 X Post (P_27 := fun _ f' g' => f' = f2 ∧ g' = g2) _ _ _ _ _ _ ?_ ?_
  · exact c_isThere _ _ _ _ hT.2.2.2.1 hx _ ⟨rfl, rfl⟩
  rintro r f3 g3 ⟨rfl, rfl⟩
  refine k_Mo_word_30 X Post (P_36 := fun _ f' g' => f' = f3 ∧ g' = g3) _ _ _ _ _ _ (fun _ => s50) (fun _ => ?_) ?_
  · exact c_in _ _ _ _ _ _ _ ⟨rfl, rfl⟩
  rintro _ r f4 g4 ⟨rfl, rfl⟩
  exact k_Mo_word_39 X Post _ _ _ _ _ _ (fun _ => s50) (fun _ _ => s50) (fun _ z => s51 1 (Or.inr ⟨rfl, hn, z⟩))
-- marks: how many of the first k aren't set
def uc (h : Nat → Int32) : Nat → Nat
  | 0 => 0
  | j + 1 => uc h j + (if h j = 0 then 1 else 0)
theorem uc_out (h : Nat → Int32) (x : Nat) (v : Int32) : ∀ k, k ≤ x → uc (upd h x v) k = uc h k := by
  intro k
  induction k with
  | zero => intro _; rfl
  | succ k ih =>
    intro hk
    unfold uc
    rw [ih (by omega), show upd h x v k = h k from if_neg (by omega)]
theorem uc_lt (h : Nat → Int32) (x : Nat) (hx : h x = 0) : ∀ k, x < k → uc (upd h x 1) k + 1 = uc h k := by
  intro k
  induction k with
  | zero => intro hk; omega
  | succ k ih =>
    intro hk
    by_cases e : k = x
    · subst e
      unfold uc
      rw [uc_out h k 1 k (Nat.le_refl _), show upd h k 1 k = 1 from if_pos rfl, if_neg (by decide +kernel), if_pos hx]
    · have := ih (by omega)
      unfold uc
      rw [show upd h x 1 k = h k from if_neg e]
      omega
theorem nar1 : vp_nar .boolean 1 = 1 := rfl
theorem nar0 : vp_nar .boolean 0 = 0 := rfl
theorem GI_mark {g : GT} (h : GI g) (i : Nat) (v : Int32) (hv : v = 0 ∨ v = 1) : GI (va_up g 17 (upd (g 17) i v)) := GI_17 h (upd_all (P := fun z => z = 0 ∨ z = 1) h.2.2.2.2.2.2 hv)
theorem c_unmarkW (T : ST) (Z : ZT) (t : Nat) (f : FT) (g : GT) (hT : TI Z t f g) (Post : FT → GT → Prop) (hq : ∀ g', TI Z t f g' → (∀ j, j ≠ 17 → g' j = g j) → Post f g') : mV T y_Mo_unmark (Cond.code y_Mo_unmark b_Mo_unmark 2 none) 0 [.ref (ad T 0)] f g Post := by
  refine e_Mo_unmark T Post f g ?_
  rintro C rfl X
  have loop : ∀ j i g2, j + i = 61 → TI Z t f g2 → (∀ j, j ≠ 17 → g2 j = g j) → zn_unmark C Post 2 [(0, .ref (ad C.1 0)), (1, .int (nI i))] [] f g2 := by
    intro j
    induction j with
    | zero =>
      intro i g2 hj h2 hf
      have h61 : (61 : Int32) ≤ nI i := (nI_leI (a := 61) (b := i) (by decide) (by omega)).mpr (by omega)
      exact k_Mo_unmark_2 X Post _ _ _ (fun _ => hq _ h2 hf) (fun z => absurd h61 z) (fun z => absurd h61 z)
    | succ j ih =>
      intro i g2 hj h2 hf
      have h61 : ¬ (61 : Int32) ≤ nI i := fun z => absurd ((nI_leI (a := 61) (b := i) (by decide) (by omega)).mp z) (by omega)
      refine k_Mo_unmark_2 X Post _ _ _ (fun z => absurd z h61) (fun _ => vi_n (by omega) (by decide)) (fun _ => ?_)
      rw [nI_1]
      exact ih (i + 1) _ (by omega) (TI_g h2 (GI_mark h2.2.2.2.2.2.2.2 _ _ (Or.inl rfl))) (fun j hj => (up_other _ _ hj).trans (hf j hj))
  exact k_Mo_unmark_0 X Post _ _ (loop 61 0 g rfl hT (fun _ _ => rfl))
set_option maxHeartbeats 1000000 in
theorem c_spreadsW (T : ST) (Z : ZT) (t : Nat) (f : FT) (g : GT) (hT : TI Z t f g) (Post : Int32 → FT → GT → Prop) (hq : ∀ r g', TI Z t f g' → (∀ j, j ≠ 17 → g' j = g j) → Post r f g') : mI T y_Mo_spreads (Cond.code y_Mo_spreads b_Mo_spreads 7 (some .boolean)) 1 [.ref (ad T 0)] f g Post := by
  refine e_Mo_spreads T Post f g ?_
  rintro C rfl X
  obtain ⟨c, ec, hc⟩ := hT.2.2.2.1
  have stop : ∀ x1 g2, (x1 = 0 ∨ x1 = 1) → TI Z t f g2 → (∀ j, j ≠ 17 → g2 j = g j) → zn_spreads C Post 4 [(0, .ref (ad C.1 0)), (1, .int x1), (2, .int 0)] [] f g2 := fun x1 g2 h1 h2 hf => k_Mo_spreads_4 X Post _ _ _ _ (fun _ => hq _ _ h2 hf) (fun _ => nar01 h1) (fun z => absurd rfl z)
  have outer : ∀ U x1 g2, (x1 = 0 ∨ x1 = 1) → TI Z t f g2 → (∀ j, j ≠ 17 → g2 j = g j) → uc (g2 17) 61 < U → zn_spreads C Post 4 [(0, .ref (ad C.1 0)), (1, .int x1), (2, .int 1)] [] f g2 := by
    intro U
    induction U with
    | zero => intro x1 g2 _ _ _ h; omega
    | succ U ihU =>
      intro x1 g2 h1 h2 hf hu
      have mid : ∀ j q x1 x2 g2, j + q = 61 → (x1 = 0 ∨ x1 = 1) → TI Z t f g2 → (∀ j, j ≠ 17 → g2 j = g j) → uc (g2 17) 61 ≤ U → (x2 = 0 ∨ (x2 = 1 ∧ uc (g2 17) 61 < U)) → zn_spreads C Post 12 [(0, .ref (ad C.1 0)), (1, .int x1), (2, .int x2), (3, .int (nI q))] [] f g2 := by
        intro j
        induction j with
        | zero =>
          intro q x1 x2 g2 hj h1 h2 hf hu h3
          have h61 : (61 : Int32) ≤ nI q := (nI_leI (a := 61) (b := q) (by decide) (by omega)).mpr (by omega)
          refine k_Mo_spreads_12 X Post _ _ _ _ _ (fun _ => ?_) (fun z => absurd h61 z)
          rcases h3 with rfl | ⟨rfl, h3⟩
          · exact stop x1 g2 h1 h2 hf
          · exact ihU x1 g2 h1 h2 hf h3
        | succ j ih =>
          intro q x1 x2 g2 hj h1 h2 hf hu h3
          have h61 : ¬ (61 : Int32) ≤ nI q := fun z => absurd ((nI_leI (a := 61) (b := q) (by decide) (by omega)).mp z) (by omega)
          have eK := K61 (q := q) ec
          have hk : c * 61 + q < 610 := by omega
          have inner : ∀ j2 i x1 x2 g2, j2 + i = 7 → i ≤ 6 → (x1 = 0 ∨ x1 = 1) → TI Z t f g2 → (∀ j, j ≠ 17 → g2 j = g j) → uc (g2 17) 61 ≤ U → (x2 = 0 ∨ (x2 = 1 ∧ uc (g2 17) 61 < U)) → zn_spreads C Post 32 [(0, .ref (ad C.1 0)), (1, .int x1), (2, .int x2), (3, .int (nI q)), (4, .int (nI (c * 61 + q))), (5, .int (nI i))] [] f g2 := by
            intro j2
            induction j2 with
            | zero => intro i x1 x2 g2 hj2 hi; omega
            | succ j2 ih2 =>
              intro i x1 x2 g2 hj2 hi h1 h2 hf hu h3
              have hg := h2.2.2.2.2.2.2.2
              obtain ⟨m, em, hm⟩ := hg.2.1 (nI (c * 61 + q)).toNatClampNeg
              have s112 : zn_spreads C Post 112 [(0, .ref (ad C.1 0)), (1, .int x1), (2, .int x2), (3, .int (nI q)), (4, .int (nI (c * 61 + q))), (5, .int (nI i))] [] f g2 := by
                refine k_Mo_spreads_112 X Post _ _ _ _ _ _ _ ?_
                rw [nI_1]
                exact ih (q + 1) x1 x2 g2 (by omega) h1 h2 hf hu h3
              refine k_Mo_spreads_32 X Post (P_75 := fun _ f' g' => f' = f ∧ g' = g2) _ _ _ _ _ _ _ (vi_n hk (by decide)) (fun _ => s112) (fun _ => vi_n (by omega) (by decide)) (fun _ _ => s112) ?_ ?_ ?_
              · intro z _
                rw [em, nI_leI (by omega) (by omega)] at z
                rw [J42]; exact vi_n (by omega) (by decide)
              · intro z _
                rw [em, nI_leI (by omega) (by omega)] at z
                rw [J42]
                exact c_isThere _ _ _ _ h2.2.2.2.1 (hg.2.2.1 _ (by rw [nI_clamp (by omega)]; omega)) _ ⟨rfl, rfl⟩
              · rintro z _ r f3 g3 ⟨rfl, rfl⟩
                rw [em, nI_leI (by omega) (by omega)] at z
                rw [J42]
                obtain ⟨to, eto, hto⟩ := hg.2.2.1 (nI (((c * 61 + q) * 6 + i) * 4 + 2)).toNatClampNeg (by rw [nI_clamp (by omega)]; omega)
                rw [eto]
                have hv : vp_in (nI to) 61 := vi_n (by omega) (by decide)
                have go : ∀ x1 x2 g2, (x1 = 0 ∨ x1 = 1) → TI Z t f3 g2 → (∀ j, j ≠ 17 → g2 j = g j) → uc (g2 17) 61 ≤ U → (x2 = 0 ∨ (x2 = 1 ∧ uc (g2 17) 61 < U)) → zn_spreads C Post 106 [(0, .ref (ad C.1 0)), (1, .int x1), (2, .int x2), (3, .int (nI q)), (4, .int (nI (c * 61 + q))), (5, .int (nI i)), (6, .int (nI to))] [] f3 g2 := by
                  intro x1 x2 g2 h1 h2 hf hu h3
                  refine k_Mo_spreads_106 X Post _ _ _ _ _ _ _ _ ?_
                  rw [nI_1]
                  exact ih2 (i + 1) x1 x2 g2 (by omega) (by omega) h1 h2 hf hu h3
                refine k_Mo_spreads_78 X Post _ _ _ _ _ _ _ _ _ (fun _ => hv) (fun _ _ => go x1 x2 g3 h1 h2 hf hu h3) (fun _ _ => hv) (fun _ z2 => ?_) (fun _ => go 1 x2 g3 (Or.inr rfl) h2 hf hu h3)
                rw [nI_clamp (by omega)] at z2 ⊢
                have hlt := uc_lt (g3 17) to z2 61 (by omega)
                have e17 : va_up g3 17 (upd (g3 17) to (vp_nar .boolean 1)) 17 = upd (g3 17) to 1 := up_same _ _ _
                refine go x1 1 _ h1 (TI_g h2 (GI_mark hg _ _ (Or.inr rfl))) (fun j hj => (up_other _ _ hj).trans (hf j hj)) ?_ (Or.inr ⟨rfl, ?_⟩)
                · rw [e17]; omega
                · rw [e17]; omega
          refine k_Mo_spreads_12 X Post _ _ _ _ _ (fun z => absurd z h61) (fun _ => ?_)
          rw [eK]
          exact inner 7 0 x1 x2 g2 rfl (by decide) h1 h2 hf hu h3
      refine k_Mo_spreads_4 X Post _ _ _ _ (fun z => absurd z (by decide +kernel)) (fun z => absurd z (by decide +kernel)) (fun _ => ?_)
      exact mid 60 1 x1 0 g2 rfl h1 h2 hf (by omega) (Or.inl rfl)
  refine k_Mo_spreads_0 X Post _ _ ?_
  exact outer (uc (g 17) 61 + 1) 0 g (Or.inl rfl) hT (fun _ _ => rfl) (by omega)
