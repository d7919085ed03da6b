theorem K61 {f : FT} {q : Nat} {c : Nat} (ec : f 4 = nI c) : (f 4) * 61 + nI q = nI (c * 61 + q) := by rw [ec, show (61 : Int32) = nI 61 from rfl, pk_mul, nI_add]
theorem J4 (k i : Nat) : ((nI k * 6) + nI i) * 4 = nI ((k * 6 + i) * 4) := by rw [show (6 : Int32) = nI 6 from rfl, show (4 : Int32) = nI 4 from rfl, pk_mul, nI_add, pk_mul]
theorem J42 (k i : Nat) : ((nI k * 6) + nI i) * 4 + 2 = nI ((k * 6 + i) * 4 + 2) := by rw [J4, show (2 : Int32) = nI 2 from rfl, nI_add]
set_option maxHeartbeats 1000000 in
theorem c_answerW (T : ST) (x : Int32) (Z : ZT) (t : Nat) (f : FT) (g : GT) (hT : TI Z t f g) (Post : Int32 → FT → GT → Prop) (hq : ∀ r f' g', TI Z t f' g' → Post r f' g') : mI T y_Mo_answer (Cond.code y_Mo_answer b_Mo_answer 5 (some .int)) 2 [.ref (ad T 0), .int x] f g Post := by
  refine e_Mo_answer T Post x f g ?_
  rintro C rfl X
  obtain ⟨c, ec, hc⟩ := hT.2.2.2.1
  obtain ⟨w, ew, hw⟩ := hT.2.2.2.2.2.1
  have ek : (f 4) * 61 + f 10 = nI (c * 61 + w) := by rw [ew]; exact K61 ec
  have hk : c * 61 + w < 610 := by omega
  generalize c * 61 + w = k at ek hk
  have hv : vp_in (nI k) 610 := vi_n hk (by decide)
  obtain ⟨m, em, hm⟩ := hT.2.2.2.2.2.2.2.2.1 (nI k).toNatClampNeg
  -- behind the jump's place
  have s205 : ∀ i y f, i ≤ 5 → TI Z t f g → (y = 2 ∨ (y = 0 ∧ (¬ iT f g (g 8 (nI ((k * 6 + i) * 4 + 2)).toNatClampNeg) = 0 → ¬ f 12 = 40))) → zn_answer C Post 205 [(0, .ref (ad C.1 0)), (1, .int x), (2, .int (nI k)), (3, .int (nI i)), (4, .int (nI ((k * 6 + i) * 4)))] [.int y, .ref (ad C.1 0)] f g := by
    intro i y f hi hT hy
    have e2 : nI ((k * 6 + i) * 4) + 2 = nI ((k * 6 + i) * 4 + 2) := by rw [show (2 : Int32) = nI 2 from rfl, nI_add]
    have e3 : nI ((k * 6 + i) * 4) + 3 = nI ((k * 6 + i) * 4 + 3) := by rw [show (3 : Int32) = nI 3 from rfl, nI_add]
    obtain ⟨w, ew, hw⟩ := hT.2.2.2.2.2.1
    obtain ⟨n12, e12, h12⟩ := hT.2.2.2.2.2.2.1
    have hx := hT.2.2.2.2.2.2.2.2.2.1 (nI ((k * 6 + i) * 4 + 2)).toNatClampNeg (by rw [nI_clamp (by omega)]; omega)
    refine k_Mo_answer_205 X Post (P_255 := fun f' g' => TI Z t f' g') _ _ _ _ _ _ _ ?_ ?_ ?_ ?_ ?_ ?_
    · intro _; rw [ew]; exact vi_n (by omega) (by decide)
    · intro _; rw [e3]; exact vi_n (by omega) (by decide)
    · intro _; rw [e2]; exact vi_n (by omega) (by decide)
    · intro z
      rcases hy with hy | ⟨hy, h40⟩
      · rw [hy] at z; exact absurd z (by decide +kernel)
      rw [e2]
      have hT2 : TI Z t (va_up (va_up f 0 y) 11 ((f 11) + (g 8 (nI ((k * 6 + i) * 4) + 3 : Int32).toNatClampNeg))) (va_up g 16 (upd (g 16) (f 10 : Int32).toNatClampNeg x)) := TI_g (TI_f hT rfl rfl rfl rfl rfl rfl) (GI_free hT.2.2.2.2.2.2.2 (by decide) (by decide) (by decide) (by decide) (by decide) (by decide) (by decide))
      have h39 : ¬ iT (va_up (va_up f 0 y) 11 ((f 11) + (g 8 (nI ((k * 6 + i) * 4) + 3 : Int32).toNatClampNeg))) (va_up g 16 (upd (g 16) (f 10 : Int32).toNatClampNeg x)) (g 8 (nI ((k * 6 + i) * 4 + 2)).toNatClampNeg) = 0 → n12 < 40 := by
        intro z2
        have h41 := h40 z2
        rw [e12, show (40 : Int32) = nI 40 from rfl, nI_eq (by omega) (by decide)] at h41
        omega
      refine c_asks _ _ Z t _ _ hT2 hx (fun z2 => ⟨n12, e12, h39 z2⟩) _ ?_
      split
      · exact TI_asks0 hT2
      · rename_i z2
        exact TI_asks1 hT2 hx e12 (h39 z2) _
    · intro _ f2 g2 h2
      exact k_Mo_answer_258 X Post _ _ _ _ _ _ (hq _ _ _ h2)
    · intro _; exact hq _ _ _ (TI_0 hT _)
  have s164 : ∀ i f, i ≤ 5 → TI Z t f g → zn_answer C Post 164 [(0, .ref (ad C.1 0)), (1, .int x), (2, .int (nI k)), (3, .int (nI i))] [] f g := by
    intro i f hi hT
    have hx := hT.2.2.2.2.2.2.2.2.2.1 (nI ((k * 6 + i) * 4 + 2)).toNatClampNeg (by rw [nI_clamp (by omega)]; omega)
    refine k_Mo_answer_164 X Post (P_185 := fun r f' g' => r = iT f g (g 8 (nI ((k * 6 + i) * 4 + 2)).toNatClampNeg) ∧ f' = f ∧ g' = g) _ _ _ _ _ ?_ ?_ ?_
    · rw [J42]; exact vi_n (by omega) (by decide)
    · rw [J42]
      exact c_isThere _ _ f g hT.2.2.2.1 hx _ ⟨rfl, rfl, rfl⟩
    rintro r f2 g2 ⟨rfl, rfl, rfl⟩
    rw [J4]
    refine k_Mo_answer_188 X Post _ _ _ _ _ _ _ ?_ ?_ ?_
    · intro z
      exact k_Mo_answer_204 X Post _ _ _ _ _ _ (s205 i 0 _ hi hT (Or.inr ⟨rfl, fun z2 => absurd z z2⟩))
    · intro z z2
      exact k_Mo_answer_204 X Post _ _ _ _ _ _ (s205 i 0 _ hi hT (Or.inr ⟨rfl, fun _ => z2⟩))
    · intro z z2
      exact s205 i 2 _ hi hT (Or.inl rfl)
  have s106 : ∀ j i f, j + i = 6 → i ≤ 5 → TI Z t f g → zn_answer C Post 106 [(0, .ref (ad C.1 0)), (1, .int x), (2, .int (nI k)), (3, .int (nI i))] [] f g := by
    intro j
    induction j with
    | zero => intro i f hj hi; omega
    | succ j ih =>
      intro i f hj hi hT
      have stop : ¬ g 7 (nI k).toNatClampNeg - 1 ≤ nI i → i < 5 := by
        intro z
        rw [em] at z
        cases m with
        | zero => exact absurd (show nI 0 - 1 ≤ nI i from Int32.le_trans (show nI 0 - 1 ≤ 0 by decide +kernel) (nI_pos' (by omega))) z
        | succ m => rw [nI_pred, nI_leI (by omega) (by omega)] at z; omega
      refine k_Mo_answer_106 X Post (P_152 := fun _ f' g' => f' = f ∧ g' = g) _ _ _ _ _ hv ?_ ?_ ?_ ?_ ?_ ?_
      · intro _; exact s164 i f hi hT
      · intro z _
        refine k_Mo_answer_158 X Post _ _ _ _ _ ?_
        rw [nI_1]
        exact ih (i + 1) f (by omega) (by have := stop z; omega) hT
      · intro _ _; rw [J4]; exact vi_n (by omega) (by decide)
      · intro _ _; rw [J4, nI_1]; exact vi_n (by omega) (by decide)
      · intro _ _; exact c_in _ _ _ _ _ _ _ ⟨rfl, rfl⟩
      · rintro z _ r f2 g2 ⟨rfl, rfl⟩
        refine k_Mo_answer_155 X Post _ _ _ _ _ _ ?_ ?_
        · intro _; exact s164 i _ hi hT
        · intro _
          refine k_Mo_answer_158 X Post _ _ _ _ _ ?_
          rw [nI_1]
          exact ih (i + 1) _ (by omega) (by have := stop z; omega) hT
  have s92 : ∀ y f, TI Z t f g → zn_answer C Post 92 [(0, .ref (ad C.1 0)), (1, .int x), (2, .int (nI k))] [.int y, .ref (ad C.1 0)] f g := by
    intro y f hT
    exact k_Mo_answer_92 X Post _ _ _ _ _ (fun _ => s106 6 0 _ rfl (by decide) (TI_0 hT _)) (fun _ => hq _ _ _ (TI_0 hT _))
  have s20 : ∀ y, zn_answer C Post 20 [(0, .ref (ad C.1 0)), (1, .int x)] [.int y, .ref (ad C.1 0)] f g := by
    intro y
    refine k_Mo_answer_20 X Post (P_81 := fun _ f' g' => TI Z t f' g' ∧ g' = g) _ _ _ _ ?_ ?_ ?_ ?_ ?_ ?_ ?_ ?_
    · intro _ _; rw [ek]; exact hv
    · intro _ _; rw [ek]; exact hv
    · intro _ _; exact c_in _ _ _ _ _ _ _ ⟨TI_0 hT _, rfl⟩
    · rintro _ _ r f2 g2 ⟨h2, rfl⟩
      rw [ek]
      exact k_Mo_answer_84 X Post _ _ _ _ _ (fun _ => s92 1 _ h2) (fun _ => s92 0 _ h2)
    · intro _ _; rw [ek]; exact hv
    · intro _ _ _; rw [ek]; exact s92 0 _ (TI_0 hT _)
    · intro _ _ _; rw [ek]; exact s92 1 _ (TI_0 hT _)
    · intro _; exact hq _ _ _ (TI_0 hT _)
  refine k_Mo_answer_0 X Post _ _ _ ?_ ?_ ?_
  · intro _; exact k_Mo_answer_15 X Post _ _ _ (s20 2)
  · intro _ _; exact s20 0
  · intro _ _; exact k_Mo_answer_15 X Post _ _ _ (s20 2)
theorem c_holdsW (T : ST) (s : Nat) (f : FT) (g : GT) (hg : GI g) (hs : s + 2 < 8400) (hm : s % 14 = 2 ∨ s % 14 = 5 ∨ s % 14 = 8 ∨ s % 14 = 11) (Post : Int32 → FT → GT → Prop) (hq : ∀ r, Post r f g) : mI T y_Mo_holds (Cond.code y_Mo_holds b_Mo_holds 4 (some .boolean)) 0 [.ref (ad T 0), .int (nI s)] f g Post := by
  refine e_Mo_holds T Post _ f g ?_
  rintro C rfl X
  have b0 : vp_in (nI s) 8400 := vi_n (by omega) (by decide)
  have b1 : vp_in (nI s + 1) 8400 := by rw [nI_1]; exact vi_n (by omega) (by decide)
  have b2 : vp_in (nI s + 2) 8400 := by rw [show (2 : Int32) = nI 2 from rfl, nI_add]; exact vi_n (by omega) (by decide)
  obtain ⟨a, ea, ha⟩ := (hg.2.2.2.2.2.1 (nI s).toNatClampNeg).2 (by rw [nI_clamp (by omega)]; exact hm)
  have s121 : ∀ x2 x3 y, (y = 0 ∨ y = 1) → zn_holds C Post 121 [(0, .ref (ad C.1 0)), (1, .int (nI s)), (2, .int x2), (3, .int x3)] [.int y] f g := fun x2 x3 y hy => k_Mo_holds_121 X Post _ _ _ _ _ _ (hq y) (nar01 hy)
  have s43 : ∀ x2, zn_holds C Post 43 [(0, .ref (ad C.1 0)), (1, .int (nI s)), (2, .int x2)] [] f g := by
    intro x2
    refine k_Mo_holds_43 X Post _ _ _ _ b1 ?_ ?_ ?_ ?_ ?_ ?_ ?_ ?_ ?_
    · intro _ _; exact b2
    · intro _ _ _; exact s121 _ _ 0 (Or.inl rfl)
    · intro _ _ _; exact s121 _ _ 1 (Or.inr rfl)
    · intro _ _; exact b2
    · intro _ _ _; exact s121 _ _ 0 (Or.inl rfl)
    · intro _ _ _; exact s121 _ _ 1 (Or.inr rfl)
    · intro _; exact b2
    · intro _ _; exact s121 _ _ 0 (Or.inl rfl)
    · intro _ _; exact s121 _ _ 1 (Or.inr rfl)
  have s27 : ∀ y, zn_holds C Post 27 [(0, .ref (ad C.1 0)), (1, .int (nI s))] [.int y] f g := by
    intro y
    exact k_Mo_holds_27 X Post _ _ _ _ b0 (fun _ => s43 _) (fun _ _ => s43 _) (fun _ _ => hq _)
  refine k_Mo_holds_0 X Post _ _ _ b0 (fun _ => b0) (fun _ => ?_) (fun _ => s27 _) (fun _ => s27 _)
  rw [ea]; exact vi_n (by omega) (by decide)
theorem c_priorityW (T : ST) (Z : ZT) (t : Nat) (f : FT) (g : GT) (hT : TI Z t f g) (Post : Int32 → FT → GT → Prop) (hq : ∀ r f', TI Z t f' g → Post r f' g) : mI T y_Mo_priority (Cond.code y_Mo_priority b_Mo_priority 6 (some .int)) 1 [.ref (ad T 0)] f g Post := by
  refine e_Mo_priority T Post f g ?_
  rintro C rfl X
  obtain ⟨c, ec, hc⟩ := hT.2.2.2.1
  obtain ⟨w, ew, hw⟩ := hT.2.2.2.2.1
  have hg := hT.2.2.2.2.2.2.2
  have ek : (f 4) * 10 + f 9 = nI (c * 10 + w) := by rw [ec, ew, show (10 : Int32) = nI 10 from rfl, pk_mul, nI_add]
  have hk : c * 10 + w < 100 := by omega
  generalize c * 10 + w = k at ek hk
  have hv : vp_in (nI k) 100 := vi_n hk (by decide)
  obtain ⟨m, em, hm⟩ := hg.2.2.2.2.1 (nI k).toNatClampNeg
  have s40 : ∀ j i f, j + i = 7 → i ≤ 6 → TI Z t f g → zn_priority C Post 40 [(0, .ref (ad C.1 0)), (1, .int (nI k)), (2, .int (nI i))] [] f g := by
    intro j
    induction j with
    | zero => intro i f hj hi; omega
    | succ j ih =>
      intro i f hj hi hT
      refine k_Mo_priority_40 X Post _ _ _ _ hv (fun _ => hv) (fun _ => hq _ _ hT) ?_
      intro z
      rw [em, nI_leI (by omega) (by omega)] at z
      have hi5 : i < 6 := by omega
      have eJ : ((nI k * 6) + nI i) * 14 = nI ((k * 6 + i) * 14) := by rw [show (6 : Int32) = nI 6 from rfl, show (14 : Int32) = nI 14 from rfl, pk_mul, nI_add, pk_mul]
      have eJ1 : nI ((k * 6 + i) * 14) + 1 = nI ((k * 6 + i) * 14 + 1) := nI_1 _
      obtain ⟨a, ea, ha⟩ := (hg.2.2.2.2.2.1 (nI ((k * 6 + i) * 14 + 1)).toNatClampNeg).1 (by rw [nI_clamp (by omega)]; omega)
      rw [eJ]
      have s66 : ∀ j2 u x4, j2 + u = 5 → u ≤ 4 → zn_priority C Post 66 [(0, .ref (ad C.1 0)), (1, .int (nI k)), (2, .int (nI i)), (3, .int (nI ((k * 6 + i) * 14))), (4, .int x4), (5, .int (nI u))] [] f g := by
        intro j2
        induction j2 with
        | zero => intro u x4 hj2 hu; omega
        | succ j2 ih2 =>
          intro u x4 hj2 hu
          have lim : ¬ g 12 (nI ((k * 6 + i) * 14) + 1 : Int32).toNatClampNeg ≤ nI u → u < 4 := by
            intro z
            rw [eJ1, ea, nI_leI (by omega) (by omega)] at z
            omega
          have s104 : (u < 4) → ∀ y, zn_priority C Post 104 [(0, .ref (ad C.1 0)), (1, .int (nI k)), (2, .int (nI i)), (3, .int (nI ((k * 6 + i) * 14))), (4, .int x4), (5, .int (nI u))] [.int y] f g := by
            intro hu4 y
            refine k_Mo_priority_104 X Post _ _ _ _ _ _ _ _ ?_
            rw [nI_1]
            exact ih2 (u + 1) y (by omega) (by omega)
          refine k_Mo_priority_66 X Post (P_93 := fun _ f' g' => f' = f ∧ g' = g) _ _ _ _ _ _ _ ?_ ?_ ?_ ?_ ?_ ?_ ?_
          · rw [eJ1]; exact vi_n (by omega) (by decide)
          · intro _ _
            rw [nI_1]
            exact ih (i + 1) f (by omega) (by omega) hT
          · intro _ _; exact vi_n (by omega) (by decide)
          · intro _ _; exact hq _ _ hT
          · intro z _
            exact k_Mo_priority_103 X Post _ _ _ _ _ _ _ (s104 (lim z) 0)
          · intro z _
            have hu4 := lim z
            rw [show nI ((k * 6 + i) * 14) + 2 + 3 * nI u = nI ((k * 6 + i) * 14 + 2 + 3 * u) by rw [show (2 : Int32) = nI 2 from rfl, show (3 : Int32) = nI 3 from rfl, pk_mul, nI_add, nI_add]]
            have hmod : ((k * 6 + i) * 14 + 2 + 3 * u) % 14 = 2 ∨ ((k * 6 + i) * 14 + 2 + 3 * u) % 14 = 5 ∨ ((k * 6 + i) * 14 + 2 + 3 * u) % 14 = 8 ∨ ((k * 6 + i) * 14 + 2 + 3 * u) % 14 = 11 := by
              rcases (show u = 0 ∨ u = 1 ∨ u = 2 ∨ u = 3 by omega) with h | h | h | h <;> (subst h; omega)
            exact c_holdsW _ _ f g hg (by omega) hmod _ (fun _ => ⟨rfl, rfl⟩)
          · rintro z _ r f2 g2 ⟨rfl, rfl⟩
            refine k_Mo_priority_96 X Post _ _ _ _ _ _ _ _ ?_ ?_
            · intro _; exact k_Mo_priority_103 X Post _ _ _ _ _ _ _ (s104 (lim z) 0)
            · intro _; exact s104 (lim z) 1
      exact s66 5 0 1 rfl (by decide)
  have s13 : ∀ y, zn_priority C Post 13 [(0, .ref (ad C.1 0))] [.int y, .ref (ad C.1 0)] f g := by
    intro y
    refine k_Mo_priority_13 X Post _ _ _ (fun _ => ?_) (fun _ => hq _ _ (TI_0 hT _))
    rw [ek]
    exact s40 7 0 _ rfl (by decide) (TI_0 hT _)
  exact k_Mo_priority_0 X Post _ _ (fun _ => s13 _) (fun _ => s13 _)
