theorem K61 {f : FT} {q : Nat} {c : Nat} (ec : f 4 = nI c) : (f 4) * 61 + nI q = nI (c * 61 + q) := by rw [ec, show (61 : Int32) = nI 61 from rfl, pk_mul, nI_add]
theorem J4 (k i : Nat) : ((nI k * 6) + nI i) * 4 = nI ((k * 6 + i) * 4) := by rw [show (6 : Int32) = nI 6 from rfl, show (4 : Int32) = nI 4 from rfl, pk_mul, nI_add, pk_mul]
theorem J42 (k i : Nat) : ((nI k * 6) + nI i) * 4 + 2 = nI ((k * 6 + i) * 4 + 2) := by rw [J4, show (2 : Int32) = nI 2 from rfl, nI_add]
-- answer, exactly
def abad (g : GT) (K : Nat) (x : Int32) : Prop := if x = -1 then ¬ g 2 K = 0 else inV x (g 3 K) (g 4 K) = 0
def ajL (g : GT) (K : Nat) (x : Int32) : Nat → Nat → Nat
  | 0, i => i
  | j + 1, i => if g 7 K - 1 ≤ nI i then i else if x = -1 ∨ inV x (g 8 ((K * 6 + i) * 4)) (g 8 ((K * 6 + i) * 4 + 1)) = 0 then ajL g K x j (i + 1) else i
def aJ (g : GT) (K : Nat) (x : Int32) : Nat := (K * 6 + ajL g K x 6 0) * 4
def aK (Z : ZT) (t : Nat) (f : FT) (g : GT) (J w : Nat) (x : Int32) (f' : FT) (g' : GT) : Prop := BT t f' g' ∧ FZ Z f' g' ∧ f' 10 = (if iZ Z (g 8 (J + 2)) = 0 then 0 else g 8 (J + 2)) ∧ f' 11 = f 11 + g 8 (J + 3) ∧ f' 12 = (if iZ Z (g 8 (J + 2)) = 0 then f 12 else f 12 + 1) ∧ (∀ j, g' 15 j = if iZ Z (g 8 (J + 2)) = 0 then g 15 j else upd (g 15) (f 12).toNatClampNeg (g 8 (J + 2)) j) ∧ g' 16 = upd (g 16) w x ∧ f' 0 = 0
set_option maxHeartbeats 1000000 in
theorem c_answerX (T : ST) (x : Int32) (Z : ZT) (t : Nat) (f : FT) (g : GT) (hT : TI Z t f g) (c w : Nat) (ec : f 4 = nI c) (hc : c ≤ 8) (ew : f 10 = nI w) (hw : w ≤ 60) (Post : Int32 → FT → GT → Prop) (h2 : (f 9 = 0 ∨ f 10 = 0) → ∀ f', TI Z t f' g → f' 0 = 2 → Post 0 f' g) (h1 : ¬ f 9 = 0 → ¬ f 10 = 0 → abad g (c * 61 + w) x → ∀ f', TI Z t f' g → f' 0 = 1 → Post 0 f' g) (h40 : ¬ f 9 = 0 → ¬ f 10 = 0 → ¬ abad g (c * 61 + w) x → ¬ iZ Z (g 8 (aJ g (c * 61 + w) x + 2)) = 0 → f 12 = 40 → ∀ f', TI Z t f' g → f' 0 = 2 → Post 0 f' g) (h0 : ¬ f 9 = 0 → ¬ f 10 = 0 → ¬ abad g (c * 61 + w) x → (¬ iZ Z (g 8 (aJ g (c * 61 + w) x + 2)) = 0 → ¬ f 12 = 40) → ∀ f' g', aK Z t f g (aJ g (c * 61 + w) x) w x f' g' → Post (f' 10) f' g') : mI T y_Mo_answer (Cond.code y_Mo_answer b_Mo_answer 5 (some .int)) 2 [.ref (ad T 0), .int x] f g Post := by
  refine e_Mo_answer T Post x f g ?_
  rintro C rfl X
  have ek : (f 4) * 61 + f 10 = nI (c * 61 + w) := by rw [ew]; exact K61 ec
  have hk : c * 61 + w < 610 := by omega
  generalize c * 61 + w = k at ek hk h1 h40 h0
  have hv : vp_in (nI k) 610 := vi_n hk (by decide)
  have hkc : (nI k).toNatClampNeg = k := nI_clamp (by omega)
  obtain ⟨m, em, hm⟩ := hT.2.2.2.2.2.2.2.2.1 k
  have s205 : ¬ f 9 = 0 → ¬ f 10 = 0 → ¬ abad g k x → ∀ i y f1, i ≤ 5 → i = ajL g k x 6 0 → TI Z t f1 g → ((y = 2 ∧ ¬ iZ Z (g 8 ((k * 6 + i) * 4 + 2)) = 0 ∧ f 12 = 40) ∨ (y = 0 ∧ (¬ iZ Z (g 8 ((k * 6 + i) * 4 + 2)) = 0 → ¬ f 12 = 40))) → zn_answer C Post 205 [(0, .ref (ad C.1 0)), (1, .int x), (2, .int (nI k)), (3, .int (nI i)), (4, .int (nI ((k * 6 + i) * 4)))] [.int y, .ref (ad C.1 0)] f1 g := by
    intro hn9 hn10 hnb i y f1 hi ei hT1 hy
    have e2 : nI ((k * 6 + i) * 4) + 2 = nI ((k * 6 + i) * 4 + 2) := by rw [show (2 : Int32) = nI 2 from rfl, nI_add]
    have e3 : nI ((k * 6 + i) * 4) + 3 = nI ((k * 6 + i) * 4 + 3) := by rw [show (3 : Int32) = nI 3 from rfl, nI_add]
    have c2 : (nI ((k * 6 + i) * 4 + 2)).toNatClampNeg = (k * 6 + i) * 4 + 2 := nI_clamp (by omega)
    have c3 : (nI ((k * 6 + i) * 4 + 3)).toNatClampNeg = (k * 6 + i) * 4 + 3 := nI_clamp (by omega)
    have f10 : f1 10 = f 10 := hT1.2.2.2.2.2.1.2.1.trans hT.2.2.2.2.2.1.2.1.symm
    have f11 : f1 11 = f 11 := hT1.2.2.2.2.2.1.2.2.1.trans hT.2.2.2.2.2.1.2.2.1.symm
    have f12 : f1 12 = f 12 := hT1.2.2.2.2.2.1.2.2.2.1.trans hT.2.2.2.2.2.1.2.2.2.1.symm
    obtain ⟨n12, e12, h12⟩ := hT1.2.2.2.2.2.2.1
    have hx := hT1.2.2.2.2.2.2.2.2.2.1 ((k * 6 + i) * 4 + 2) (by omega)
    have eA : aJ g k x = (k * 6 + i) * 4 := by unfold aJ; rw [← ei]
    refine k_Mo_answer_205 X Post (P_255 := aK Z t f g (aJ g k x) w x) _ _ _ _ _ _ _ ?_ ?_ ?_ ?_ ?_ ?_
    · intro _; rw [f10, ew]; exact vi_n (by omega) (by decide)
    · intro _; rw [e3]; exact vi_n (by omega) (by decide)
    · intro _; rw [e2]; exact vi_n (by omega) (by decide)
    · intro z
      rcases hy with ⟨hy, -⟩ | ⟨hy, h41⟩
      · rw [hy] at z; exact absurd z (by decide +kernel)
      rw [e2, c2]
      have hB : BT t (va_up (va_up f1 0 y) 11 ((f1 11) + (g 8 (nI ((k * 6 + i) * 4) + 3 : Int32).toNatClampNeg))) (va_up g 16 (upd (g 16) (f1 10 : Int32).toNatClampNeg x)) := ⟨hT1.1.1, hT1.2.1, hT1.2.2.1, hT1.2.2.2.1, hT1.2.2.2.2.1, hT1.2.2.2.2.2.1.1, hT1.2.2.2.2.2.2.1, GI_free hT1.2.2.2.2.2.2.2 (by decide) (by decide) (by decide) (by decide) (by decide) (by decide) (by decide)⟩
      have hF : FZ Z (va_up (va_up f1 0 y) 11 ((f1 11) + (g 8 (nI ((k * 6 + i) * 4) + 3 : Int32).toNatClampNeg))) (va_up g 16 (upd (g 16) (f1 10 : Int32).toNatClampNeg x)) := ⟨hT1.1.2.1, hT1.1.2.2.1, hT1.1.2.2.2.1, fun j hj => (up_other _ _ (by omega)).trans (hT1.1.2.2.2.2 j hj)⟩
      have h39 : ¬ iZ Z (g 8 ((k * 6 + i) * 4 + 2)) = 0 → n12 < 40 := by
        intro z2
        have h42 := h41 z2
        rw [← f12, e12, show (40 : Int32) = nI 40 from rfl, nI_eq (by omega) (by decide)] at h42
        omega
      refine c_asks _ _ (zOf _ _) t _ _ hB.ti hx (fun z2 => ⟨n12, e12, h39 (by rw [← FZ_iT hF]; exact z2)⟩) _ ?_
      rw [FZ_iT hF, eA]
      have e11 : f1 11 + g 8 (nI ((k * 6 + i) * 4) + 3 : Int32).toNatClampNeg = f 11 + g 8 ((k * 6 + i) * 4 + 3) := by rw [f11, e3, c3]
      have e16 : upd (g 16) (f1 10 : Int32).toNatClampNeg x = upd (g 16) w x := by rw [f10, ew, nI_clamp (by omega)]
      split
      · rename_i z2
        exact ⟨BT_asks0 hB, hF, (if_pos z2).symm, e11, f12.trans (if_pos z2).symm, fun j => (if_pos z2).symm, e16, hy⟩
      · rename_i z2
        refine ⟨BT_asks1 hB hx e12 (h39 z2) _, ⟨hF.1, hF.2.1, hF.2.2.1, fun j hj => (up_other _ _ (by omega)).trans (hF.2.2.2 j hj)⟩, (if_neg z2).symm, e11, ?_, fun j => ?_, e16, hy⟩
        · rw [if_neg z2]
          show f1 12 + 1 = f 12 + 1
          rw [f12]
        · rw [if_neg z2]
          show upd (g 15) (f1 12).toNatClampNeg _ j = _
          rw [f12]
    · intro _ f2 g2 h3
      refine k_Mo_answer_258 X Post _ _ _ _ _ _ ?_
      rcases hy with ⟨hy, z2, z40⟩ | ⟨hy, h41⟩
      · rename_i z; rw [hy] at z; exact absurd z (by decide +kernel)
      · exact h0 hn9 hn10 hnb (by rw [eA]; exact h41) _ _ h3
    · intro z
      rcases hy with ⟨hy, z2, z40⟩ | ⟨hy, h41⟩
      · exact h40 hn9 hn10 hnb (by rw [eA]; exact z2) z40 _ (TI_0 hT1 _) hy
      · rw [hy] at z; exact absurd (by decide +kernel) z
  have s164 : ¬ f 9 = 0 → ¬ f 10 = 0 → ¬ abad g k x → ∀ i f1, i ≤ 5 → i = ajL g k x 6 0 → TI Z t f1 g → zn_answer C Post 164 [(0, .ref (ad C.1 0)), (1, .int x), (2, .int (nI k)), (3, .int (nI i))] [] f1 g := by
    intro hn9 hn10 hnb i f1 hi ei hT1
    have c2 : (nI ((k * 6 + i) * 4 + 2)).toNatClampNeg = (k * 6 + i) * 4 + 2 := nI_clamp (by omega)
    have hx := hT1.2.2.2.2.2.2.2.2.2.1 ((k * 6 + i) * 4 + 2) (by omega)
    have f12 : f1 12 = f 12 := hT1.2.2.2.2.2.1.2.2.2.1.trans hT.2.2.2.2.2.1.2.2.2.1.symm
    refine k_Mo_answer_164 X Post (P_185 := fun r f' g' => r = iZ Z (g 8 ((k * 6 + i) * 4 + 2)) ∧ f' = f1 ∧ g' = g) _ _ _ _ _ ?_ ?_ ?_
    · rw [J42]; exact vi_n (by omega) (by decide)
    · rw [J42, c2]
      exact c_isThere _ _ f1 g hT1.2.2.2.1 hx _ ⟨FZ_iT hT1.1.2 _, rfl, rfl⟩
    rintro r f2 g2 ⟨rfl, rfl, rfl⟩
    rw [J4]
    refine k_Mo_answer_188 X Post _ _ _ _ _ _ _ ?_ ?_ ?_
    · intro z
      exact k_Mo_answer_204 X Post _ _ _ _ _ _ (s205 hn9 hn10 hnb i 0 _ hi ei hT1 (Or.inr ⟨rfl, fun z2 => absurd z z2⟩))
    · intro z z2
      exact k_Mo_answer_204 X Post _ _ _ _ _ _ (s205 hn9 hn10 hnb i 0 _ hi ei hT1 (Or.inr ⟨rfl, fun _ => by rw [← f12]; exact z2⟩))
    · intro z z2
      exact s205 hn9 hn10 hnb i 2 _ hi ei hT1 (Or.inl ⟨rfl, z, f12.symm.trans z2⟩)
  have s106 : ¬ f 9 = 0 → ¬ f 10 = 0 → ¬ abad g k x → ∀ j i f1, j + i = 6 → i ≤ 5 → ajL g k x j i = ajL g k x 6 0 → TI Z t f1 g → zn_answer C Post 106 [(0, .ref (ad C.1 0)), (1, .int x), (2, .int (nI k)), (3, .int (nI i))] [] f1 g := by
    intro hn9 hn10 hnb j
    induction j with
    | zero => intro i f1 hj hi; omega
    | succ j ih =>
      intro i f1 hj hi ea hT1
      have stop : ¬ g 7 k - 1 ≤ nI i → i < 5 := by
        intro z
        rw [em] at z
        cases m with
        | zero => exact absurd (show nI 0 - 1 ≤ nI i from Int32.le_trans (show nI 0 - 1 ≤ 0 by decide +kernel) (nI_pos' (by omega))) z
        | succ m => rw [nI_pred, nI_leI (by omega) (by omega)] at z; omega
      have cJ : (nI ((k * 6 + i) * 4)).toNatClampNeg = (k * 6 + i) * 4 := nI_clamp (by omega)
      have cJ1 : (nI ((k * 6 + i) * 4 + 1)).toNatClampNeg = (k * 6 + i) * 4 + 1 := nI_clamp (by omega)
      unfold ajL at ea
      have next : ¬ g 7 k - 1 ≤ nI i → (x = -1 ∨ inV x (g 8 ((k * 6 + i) * 4)) (g 8 ((k * 6 + i) * 4 + 1)) = 0) → zn_answer C Post 158 [(0, .ref (ad C.1 0)), (1, .int x), (2, .int (nI k)), (3, .int (nI i))] [] f1 g := by
        intro z z2
        rw [if_neg z, if_pos z2] at ea
        refine k_Mo_answer_158 X Post _ _ _ _ _ ?_
        rw [nI_1]
        exact ih (i + 1) f1 (by omega) (by have := stop z; omega) ea hT1
      refine k_Mo_answer_106 X Post (P_152 := fun r f' g' => r = inV x (g 8 ((k * 6 + i) * 4)) (g 8 ((k * 6 + i) * 4 + 1)) ∧ f' = f1 ∧ g' = g) _ _ _ _ _ hv ?_ ?_ ?_ ?_ ?_ ?_
      · intro z
        rw [hkc] at z
        rw [if_pos z] at ea
        exact s164 hn9 hn10 hnb i f1 hi ea hT1
      · intro z z2
        rw [hkc] at z
        exact next z (Or.inl z2)
      · intro _ _; rw [J4]; exact vi_n (by omega) (by decide)
      · intro _ _; rw [J4, nI_1]; exact vi_n (by omega) (by decide)
      · intro _ _
        rw [J4, nI_1, cJ, cJ1]
        exact c_in _ _ _ _ _ _ _ ⟨rfl, rfl, rfl⟩
      · rintro z z2 r f2 g2 ⟨rfl, rfl, rfl⟩
        rw [hkc] at z
        refine k_Mo_answer_155 X Post _ _ _ _ _ _ ?_ ?_
        · intro z3
          rw [if_neg z, if_neg (fun q => q.elim z2 z3)] at ea
          exact s164 hn9 hn10 hnb i _ hi ea hT1
        · intro z3; exact next z (Or.inr z3)
  have s92 : ¬ f 9 = 0 → ¬ f 10 = 0 → ∀ y f1, ((y = 0 ∧ ¬ abad g k x) ∨ (y = 1 ∧ abad g k x)) → TI Z t f1 g → zn_answer C Post 92 [(0, .ref (ad C.1 0)), (1, .int x), (2, .int (nI k))] [.int y, .ref (ad C.1 0)] f1 g := by
    intro hn9 hn10 y f1 hy hT1
    refine k_Mo_answer_92 X Post _ _ _ _ _ (fun z => ?_) (fun z => ?_)
    · rcases hy with ⟨hy, hb⟩ | ⟨hy, hb⟩
      · exact s106 hn9 hn10 hb 6 0 _ rfl (by decide) rfl (TI_0 hT1 _)
      · rw [hy] at z; exact absurd z (by decide +kernel)
    · rcases hy with ⟨hy, hb⟩ | ⟨hy, hb⟩
      · rw [hy] at z; exact absurd (by decide +kernel) z
      · exact h1 hn9 hn10 hb _ (TI_0 hT1 _) hy
  have s20 : ∀ y, ((y = 2 ∧ (f 9 = 0 ∨ f 10 = 0)) ∨ (y = 0 ∧ ¬ f 9 = 0 ∧ ¬ f 10 = 0)) → zn_answer C Post 20 [(0, .ref (ad C.1 0)), (1, .int x)] [.int y, .ref (ad C.1 0)] f g := by
    intro y hy
    have ab : abad g k x ↔ if x = -1 then ¬ g 2 k = 0 else inV x (g 3 k) (g 4 k) = 0 := Iff.rfl
    have yz : y ≤ 0 → ¬ f 9 = 0 ∧ ¬ f 10 = 0 := by
      intro z
      rcases hy with ⟨hy, -⟩ | ⟨-, hy⟩
      · rw [hy] at z; exact absurd z (by decide +kernel)
      · exact hy
    refine k_Mo_answer_20 X Post (P_81 := fun r f' g' => r = inV x (g 3 k) (g 4 k) ∧ TI Z t f' g ∧ g' = g) _ _ _ _ ?_ ?_ ?_ ?_ ?_ ?_ ?_ ?_
    · intro _ _; rw [ek]; exact hv
    · intro _ _; rw [ek]; exact hv
    · intro _ _
      rw [ek, hkc]
      exact c_in _ _ _ _ _ _ _ ⟨rfl, TI_0 hT _, rfl⟩
    · rintro z1 z2 r f2 g2 ⟨rfl, h3, rfl⟩
      rw [ek]
      rw [if_neg z2] at ab
      exact k_Mo_answer_84 X Post _ _ _ _ _ (fun z => s92 (yz z1).1 (yz z1).2 1 _ (Or.inr ⟨rfl, ab.mpr z⟩) h3) (fun z => s92 (yz z1).1 (yz z1).2 0 _ (Or.inl ⟨rfl, fun q => z (ab.mp q)⟩) h3)
    · intro _ _; rw [ek]; exact hv
    · intro z1 z2 z3
      rw [ek, hkc] at z3
      rw [ek]
      rw [if_pos z2] at ab
      exact s92 (yz z1).1 (yz z1).2 0 _ (Or.inl ⟨rfl, fun q => ab.mp q z3⟩) (TI_0 hT _)
    · intro z1 z2 z3
      rw [ek, hkc] at z3
      rw [ek]
      rw [if_pos z2] at ab
      exact s92 (yz z1).1 (yz z1).2 1 _ (Or.inr ⟨rfl, ab.mpr z3⟩) (TI_0 hT _)
    · intro z
      rcases hy with ⟨hy, hb⟩ | ⟨hy, -⟩
      · exact h2 hb _ (TI_0 hT _) hy
      · rw [hy] at z; exact absurd (by decide +kernel) z
  refine k_Mo_answer_0 X Post _ _ _ ?_ ?_ ?_
  · intro z; exact k_Mo_answer_15 X Post _ _ _ (s20 2 (Or.inl ⟨rfl, Or.inl z⟩))
  · intro z z2; exact s20 0 (Or.inr ⟨rfl, z, z2⟩)
  · intro z z2; exact k_Mo_answer_15 X Post _ _ _ (s20 2 (Or.inl ⟨rfl, Or.inr z2⟩))
theorem c_holdsW (T : ST) (s : Nat) (f : FT) (g : GT) (hg : GI g) (hs : s + 2 < 8400) (hm : s % 14 = 2 ∨ s % 14 = 5 ∨ s % 14 = 8 ∨ s % 14 = 11) (Post : Int32 → FT → GT → Prop) (hq : ∀ r, Post r f g) : mI T y_Mo_holds (Cond.code y_Mo_holds b_Mo_holds 4 (some .boolean)) 0 [.ref (ad T 0), .int (nI s)] f g Post := by
  refine e_Mo_holds T Post _ f g ?_
  rintro C rfl X
  have b0 : vp_in (nI s) 8400 := vi_n (by omega) (by decide)
  have b1 : vp_in (nI s + 1) 8400 := by rw [nI_1]; exact vi_n (by omega) (by decide)
  have b2 : vp_in (nI s + 2) 8400 := by rw [show (2 : Int32) = nI 2 from rfl, nI_add]; exact vi_n (by omega) (by decide)
  obtain ⟨a, ea, ha⟩ := (hg.2.2.2.2.2.1 (nI s).toNatClampNeg).2 (by rw [nI_clamp (by omega)]; exact hm)
  have s121 : ∀ x2 x3 y, (y = 0 ∨ y = 1) → zn_holds C Post 121 [(0, .ref (ad C.1 0)), (1, .int (nI s)), (2, .int x2), (3, .int x3)] [.int y] f g := fun x2 x3 y hy => k_Mo_holds_121 X Post _ _ _ _ _ _ (hq y) (nar01 hy)
  have s43 : ∀ x2, zn_holds C Post 43 [(0, .ref (ad C.1 0)), (1, .int (nI s)), (2, .int x2)] [] f g := by
    intro x2
    refine k_Mo_holds_43 X Post _ _ _ _ b1 ?_ ?_ ?_ ?_ ?_ ?_ ?_ ?_ ?_
    · intro _ _; exact b2
    · intro _ _ _; exact s121 _ _ 0 (Or.inl rfl)
    · intro _ _ _; exact s121 _ _ 1 (Or.inr rfl)
    · intro _ _; exact b2
    · intro _ _ _; exact s121 _ _ 0 (Or.inl rfl)
    · intro _ _ _; exact s121 _ _ 1 (Or.inr rfl)
    · intro _; exact b2
    · intro _ _; exact s121 _ _ 0 (Or.inl rfl)
    · intro _ _; exact s121 _ _ 1 (Or.inr rfl)
  have s27 : ∀ y, zn_holds C Post 27 [(0, .ref (ad C.1 0)), (1, .int (nI s))] [.int y] f g := by
    intro y
    exact k_Mo_holds_27 X Post _ _ _ _ b0 (fun _ => s43 _) (fun _ _ => s43 _) (fun _ _ => hq _)
  refine k_Mo_holds_0 X Post _ _ _ b0 (fun _ => b0) (fun _ => ?_) (fun _ => s27 _) (fun _ => s27 _)
  rw [ea]; exact vi_n (by omega) (by decide)
theorem c_priorityW (T : ST) (Z : ZT) (t : Nat) (f : FT) (g : GT) (hT : TI Z t f g) (Post : Int32 → FT → GT → Prop) (hq : ∀ r f', TI Z t f' g → Post r f' g) : mI T y_Mo_priority (Cond.code y_Mo_priority b_Mo_priority 6 (some .int)) 1 [.ref (ad T 0)] f g Post := by
  refine e_Mo_priority T Post f g ?_
  rintro C rfl X
  obtain ⟨c, ec, hc⟩ := hT.2.2.2.1
  obtain ⟨w, ew, hw⟩ := hT.2.2.2.2.1
  have hg := hT.2.2.2.2.2.2.2
  have ek : (f 4) * 10 + f 9 = nI (c * 10 + w) := by rw [ec, ew, show (10 : Int32) = nI 10 from rfl, pk_mul, nI_add]
  have hk : c * 10 + w < 100 := by omega
  generalize c * 10 + w = k at ek hk
  have hv : vp_in (nI k) 100 := vi_n hk (by decide)
  obtain ⟨m, em, hm⟩ := hg.2.2.2.2.1 (nI k).toNatClampNeg
  have s40 : ∀ j i f, j + i = 7 → i ≤ 6 → TI Z t f g → zn_priority C Post 40 [(0, .ref (ad C.1 0)), (1, .int (nI k)), (2, .int (nI i))] [] f g := by
    intro j
    induction j with
    | zero => intro i f hj hi; omega
    | succ j ih =>
      intro i f hj hi hT
      refine k_Mo_priority_40 X Post _ _ _ _ hv (fun _ => hv) (fun _ => hq _ _ hT) ?_
      intro z
      rw [em, nI_leI (by omega) (by omega)] at z
      have hi5 : i < 6 := by omega
      have eJ : ((nI k * 6) + nI i) * 14 = nI ((k * 6 + i) * 14) := by rw [show (6 : Int32) = nI 6 from rfl, show (14 : Int32) = nI 14 from rfl, pk_mul, nI_add, pk_mul]
      have eJ1 : nI ((k * 6 + i) * 14) + 1 = nI ((k * 6 + i) * 14 + 1) := nI_1 _
      obtain ⟨a, ea, ha⟩ := (hg.2.2.2.2.2.1 (nI ((k * 6 + i) * 14 + 1)).toNatClampNeg).1 (by rw [nI_clamp (by omega)]; omega)
      rw [eJ]
      have s66 : ∀ j2 u x4, j2 + u = 5 → u ≤ 4 → zn_priority C Post 66 [(0, .ref (ad C.1 0)), (1, .int (nI k)), (2, .int (nI i)), (3, .int (nI ((k * 6 + i) * 14))), (4, .int x4), (5, .int (nI u))] [] f g := by
        intro j2
        induction j2 with
        | zero => intro u x4 hj2 hu; omega
        | succ j2 ih2 =>
          intro u x4 hj2 hu
          have lim : ¬ g 12 (nI ((k * 6 + i) * 14) + 1 : Int32).toNatClampNeg ≤ nI u → u < 4 := by
            intro z
            rw [eJ1, ea, nI_leI (by omega) (by omega)] at z
            omega
          have s104 : (u < 4) → ∀ y, zn_priority C Post 104 [(0, .ref (ad C.1 0)), (1, .int (nI k)), (2, .int (nI i)), (3, .int (nI ((k * 6 + i) * 14))), (4, .int x4), (5, .int (nI u))] [.int y] f g := by
            intro hu4 y
            refine k_Mo_priority_104 X Post _ _ _ _ _ _ _ _ ?_
            rw [nI_1]
            exact ih2 (u + 1) y (by omega) (by omega)
          refine k_Mo_priority_66 X Post (P_93 := fun _ f' g' => f' = f ∧ g' = g) _ _ _ _ _ _ _ ?_ ?_ ?_ ?_ ?_ ?_ ?_
          · rw [eJ1]; exact vi_n (by omega) (by decide)
          · intro _ _
            rw [nI_1]
            exact ih (i + 1) f (by omega) (by omega) hT
          · intro _ _; exact vi_n (by omega) (by decide)
          · intro _ _; exact hq _ _ hT
          · intro z _
            exact k_Mo_priority_103 X Post _ _ _ _ _ _ _ (s104 (lim z) 0)
          · intro z _
            have hu4 := lim z
            rw [show nI ((k * 6 + i) * 14) + 2 + 3 * nI u = nI ((k * 6 + i) * 14 + 2 + 3 * u) by rw [show (2 : Int32) = nI 2 from rfl, show (3 : Int32) = nI 3 from rfl, pk_mul, nI_add, nI_add]]
            have hmod : ((k * 6 + i) * 14 + 2 + 3 * u) % 14 = 2 ∨ ((k * 6 + i) * 14 + 2 + 3 * u) % 14 = 5 ∨ ((k * 6 + i) * 14 + 2 + 3 * u) % 14 = 8 ∨ ((k * 6 + i) * 14 + 2 + 3 * u) % 14 = 11 := by
              rcases (show u = 0 ∨ u = 1 ∨ u = 2 ∨ u = 3 by omega) with h | h | h | h <;> (subst h; omega)
            exact c_holdsW _ _ f g hg (by omega) hmod _ (fun _ => ⟨rfl, rfl⟩)
          · rintro z _ r f2 g2 ⟨rfl, rfl⟩
            refine k_Mo_priority_96 X Post _ _ _ _ _ _ _ _ ?_ ?_
            · intro _; exact k_Mo_priority_103 X Post _ _ _ _ _ _ _ (s104 (lim z) 0)
            · intro _; exact s104 (lim z) 1
      exact s66 5 0 1 rfl (by decide)
  have s13 : ∀ y, zn_priority C Post 13 [(0, .ref (ad C.1 0))] [.int y, .ref (ad C.1 0)] f g := by
    intro y
    refine k_Mo_priority_13 X Post _ _ _ (fun _ => ?_) (fun _ => hq _ _ (TI_0 hT _))
    rw [ek]
    exact s40 7 0 _ rfl (by decide) (TI_0 hT _)
  exact k_Mo_priority_0 X Post _ _ (fun _ => s13 _) (fun _ => s13 _)
-- holds and priority, exactly
def hdR (y v r : Int32) : Int32 := if r = 61 then (if y = v then 1 else 0) else if r = 60 then (if v ≤ y then 0 else 1) else (if y ≤ v then 0 else 1)
def hdY (p : Int32) (g : GT) (s : Nat) : Int32 := if g 12 s = 0 then p else g 16 (g 12 s).toNatClampNeg
def hdV (p : Int32) (g : GT) (s : Nat) : Int32 := if ¬ g 12 s ≤ 0 ∧ ¬ 0 ≤ hdY p g s then 0 else hdR (hdY p g s) (g 12 (s + 2)) (g 12 (s + 1))
theorem c_holdsX (T : ST) (s : Nat) (f : FT) (g : GT) (hg : GI g) (hs : s + 2 < 8400) (hm : s % 14 = 2 ∨ s % 14 = 5 ∨ s % 14 = 8 ∨ s % 14 = 11) (Post : Int32 → FT → GT → Prop) (hq : Post (hdV (f 11) g s) f g) : mI T y_Mo_holds (Cond.code y_Mo_holds b_Mo_holds 4 (some .boolean)) 0 [.ref (ad T 0), .int (nI s)] f g Post := by
  refine e_Mo_holds T Post _ f g ?_
  rintro C rfl X
  have c0 : (nI s).toNatClampNeg = s := nI_clamp (by omega)
  have e1 : nI s + 1 = nI (s + 1) := nI_1 _
  have e2 : nI s + 2 = nI (s + 2) := by rw [show (2 : Int32) = nI 2 from rfl, nI_add]
  have c1 : (nI (s + 1)).toNatClampNeg = s + 1 := nI_clamp (by omega)
  have c2 : (nI (s + 2)).toNatClampNeg = s + 2 := nI_clamp (by omega)
  have b0 : vp_in (nI s) 8400 := vi_n (by omega) (by decide)
  have b1 : vp_in (nI s + 1) 8400 := by rw [e1]; exact vi_n (by omega) (by decide)
  have b2 : vp_in (nI s + 2) 8400 := by rw [e2]; exact vi_n (by omega) (by decide)
  obtain ⟨a, ea, ha⟩ := (hg.2.2.2.2.2.1 s).2 hm
  have s121 : ∀ x2 x3 y, (y = 0 ∨ y = 1) → hdV (f 11) g s = y → zn_holds C Post 121 [(0, .ref (ad C.1 0)), (1, .int (nI s)), (2, .int x2), (3, .int x3)] [.int y] f g := fun x2 x3 y hy e => k_Mo_holds_121 X Post _ _ _ _ _ _ (e ▸ hq) (nar01 hy)
  have s43 : ∀ y, hdV (f 11) g s = hdR y (g 12 (s + 2)) (g 12 (s + 1)) → zn_holds C Post 43 [(0, .ref (ad C.1 0)), (1, .int (nI s)), (2, .int y)] [] f g := by
    intro y e
    unfold hdR at e
    have R : ∀ (z0 : Prop) [Decidable z0] (a b : Int32), z0 → (if z0 then a else b) = a := fun z0 _ a b h => if_pos h
    refine k_Mo_holds_43 X Post _ _ _ _ b1 ?_ ?_ ?_ ?_ ?_ ?_ ?_ ?_ ?_
    · intro _ _; exact b2
    · intro z1 z2 z3; rw [e1, c1] at z1 z2; rw [e2, c2] at z3
      exact s121 _ _ 0 (Or.inl rfl) (by rw [e, if_neg z1, if_neg z2, if_pos z3])
    · intro z1 z2 z3; rw [e1, c1] at z1 z2; rw [e2, c2] at z3
      exact s121 _ _ 1 (Or.inr rfl) (by rw [e, if_neg z1, if_neg z2, if_neg z3])
    · intro _ _; exact b2
    · intro z1 z2 z3; rw [e1, c1] at z1 z2; rw [e2, c2] at z3
      exact s121 _ _ 0 (Or.inl rfl) (by rw [e, if_neg z1, if_pos z2, if_pos z3])
    · intro z1 z2 z3; rw [e1, c1] at z1 z2; rw [e2, c2] at z3
      exact s121 _ _ 1 (Or.inr rfl) (by rw [e, if_neg z1, if_pos z2, if_neg z3])
    · intro _; exact b2
    · intro z1 z3; rw [e1, c1] at z1; rw [e2, c2] at z3
      exact s121 _ _ 0 (Or.inl rfl) (by rw [e, if_pos z1, if_neg z3])
    · intro z1 z3; rw [e1, c1] at z1; rw [e2, c2] at z3
      exact s121 _ _ 1 (Or.inr rfl) (by rw [e, if_pos z1, if_pos z3])
  have s27 : ∀ y, hdY (f 11) g s = y → zn_holds C Post 27 [(0, .ref (ad C.1 0)), (1, .int (nI s))] [.int y] f g := by
    intro y e
    refine k_Mo_holds_27 X Post _ _ _ _ b0 (fun z => ?_) (fun z1 z2 => ?_) (fun z1 z2 => ?_)
    · rw [c0] at z
      exact s43 y (by unfold hdV; rw [if_neg (fun q => q.1 z), e])
    · exact s43 y (by unfold hdV; rw [e, if_neg (fun q => q.2 z2)])
    · rw [c0] at z1
      have e9 : hdV (f 11) g s = 0 := by unfold hdV; rw [e]; exact if_pos ⟨z1, z2⟩
      rw [e9] at hq
      exact hq
  refine k_Mo_holds_0 X Post _ _ _ b0 (fun _ => b0) (fun _ => ?_) (fun z => s27 _ ?_) (fun z => s27 _ ?_)
  · rw [c0, ea]; exact vi_n (by omega) (by decide)
  · rw [c0] at z ⊢; exact if_neg z
  · rw [c0] at z; exact if_pos z
def coL (p : Int32) (g : GT) (c : Nat) : Nat → Nat → Int32 → Int32
  | 0, _, x => x
  | j + 1, u, x => if g 12 (c + 1) ≤ nI u then x else coL p g c j (u + 1) (if x = 0 then 0 else if hdV p g (c + 2 + 3 * u) = 0 then 0 else 1)
def prL (p : Int32) (g : GT) (k : Nat) : Nat → Nat → Int32
  | 0, _ => 0
  | j + 1, i => if g 11 k ≤ nI i then g 10 k else if coL p g ((k * 6 + i) * 14) 5 0 1 = 0 then prL p g k j (i + 1) else g 12 ((k * 6 + i) * 14)
theorem c_priorityX (T : ST) (Z : ZT) (t : Nat) (f : FT) (g : GT) (hT : TI Z t f g) (c w : Nat) (ec : f 4 = nI c) (hc : c ≤ 8) (ew : f 9 = nI w) (hw : w ≤ 9) (Post : Int32 → FT → GT → Prop) (hq1 : f 9 = 0 → ∀ f', TI Z t f' g → f' 0 = 1 → Post 0 f' g) (hq0 : ¬ f 9 = 0 → ∀ f', TI Z t f' g → f' 0 = 0 → Post (prL (f 11) g (c * 10 + w) 7 0) f' g) : mI T y_Mo_priority (Cond.code y_Mo_priority b_Mo_priority 6 (some .int)) 1 [.ref (ad T 0)] f g Post := by
  refine e_Mo_priority T Post f g ?_
  rintro C rfl X
  have hg := hT.2.2.2.2.2.2.2
  have ek : (f 4) * 10 + f 9 = nI (c * 10 + w) := by rw [ec, ew, show (10 : Int32) = nI 10 from rfl, pk_mul, nI_add]
  have hk : c * 10 + w < 100 := by omega
  generalize c * 10 + w = k at ek hk hq0
  have hv : vp_in (nI k) 100 := vi_n hk (by decide)
  have hkc : (nI k).toNatClampNeg = k := nI_clamp (by omega)
  obtain ⟨m, em, hm⟩ := hg.2.2.2.2.1 k
  obtain ⟨V, hV⟩ : ∃ V, V = prL (f 11) g k 7 0 := ⟨_, rfl⟩
  rw [← hV] at hq0
  have s40 : ¬ f 9 = 0 → ∀ f1, TI Z t f1 g → f1 0 = 0 → ∀ j i, j + i = 7 → i ≤ 6 → prL (f 11) g k j i = V → zn_priority C Post 40 [(0, .ref (ad C.1 0)), (1, .int (nI k)), (2, .int (nI i))] [] f1 g := by
    intro hn9 f1 hT1 h10 j
    have f11 : f1 11 = f 11 := hT1.2.2.2.2.2.1.2.2.1.trans hT.2.2.2.2.2.1.2.2.1.symm
    induction j with
    | zero => intro i hj hi; omega
    | succ j ih =>
      intro i hj hi ep
      unfold prL at ep
      refine k_Mo_priority_40 X Post _ _ _ _ hv (fun _ => hv) (fun z => ?_) ?_
      · rw [hkc] at z ⊢
        rw [if_pos z] at ep
        rw [ep]
        exact hq0 hn9 f1 hT1 h10
      intro z
      rw [hkc] at z
      rw [if_neg z] at ep
      rw [em, nI_leI (by omega) (by omega)] at z
      have hi5 : i < 6 := by omega
      have eJ : ((nI k * 6) + nI i) * 14 = nI ((k * 6 + i) * 14) := by rw [show (6 : Int32) = nI 6 from rfl, show (14 : Int32) = nI 14 from rfl, pk_mul, nI_add, pk_mul]
      have eJ1 : nI ((k * 6 + i) * 14) + 1 = nI ((k * 6 + i) * 14 + 1) := nI_1 _
      have cJ : (nI ((k * 6 + i) * 14)).toNatClampNeg = (k * 6 + i) * 14 := nI_clamp (by omega)
      have cJ1 : (nI ((k * 6 + i) * 14 + 1)).toNatClampNeg = (k * 6 + i) * 14 + 1 := nI_clamp (by omega)
      obtain ⟨a, ea, ha⟩ := (hg.2.2.2.2.2.1 ((k * 6 + i) * 14 + 1)).1 (by omega)
      obtain ⟨W, hW⟩ : ∃ W, W = coL (f 11) g ((k * 6 + i) * 14) 5 0 1 := ⟨_, rfl⟩
      rw [← hW] at ep
      rw [eJ]
      have s66 : ∀ j2 u x4, j2 + u = 5 → u ≤ 4 → coL (f 11) g ((k * 6 + i) * 14) j2 u x4 = W → zn_priority C Post 66 [(0, .ref (ad C.1 0)), (1, .int (nI k)), (2, .int (nI i)), (3, .int (nI ((k * 6 + i) * 14))), (4, .int x4), (5, .int (nI u))] [] f1 g := by
        intro j2
        induction j2 with
        | zero => intro u x4 hj2 hu; omega
        | succ j2 ih2 =>
          intro u x4 hj2 hu ec
          unfold coL at ec
          have lim : ¬ g 12 ((k * 6 + i) * 14 + 1) ≤ nI u → u < 4 := by
            intro z
            rw [ea, nI_leI (by omega) (by omega)] at z
            omega
          have s104 : ∀ y, ¬ g 12 ((k * 6 + i) * 14 + 1) ≤ nI u → (if x4 = 0 then 0 else if hdV (f 11) g ((k * 6 + i) * 14 + 2 + 3 * u) = 0 then 0 else 1) = y → zn_priority C Post 104 [(0, .ref (ad C.1 0)), (1, .int (nI k)), (2, .int (nI i)), (3, .int (nI ((k * 6 + i) * 14))), (4, .int x4), (5, .int (nI u))] [.int y] f1 g := by
            intro y z ey
            have hu4 := lim z
            rw [if_neg z, ey] at ec
            refine k_Mo_priority_104 X Post _ _ _ _ _ _ _ _ ?_
            rw [nI_1]
            exact ih2 (u + 1) y (by omega) (by omega) ec
          refine k_Mo_priority_66 X Post (P_93 := fun r f' g' => r = hdV (f 11) g ((k * 6 + i) * 14 + 2 + 3 * u) ∧ f' = f1 ∧ g' = g) _ _ _ _ _ _ _ ?_ ?_ ?_ ?_ ?_ ?_ ?_
          · rw [eJ1]; exact vi_n (by omega) (by decide)
          · intro z z2
            rw [eJ1, cJ1] at z
            rw [if_pos z, z2] at ec
            rw [if_pos ec.symm] at ep
            rw [nI_1]
            exact ih (i + 1) (by omega) (by omega) ep
          · intro _ _; exact vi_n (by omega) (by decide)
          · intro z z2
            rw [eJ1, cJ1] at z
            rw [if_pos z] at ec
            rw [if_neg (fun q => z2 (ec.trans q))] at ep
            rw [cJ, ep]
            exact hq0 hn9 f1 hT1 h10
          · intro z z2
            rw [eJ1, cJ1] at z
            exact k_Mo_priority_103 X Post _ _ _ _ _ _ _ (s104 0 z (if_pos z2))
          · intro z _
            rw [eJ1, cJ1] at z
            have hu4 := lim z
            rw [show nI ((k * 6 + i) * 14) + 2 + 3 * nI u = nI ((k * 6 + i) * 14 + 2 + 3 * u) by rw [show (2 : Int32) = nI 2 from rfl, show (3 : Int32) = nI 3 from rfl, pk_mul, nI_add, nI_add]]
            have hmod : ((k * 6 + i) * 14 + 2 + 3 * u) % 14 = 2 ∨ ((k * 6 + i) * 14 + 2 + 3 * u) % 14 = 5 ∨ ((k * 6 + i) * 14 + 2 + 3 * u) % 14 = 8 ∨ ((k * 6 + i) * 14 + 2 + 3 * u) % 14 = 11 := by
              rcases (show u = 0 ∨ u = 1 ∨ u = 2 ∨ u = 3 by omega) with h | h | h | h <;> (subst h; omega)
            exact c_holdsX _ _ f1 g hg (by omega) hmod _ ⟨by rw [f11], rfl, rfl⟩
          · rintro z z2 r f2 g2 ⟨rfl, rfl, rfl⟩
            rw [eJ1, cJ1] at z
            refine k_Mo_priority_96 X Post _ _ _ _ _ _ _ _ ?_ ?_
            · intro z3; exact k_Mo_priority_103 X Post _ _ _ _ _ _ _ (s104 0 z (by rw [if_neg z2, if_pos z3]))
            · intro z3; exact s104 1 z (by rw [if_neg z2, if_neg z3])
      exact s66 5 0 1 rfl (by decide) hW.symm
  have s13 : ∀ y, ((y = 0 ∧ ¬ f 9 = 0) ∨ (y = 1 ∧ f 9 = 0)) → zn_priority C Post 13 [(0, .ref (ad C.1 0))] [.int y, .ref (ad C.1 0)] f g := by
    intro y hy
    refine k_Mo_priority_13 X Post _ _ _ (fun z => ?_) (fun z => ?_)
    · rcases hy with ⟨hy, h9⟩ | ⟨hy, h9⟩
      · rw [ek]
        exact s40 h9 _ (TI_0 hT _) (by rw [up_same]; exact hy) 7 0 rfl (by decide) hV.symm
      · rw [hy] at z; exact absurd z (by decide +kernel)
    · rcases hy with ⟨hy, h9⟩ | ⟨hy, h9⟩
      · rw [hy] at z; exact absurd (by decide +kernel) z
      · exact hq1 h9 _ (TI_0 hT _) (by rw [up_same]; exact hy)
  exact k_Mo_priority_0 X Post _ _ (fun z => s13 0 (Or.inl ⟨rfl, z⟩)) (fun z => s13 1 (Or.inr ⟨rfl, z⟩))
