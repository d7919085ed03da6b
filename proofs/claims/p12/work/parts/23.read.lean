-- how many questions; the reading of the tape
def qL (g1 : Nat → Int32) (c : Int32) : Nat → Nat → Int32 → Int32
  | 0, _, n => n
  | j + 1, q, n => qL g1 c j (q + 1) (if g1 ((c * 61) + nI q : Int32).toNatClampNeg = 0 then n else n + 1)
theorem c_questions (T : ST) (f : FT) (g : GT) (c : Nat) (h4 : f 4 = nI c) (hc : c ≤ 9) (Post : Int32 → FT → GT → Prop) (hq : Post (qL (g 1) (nI c) 60 1 0) f g) : mI T y_Mo_questions (Cond.code y_Mo_questions b_Mo_questions 3 (some .int)) 0 [.ref (ad T 0)] f g Post := by
  refine e_Mo_questions T Post f g ?_
  rintro C rfl X
  have loop : ∀ j q n, j + q = 61 → Post (qL (g 1) (nI c) j q n) f g → zn_questions C Post 4 [(0, .ref (ad C.1 0)), (1, .int n), (2, .int (nI q))] [] f g := by
    intro j
    induction j with
    | zero =>
      intro q n hj hq
      have h61 : (61 : Int32) ≤ nI q := (nI_leI (a := 61) (b := q) (by decide) (by omega)).mpr (by omega)
      refine k_Mo_questions_4 X Post _ _ _ _ (fun _ => hq) ?_ ?_ ?_ <;> exact fun z => absurd h61 z
    | succ j ih =>
      intro q n hj hq
      have h61 : ¬ (61 : Int32) ≤ nI q := fun z => absurd ((nI_leI (a := 61) (b := q) (by decide) (by omega)).mp z) (by omega)
      unfold qL at hq
      refine k_Mo_questions_4 X Post _ _ _ _ ?_ ?_ ?_ ?_
      · intro z; exact absurd z h61
      · intro _
        rw [h4, show (61 : Int32) = nI 61 from rfl, pk_mul, nI_add]
        exact vi_n (by omega) (by decide)
      · intro _ z
        rw [h4] at z
        rw [if_pos z] at hq
        refine k_Mo_questions_30 X Post _ _ _ _ ?_
        rw [nI_1]
        exact ih (q + 1) n (by omega) hq
      · intro _ z
        rw [h4] at z
        rw [if_neg z] at hq
        refine k_Mo_questions_30 X Post _ _ _ _ ?_
        rw [nI_1]
        exact ih (q + 1) (n + 1) (by omega) hq
  refine k_Mo_questions_0 X Post _ _ ?_
  exact loop 60 1 0 rfl hq
def pR2 (t : Nat) (p : PS) : PS := if pC t p = 113 ∨ pC t p = 107 then p else pFail p.1 p
def pR3 (t into : Nat) (c : Int32) (p : PS) : PS := if p.2.1 = none then (if c = 113 then pQ t into p else pK t into p) else p
def pRL (t into : Nat) : Nat → PS → PS
  | 0, p => p
  | j + 1, p => if p.2.1 = none then (if pC t (pSee t p) < 0 then pSee t p else pRL t into j (pR3 t into (pC t (pSee t p)) (pAdv (pR2 t (pSee t p))))) else p
def rs13 (i : Nat) (g : GT) : GT := va_up g 13 (upd (g 13) (nI i).toNatClampNeg (vp_nar .boolean 0))
def rs14 (i : Nat) (g : GT) : GT := va_up g 14 (upd (g 14) (nI i).toNatClampNeg (vp_nar .boolean 0))
def rdG (c e : Nat) (g : GT) : GT := cnt rs14 10 0 (cnt rs13 61 0 (cp (nI c) (nI (e + 1)) g))
def rdP (t c e : Nat) (d : Int32) (g : GT) : PS := pRL t (e + 1) 402 (0, none, d, rdG c e g)
def rdF (f : FT) (e : Nat) (p : PS) : FT := va_up (va_up (va_up (psF (va_up f 8 (nI (e + 1))) p) 1 0) 2 (wI p.2.1)) 9 0
def rdQ (f : FT) (e : Nat) (p : PS) (Post : Int32 → FT → GT → Prop) : Prop := if p.2.1 = none then (if e = 8 then Post 0 (va_up (rdF f e p) 0 2) (psG p) else Post (qL (psG p 1) (nI (e + 1)) 60 1 0) (va_up (va_up (va_up (rdF f e p) 0 0) 3 (nI (e + 1))) 4 (nI (e + 1))) (psG p)) else Post 0 (va_up (rdF f e p) 0 1) (psG p)
theorem ps_init (f : FT) (x : Int32) : va_up (va_up (va_up f 5 0) 6 (-1)) 8 x = ps (va_up f 8 x) 0 none (f 7) := by
  funext j
  unfold ps va_up
  by_cases h5 : j = 5
  · subst h5; rfl
  by_cases h6 : j = 6
  · subst h6; rfl
  by_cases h7 : j = 7
  · subst h7; rfl
  simp only [h5, h6, h7, if_false]
theorem pok_R2 {t : Nat} {p : PS} (h : pok t p) (ht : t ≤ 400) (hw : p.2.1 = none) : pok t (pAdv (pR2 t p)) := by
  unfold pR2
  split
  · rename_i q
    rcases q with q | q
    · exact pok_plus h q (by decide +kernel)
    · exact pok_plus h q (by decide +kernel)
  · exact pok_adv (pok_fail h (by have := pok_n h ht; omega)) (h.2.2 hw) (fun z => absurd z fl_ne)
theorem pok_R3 {t into : Nat} {c : Int32} {p : PS} (h : pok t p) (ht : t ≤ 400) : pok t (pR3 t into c p) := by
  unfold pR3
  split
  · split
    · exact pok_Q h ht
    · exact pok_K h ht
  · exact h
theorem mo_R3 {t into : Nat} {c : Int32} {p : PS} : p.1 ≤ (pR3 t into c p).1 := by
  unfold pR3
  split
  · split
    · exact mo_Q
    · exact mo_K
  · exact Nat.le_refl _
theorem pR2_n {t : Nat} {p : PS} : (pR2 t p).1 = p.1 := by
  unfold pR2
  split
  · rfl
  · rfl
set_option maxHeartbeats 2000000 in
theorem r_loop {C : CT} (X : cM C "QuestionTextModel" b_Mo_read 2 (some .int)) (Post : Int32 → FT → GT → Prop) (t into : Nat) (f0 : FT) (h1 : f0 1 = nI t) (ht : t ≤ 400) (h8 : f0 8 = nI into) (hi : into ≤ 9) (K : PS → Prop)
    (s157 : ∀ x1 p, pok t p → K p → zn_read C Post 157 [(0, .ref (ad C.1 0)), (1, .int x1)] [] (psF f0 p) (psG p)) :
    ∀ j x1 p, pok t p → 402 ≤ j + p.1 → K (pRL t into j p) → zn_read C Post 74 [(0, .ref (ad C.1 0)), (1, .int x1)] [] (psF f0 p) (psG p) := by
  intro j
  induction j with
  | zero => intro x1 p hp hj; have := pok_n hp ht; omega
  | succ j ih =>
    intro x1 p hp hj hK
    refine k_Mo_read_74 X Post (P_82 := fun r f' g' => r = pC t (pSee t p) ∧ f' = psF f0 (pSee t p) ∧ g' = psG (pSee t p)) _ _ _ ?_ ?_ ?_
    · intro h
      have e : pRL t into (j + 1) p = p := if_neg ((wI_ge hp.1).mp h)
      rw [e] at hK
      exact s157 x1 p hp hK
    · intro _; exact c_seeQ _ f0 p t h1 ht hp _ ⟨rfl, rfl, rfl⟩
    · rintro h r f1 g1 ⟨rfl, rfl, rfl⟩
      have hw : p.2.1 = none := Classical.byContradiction fun z => h ((wI_ge hp.1).mpr z)
      have e : pRL t into (j + 1) p = (if pC t (pSee t p) < 0 then pSee t p else pRL t into j (pR3 t into (pC t (pSee t p)) (pAdv (pR2 t (pSee t p))))) := if_pos hw
      rw [e] at hK
      clear e
      have hw2 : (pSee t p).2.1 = none := hw
      have hp2 : pok t (pSee t p) := pok_see hp
      have hge := mo_see t p
      generalize pSee t p = p2 at hK hw2 hp2 hge ⊢
      refine k_Mo_read_85 X Post (P_89 := fun r f' g' => r = pC t p2 ∧ f' = psF f0 p2 ∧ g' = psG p2) _ _ _ _ ?_ ?_ ?_
      · intro h2
        rw [if_pos h2] at hK
        exact s157 _ p2 hp2 hK
      · intro _; exact c_hereQ _ f0 p2 t h1 ht hp2 _ ⟨rfl, rfl, rfl⟩
      · rintro h2 r f2 g2 ⟨rfl, rfl, rfl⟩
        rw [if_neg h2] at hK
        have ha := pok_R2 hp2 ht hw2
        have hn : (pAdv (pR2 t p2)).1 = p2.1 + 1 := congrArg (· + 1) pR2_n
        have s113 : ∀ p3, p3 = pR2 t p2 → pok t p3 → zn_read C Post 113 [(0, .ref (ad C.1 0)), (1, .int (pC t p2))] [] (psF f0 p3) (psG p3) := by
          intro p3 e3 hp3
          rw [← e3] at hK ha hn
          have hz : pok t (pR3 t into (pC t p2) (pAdv p3)) := pok_R3 ha ht
          have hm : p2.1 + 1 ≤ (pR3 t into (pC t p2) (pAdv p3)).1 := by rw [← hn]; exact mo_R3
          have back := fun x1 => ih x1 _ hz (by omega) hK
          have s143 : (¬ ((pAdv p3).2.1 = none ∧ pC t p2 = 113)) → zn_read C Post 143 [(0, .ref (ad C.1 0)), (1, .int (pC t p2))] [] (psF f0 (pAdv p3)) (psG (pAdv p3)) := by
            intro hno
            generalize pAdv p3 = p4 at back ha hno ⊢
            refine k_Mo_read_143 X Post (P_151 := fun f' g' => f' = psF f0 (pK t into p4) ∧ g' = psG (pK t into p4)) _ _ _ ?_ ?_ ?_
            · intro h3
              have e : pR3 t into (pC t p2) p4 = p4 := if_neg ((wI_ge ha.1).mp h3)
              rw [e] at back
              exact k_Mo_read_154 X Post _ _ _ (back _)
            · intro _; exact c_kindRow _ into f0 p4 t h1 ht ha h8 hi _ ⟨rfl, rfl⟩
            · rintro h3 f3 g3 ⟨rfl, rfl⟩
              have hw4 : p4.2.1 = none := Classical.byContradiction fun z => h3 ((wI_ge ha.1).mpr z)
              have e : pR3 t into (pC t p2) p4 = pK t into p4 := (if_pos hw4).trans (if_neg (fun z => hno ⟨hw4, z⟩))
              rw [e] at back
              exact k_Mo_read_154 X Post _ _ _ (back _)
          refine k_Mo_read_113 X Post (P_137 := fun f' g' => f' = psF f0 (pQ t into (pAdv p3)) ∧ g' = psG (pQ t into (pAdv p3))) _ _ _ ?_ ?_ ?_ ?_
          · intro h3
            rw [psF_adv]
            exact s143 (fun z => (wI_ge hp3.1).mp h3 z.1)
          · intro _ h4
            rw [psF_adv]
            exact s143 (fun z => h4 z.2)
          · intro _ _
            rw [psF_adv]
            exact c_question _ into f0 (pAdv p3) t h1 ht ha h8 hi _ ⟨rfl, rfl⟩
          · rintro h3 h4 f3 g3 ⟨rfl, rfl⟩
            have hw4 : (pAdv p3).2.1 = none := Classical.byContradiction fun z => h3 ((wI_ge hp3.1).mpr z)
            have e : pR3 t into (pC t p2) (pAdv p3) = pQ t into (pAdv p3) := (if_pos hw4).trans (if_pos h4)
            rw [e] at back
            exact k_Mo_read_140 X Post _ _ _ (k_Mo_read_154 X Post _ _ _ (back _))
        refine k_Mo_read_92 X Post (P_110 := fun f' g' => f' = psF f0 (pFail p2.1 p2) ∧ g' = psG (pFail p2.1 p2)) _ _ _ _ ?_ ?_ ?_ ?_
        · intro z; exact s113 p2 (if_pos (Or.inl z)).symm hp2
        · intro _ z; exact s113 p2 (if_pos (Or.inr z)).symm hp2
        · intro _ _; exact c_failQ _ f0 p2 t hp2 _ ⟨rfl, rfl⟩
        · rintro z1 z2 f3 g3 ⟨rfl, rfl⟩
          exact s113 (pFail p2.1 p2) (if_neg (fun z => z.elim z1 z2)).symm (pok_fail hp2 (by have := pok_n hp2 ht; omega))
set_option maxHeartbeats 2000000 in
theorem c_read (T : ST) (f : FT) (g : GT) (t c e : Nat) (h1 : f 1 = nI t) (ht : t ≤ 400) (h3 : f 3 = nI e) (he : e ≤ 8) (h4 : f 4 = nI c) (hc : c ≤ 8) (Post : Int32 → FT → GT → Prop) (hq : rdQ f e (rdP t c e (f 7) g) Post) : mI T y_Mo_read (Cond.code y_Mo_read b_Mo_read 2 (some .int)) 6 [.ref (ad T 0)] f g Post := by
  refine e_Mo_read T Post f g ?_
  rintro C rfl X
  have e31 : f 3 + 1 = nI (e + 1) := by rw [h3, nI_1]
  have s157 : ∀ x1 p, pok t p → rdQ f e p Post → zn_read C Post 157 [(0, .ref (ad C.1 0)), (1, .int x1)] [] (psF (va_up f 8 (nI (e + 1))) p) (psG p) := by
    intro x1 p hp hq
    unfold rdQ at hq
    have s201 : ∀ y0, (y0 = 1 ∨ y0 = 2) → Post 0 (va_up (rdF f e p) 0 y0) (psG p) → zn_read C Post 201 [(0, .ref (ad C.1 0)), (1, .int x1)] [.int y0, .ref (ad C.1 0)] (rdF f e p) (psG p) := by
      intro y0 hy hq
      have hn : ¬ y0 ≤ 0 := by rcases hy with z | z <;> (subst z; decide +kernel)
      refine k_Mo_read_201 X Post (P_232 := fun _ _ _ => True) _ _ _ _ ?_ ?_ ?_
      · intro z; exact absurd z hn
      · intro z; exact absurd z hn
      · intro _; exact hq
    have f6 : psF (va_up f 8 (nI (e + 1))) p 6 = wI p.2.1 := rfl
    have f3 : psF (va_up f 8 (nI (e + 1))) p 3 = nI e := h3
    refine k_Mo_read_157 X Post _ _ _ ?_ ?_ ?_
    · intro h2 h5
      rw [f6] at h2 ⊢
      rw [f3, show (8 : Int32) = nI 8 from rfl, nI_eq (by omega) (by decide)] at h5
      rw [if_pos ((wI_lt hp.1).mp h2), if_neg h5] at hq
      refine k_Mo_read_201 X Post (P_232 := fun r f' g' => r = qL (psG p 1) (nI (e + 1)) 60 1 0 ∧ f' = va_up (va_up (va_up (rdF f e p) 0 0) 3 (nI (e + 1))) 4 (nI (e + 1)) ∧ g' = psG p) _ _ _ _ ?_ ?_ ?_
      · intro _
        have f3' : (va_up (va_up (va_up (psF (va_up f 8 (nI (e + 1))) p) 1 0) 2 (wI p.2.1)) 9 0) 3 + 1 = nI (e + 1) := by
          show psF (va_up f 8 (nI (e + 1))) p 3 + 1 = nI (e + 1)
          rw [f3, nI_1]
        rw [f3']
        exact c_questions _ _ _ (e + 1) rfl (by omega) _ ⟨rfl, rfl, rfl⟩
      · rintro _ r f1 g1 ⟨rfl, rfl, rfl⟩
        exact k_Mo_read_235 X Post _ _ _ _ hq
      · intro z; exact absurd (by decide +kernel) z
    · intro h2 h5
      rw [f6] at h2 ⊢
      rw [f3, show (8 : Int32) = nI 8 from rfl, nI_eq (by omega) (by decide)] at h5
      rw [if_pos ((wI_lt hp.1).mp h2), if_pos h5] at hq
      exact s201 2 (Or.inr rfl) hq
    · intro h2
      rw [f6] at h2 ⊢
      rw [if_neg (fun z => h2 ((wI_lt hp.1).mpr z))] at hq
      exact s201 1 (Or.inl rfl) hq
  have s74 := r_loop X Post t (e + 1) (va_up f 8 (nI (e + 1))) h1 ht rfl (by omega) (fun p => rdQ f e p Post) s157 402
  have s55 : ∀ j i g, j + i = 10 → rdQ f e (pRL t (e + 1) 402 (0, none, f 7, cnt rs14 j i g)) Post → zn_read C Post 55 [(0, .ref (ad C.1 0)), (1, .int (nI i))] [] (psF (va_up f 8 (nI (e + 1))) (0, none, f 7, g)) g := by
    intro j
    induction j with
    | zero =>
      intro i g hj hq
      have h10 : (10 : Int32) ≤ nI i := (nI_leI (a := 10) (b := i) (by decide) (by omega)).mpr (by omega)
      refine k_Mo_read_55 X Post _ _ _ ?_ ?_ ?_
      · intro _
        exact s74 _ (0, none, f 7, g) ⟨fun p q => (by cases q), Nat.zero_le _, fun _ => Nat.zero_le _⟩ (Nat.le_refl _) hq
      all_goals exact fun z => absurd h10 z
    | succ j ih =>
      intro i g hj hq
      have h10 : ¬ (10 : Int32) ≤ nI i := fun z => absurd ((nI_leI (a := 10) (b := i) (by decide) (by omega)).mp z) (by omega)
      refine k_Mo_read_55 X Post _ _ _ ?_ ?_ ?_
      · intro z; exact absurd z h10
      · intro _; exact vi_n (by omega) (by decide)
      · intro _
        rw [nI_1]
        exact ih (i + 1) _ (by omega) hq
  have s34 : ∀ j i g, j + i = 61 → rdQ f e (pRL t (e + 1) 402 (0, none, f 7, cnt rs14 10 0 (cnt rs13 j i g))) Post → zn_read C Post 34 [(0, .ref (ad C.1 0)), (1, .int (nI i))] [] (psF (va_up f 8 (nI (e + 1))) (0, none, f 7, g)) g := by
    intro j
    induction j with
    | zero =>
      intro i g hj hq
      have h10 : (61 : Int32) ≤ nI i := (nI_leI (a := 61) (b := i) (by decide) (by omega)).mpr (by omega)
      refine k_Mo_read_34 X Post _ _ _ ?_ ?_ ?_
      · intro _
        exact s55 10 0 g rfl hq
      all_goals exact fun z => absurd h10 z
    | succ j ih =>
      intro i g hj hq
      have h10 : ¬ (61 : Int32) ≤ nI i := fun z => absurd ((nI_leI (a := 61) (b := i) (by decide) (by omega)).mp z) (by omega)
      refine k_Mo_read_34 X Post _ _ _ ?_ ?_ ?_
      · intro z; exact absurd z h10
      · intro _; exact vi_n (by omega) (by decide)
      · intro _
        rw [nI_1]
        exact ih (i + 1) _ (by omega) hq
  refine k_Mo_read_0 X Post (P_29 := fun f' g' => f' = psF (va_up f 8 (nI (e + 1))) (0, none, f 7, g') ∧ g' = cp (nI c) (nI (e + 1)) g) _ _ ?_ ?_
  · rw [e31, h4, ps_init]
    exact c_copy _ c (e + 1) (by omega) (by omega) _ _ _ ⟨rfl, rfl⟩
  rintro f1 g1 ⟨rfl, rfl⟩
  refine k_Mo_read_32 X Post _ _ ?_
  exact s34 61 0 _ rfl hq
