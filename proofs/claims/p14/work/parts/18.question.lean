theorem nI_dbl (k : Nat) : 2 * nI k + 1 = nI (2 * k + 1) := by rw [show (2 : Int32) = nI 2 from rfl, pk_mul, nI_1]
set_option maxHeartbeats 2000000 in
theorem qq_s261 {C : CT} (X : cM C "QuestionTextModel" b_Mo_question 5 none) (Post : FT → GT → Prop) (q k : Nat) (f0 : FT) (t : Nat) (h1 : f0 1 = nI t) (ht : t ≤ 400) (hkb : k < 610) (hv610 : vp_in (nI k) 610) : ∀ x3 x4 p, pok t p → Post (psF f0 (pTake t 59 p)) (psG (pTake t 59 p)) → zn_question C Post 261 [(0, .ref (ad C.1 0)), (1, .int (nI q)), (2, .int (nI k)), (3, .int x3), (4, .int x4)] [] (psF f0 p) (psG p) := by
  intro x3 x4 p hp hq
  refine k_Mo_question_261 X Post (P_264 := fun f' g' => f' = psF f0 (pTake t 59 p) ∧ g' = psG (pTake t 59 p)) _ _ _ _ _ _ ?_ ?_
  · exact c_takeQ _ 59 f0 p t h1 ht hp _ ⟨rfl, rfl⟩
  rintro f1 g1 ⟨rfl, rfl⟩
  exact k_Mo_question_267 X Post _ _ _ _ _ _ hq

set_option maxHeartbeats 2000000 in
theorem qq_loop {C : CT} (X : cM C "QuestionTextModel" b_Mo_question 5 none) (Post : FT → GT → Prop) (q k : Nat) (f0 : FT) (t : Nat) (h1 : f0 1 = nI t) (ht : t ≤ 400) (hkb : k < 610) (hv610 : vp_in (nI k) 610) : ∀ j i x3 p, j + i = 6 → 0 < j → pok t p → psG p 7 (nI k).toNatClampNeg = nI i → Post (psF f0 (pTake t 59 (pQL t k j i p))) (psG (pTake t 59 (pQL t k j i p))) → zn_question C Post 212 [(0, .ref (ad C.1 0)), (1, .int (nI q)), (2, .int (nI k)), (3, .int x3), (4, .int 1)] [] (psF f0 p) (psG p) := by
  have s261 := qq_s261 X Post q k f0 t h1 ht hkb hv610
  intro j
  induction j with
  | zero => intro i x3 p _ h; omega
  | succ j ih =>
    intro i x3 p hj _ hp hinv hq
    have hinv2 : psG (pJump t i (nI ((k * 6 + i) * 4)) p) 7 (nI k).toNatClampNeg = nI i := by rw [pJump_g t i _ p (by decide)]; exact hinv
    have hpj := pok_Jump (i := i) (J := nI ((k * 6 + i) * 4)) hp ht
    have hps : pok t (pQLs t k i p) := pok_QLs hp ht
    refine k_Mo_question_212 X Post (P_232 := fun r f' g' => r = bI (pJb t i p) ∧ f' = psF f0 (pJump t i (nI ((k * 6 + i) * 4)) p) ∧ g' = psG (pJump t i (nI ((k * 6 + i) * 4)) p)) _ _ _ _ _ _ ?_ ?_ ?_ ?_ ?_
    · intro h; exact absurd h (by decide +kernel)
    · intro _ h
      have e : pQL t k (j + 1) i p = p := if_neg ((wI_ge hp.1).mp h)
      rw [e] at hq
      exact s261 _ _ p hp hq
    · intro _ _; exact hv610
    · intro _ _
      rw [hinv]
      exact c_jump _ k i f0 p t h1 ht hp hkb (by omega) _ ⟨rfl, rfl, rfl⟩
    · rintro - h r f1 g1 ⟨rfl, rfl, rfl⟩
      have hw : p.2.1 = none := Classical.byContradiction fun z => h ((wI_ge hp.1).mpr z)
      have e : pQL t k (j + 1) i p = (if pJb t i p then pQL t k j (i + 1) (pTake t 44 (pQLs t k i p)) else pQLs t k i p) := if_pos hw
      rw [e] at hq
      refine k_Mo_question_235 X Post (P_255 := fun f' g' => f' = psF f0 (pTake t 44 (pQLs t k i p)) ∧ g' = psG (pTake t 44 (pQLs t k i p))) _ _ _ _ _ _ _ hv610 hv610 ?_ ?_ ?_
      · intro h2
        have hb : pJb t i p = false := by
          cases hb : pJb t i p with
          | false => rfl
          | true => rw [hb] at h2; exact absurd h2 (by decide +kernel)
        rw [hb] at hq ⊢
        refine k_Mo_question_212 X Post (P_232 := fun _ _ _ => True) _ _ _ _ _ _ ?_ ?_ ?_ ?_ ?_
        · intro _; exact s261 _ _ (pQLs t k i p) hps hq
        · intro z; exact absurd rfl z
        · intro z; exact absurd rfl z
        · intro z; exact absurd rfl z
        · intro z; exact absurd rfl z
      · intro _
        exact c_takeQ _ 44 f0 (pQLs t k i p) t h1 ht hps _ ⟨rfl, rfl⟩
      · rintro h2 f2 g2 ⟨rfl, rfl⟩
        have hb : pJb t i p = true := by
          cases hb : pJb t i p with
          | true => rfl
          | false => rw [hb] at h2; exact absurd rfl h2
        have hi5 : i < 5 := by
          unfold pJb at hb
          split at hb
          · cases hb
          · exact of_decide_eq_true hb
        rw [hb] at hq ⊢
        refine k_Mo_question_258 X Post _ _ _ _ _ _ ?_
        refine ih (i + 1) x3 (pTake t 44 (pQLs t k i p)) (by omega) (by omega) (pok_take hps ht (by decide +kernel)) ?_ hq
        show va_up (psG (pJump t i (nI ((k * 6 + i) * 4)) p)) 7 (upd (psG (pJump t i (nI ((k * 6 + i) * 4)) p) 7) (nI k).toNatClampNeg (psG (pJump t i (nI ((k * 6 + i) * 4)) p) 7 (nI k).toNatClampNeg + 1)) 7 (nI k).toNatClampNeg = nI (i + 1)
        rw [up_same, show ∀ (f : Nat → Int32) (a : Nat) (v : Int32), upd f a v a = v from fun f a v => if_pos rfl, hinv2, nI_1]

set_option maxHeartbeats 2000000 in
theorem qq_s196 {C : CT} (X : cM C "QuestionTextModel" b_Mo_question 5 none) (Post : FT → GT → Prop) (q k : Nat) (f0 : FT) (t : Nat) (h1 : f0 1 = nI t) (ht : t ≤ 400) (hkb : k < 610) (hv610 : vp_in (nI k) 610) : ∀ x3 p, pok t p → Post (psF f0 (pQ6 t k p)) (psG (pQ6 t k p)) → zn_question C Post 196 [(0, .ref (ad C.1 0)), (1, .int (nI q)), (2, .int (nI k)), (3, .int x3)] [] (psF f0 p) (psG p) := by
  have loop := qq_loop X Post q k f0 t h1 ht hkb hv610
  intro x3 p hp hq
  refine k_Mo_question_196 X Post (P_199 := fun f' g' => f' = psF f0 (pTake t 58 p) ∧ g' = psG (pTake t 58 p)) _ _ _ _ _ ?_ ?_
  · exact c_takeQ _ 58 f0 p t h1 ht hp _ ⟨rfl, rfl⟩
  rintro f1 g1 ⟨rfl, rfl⟩
  refine k_Mo_question_202 X Post _ _ _ _ _ hv610 ?_
  refine loop 6 0 x3 (pSet 7 (nI k) 0 (pTake t 58 p)) rfl (by decide) (pok_set (pok_take hp ht (by decide +kernel))) ?_ hq
  show va_up (psG (pTake t 58 p)) 7 (upd (psG (pTake t 58 p) 7) (nI k).toNatClampNeg 0) 7 (nI k).toNatClampNeg = nI 0
  rw [up_same]
  exact if_pos rfl

set_option maxHeartbeats 2000000 in
theorem qq_s163 {C : CT} (X : cM C "QuestionTextModel" b_Mo_question 5 none) (Post : FT → GT → Prop) (q k : Nat) (f0 : FT) (t : Nat) (h1 : f0 1 = nI t) (ht : t ≤ 400) (hkb : k < 610) (hv610 : vp_in (nI k) 610) (hK1 : (f0 8 * 61 + nI q) * 2 + 1 = nI (k * 2 + 1)) : ∀ x3 p, pok t p → Post (psF f0 (pQ6 t k (let p11 := pSet 5 (2 * nI k + 1) 0 p; if p11.2.1 = none then (if pC t (pSee t p11) = 34 then pWords t (nI (k * 2 + 1)) (pSee t p11) else pSee t p11) else p11))) (psG (pQ6 t k (let p11 := pSet 5 (2 * nI k + 1) 0 p; if p11.2.1 = none then (if pC t (pSee t p11) = 34 then pWords t (nI (k * 2 + 1)) (pSee t p11) else pSee t p11) else p11))) → zn_question C Post 163 [(0, .ref (ad C.1 0)), (1, .int (nI q)), (2, .int (nI k)), (3, .int x3)] [] (psF f0 p) (psG p) := by
  have s196 := qq_s196 X Post q k f0 t h1 ht hkb hv610
  intro x3 p hp hq
  dsimp only at hq
  have hp11 : pok t (pSet 5 (2 * nI k + 1) 0 p) := pok_set hp
  refine k_Mo_question_163 X Post (P_182 := fun r f' g' => r = pC t (pSee t (pSet 5 (2 * nI k + 1) 0 p)) ∧ f' = psF f0 (pSee t (pSet 5 (2 * nI k + 1) 0 p)) ∧ g' = psG (pSee t (pSet 5 (2 * nI k + 1) 0 p))) _ _ _ _ _ (by rw [nI_dbl]; exact vi_n (by omega) (by decide)) ?_ ?_ ?_
  · intro h
    rw [if_neg (show ¬ (pSet 5 (2 * nI k + 1) 0 p).2.1 = none from (wI_ge hp.1).mp h)] at hq
    exact s196 x3 (pSet 5 (2 * nI k + 1) 0 p) hp11 hq
  · intro h
    exact c_seeQ _ f0 (pSet 5 (2 * nI k + 1) 0 p) t h1 ht hp11 _ ⟨rfl, rfl, rfl⟩
  · rintro h r f1 g1 ⟨rfl, rfl, rfl⟩
    rw [if_pos (show (pSet 5 (2 * nI k + 1) 0 p).2.1 = none from Classical.byContradiction fun z => h ((wI_ge hp.1).mpr z))] at hq
    generalize pSet 5 (2 * nI k + 1) 0 p = p11 at hq hp11 ⊢
    refine k_Mo_question_185 X Post (P_193 := fun f' g' => f' = psF f0 (pWords t (nI (k * 2 + 1)) (pSee t p11)) ∧ g' = psG (pWords t (nI (k * 2 + 1)) (pSee t p11))) _ _ _ _ _ _ ?_ ?_ ?_
    · intro h2
      rw [if_neg h2] at hq
      exact s196 x3 _ (pok_see hp11) hq
    · intro h2
      exact c_words _ _ _ (k * 2 + 1) f0 (pSee t p11) t h1 ht (pok_see hp11) hK1 (by omega) _ ⟨rfl, rfl⟩
    · rintro h2 f2 g2 ⟨rfl, rfl⟩
      rw [if_pos h2] at hq
      exact s196 x3 _ (pok_Words (pok_see hp11) ht) hq

set_option maxHeartbeats 2000000 in
theorem qq_s117 {C : CT} (X : cM C "QuestionTextModel" b_Mo_question 5 none) (Post : FT → GT → Prop) (q k : Nat) (f0 : FT) (t : Nat) (h1 : f0 1 = nI t) (ht : t ≤ 400) (hkb : k < 610) (hv610 : vp_in (nI k) 610) (hK0 : (f0 8 * 61 + nI q) * 2 + 0 = nI (k * 2)) (hK1 : (f0 8 * 61 + nI q) * 2 + 1 = nI (k * 2 + 1)) : ∀ x3 y0 p, pok t p → Post (psF f0 (pQ6 t k (pQ5 t (nI k) (k * 2) (pQ4 t (nI k) (pSet 2 (nI k) (vp_nar .boolean y0) p))))) (psG (pQ6 t k (pQ5 t (nI k) (k * 2) (pQ4 t (nI k) (pSet 2 (nI k) (vp_nar .boolean y0) p))))) → zn_question C Post 117 [(0, .ref (ad C.1 0)), (1, .int (nI q)), (2, .int (nI k)), (3, .int x3)] [.int y0, .int (nI k), .ref (ad C.1 3)] (psF f0 p) (psG p) := by
  have s163 := qq_s163 X Post q k f0 t h1 ht hkb hv610 hK1
  intro x3 y0 p hp hq
  have hp6 : pok t (pSet 2 (nI k) (vp_nar .boolean y0) p) := pok_set hp
  refine k_Mo_question_117 X Post (P_128 := fun r f' g' => r = pVal t 0 9999 (pSet 2 (nI k) (vp_nar .boolean y0) p) ∧ f' = psF f0 (pNum t 0 9999 (pSet 2 (nI k) (vp_nar .boolean y0) p)) ∧ g' = psG (pNum t 0 9999 (pSet 2 (nI k) (vp_nar .boolean y0) p))) _ _ _ _ _ _ _ hv610 ?_ ?_
  · exact c_numQ _ 0 9999 f0 (pSet 2 (nI k) (vp_nar .boolean y0) p) t h1 ht hp6 _ ⟨rfl, rfl, rfl⟩
  rintro r f1 g1 ⟨rfl, rfl, rfl⟩
  generalize pSet 2 (nI k) (vp_nar .boolean y0) p = p6 at hq hp6 ⊢
  have hp7 : pok t (pSet 3 (nI k) (pVal t 0 9999 p6) (pNum t 0 9999 p6)) := pok_set (pok_num hp6 ht)
  refine k_Mo_question_131 X Post (P_135 := fun f' g' => f' = psF f0 (pTake t 45 (pSet 3 (nI k) (pVal t 0 9999 p6) (pNum t 0 9999 p6))) ∧ g' = psG (pTake t 45 (pSet 3 (nI k) (pVal t 0 9999 p6) (pNum t 0 9999 p6)))) _ _ _ _ _ _ _ hv610 ?_ ?_
  · exact c_takeQ _ 45 f0 (pSet 3 (nI k) (pVal t 0 9999 p6) (pNum t 0 9999 p6)) t h1 ht hp7 _ ⟨rfl, rfl⟩
  rintro f2 g2 ⟨rfl, rfl⟩
  unfold pQ4 at hq
  dsimp only at hq
  have hp8 := pok_take hp7 ht (c := 45) (by decide +kernel)
  generalize pTake t 45 (pSet 3 (nI k) (pVal t 0 9999 p6) (pNum t 0 9999 p6)) = p8 at hq hp8 ⊢
  refine k_Mo_question_138 X Post (P_153 := fun r f' g' => r = pVal t (psG p8 3 (nI k).toNatClampNeg) 9999 p8 ∧ f' = psF f0 (pNum t (psG p8 3 (nI k).toNatClampNeg) 9999 p8) ∧ g' = psG (pNum t (psG p8 3 (nI k).toNatClampNeg) 9999 p8)) _ _ _ _ _ hv610 ?_ ?_
  · exact c_numQ _ _ 9999 f0 p8 t h1 ht hp8 _ ⟨rfl, rfl, rfl⟩
  rintro r f3 g3 ⟨rfl, rfl, rfl⟩
  have hp9 : pok t (pSet 4 (nI k) (pVal t (psG p8 3 (nI k).toNatClampNeg) 9999 p8) (pNum t (psG p8 3 (nI k).toNatClampNeg) 9999 p8)) := pok_set (pok_num hp8 ht)
  refine k_Mo_question_156 X Post (P_160 := fun f' g' => f' = psF f0 (pWords t (nI (k * 2)) (pSet 4 (nI k) (pVal t (psG p8 3 (nI k).toNatClampNeg) 9999 p8) (pNum t (psG p8 3 (nI k).toNatClampNeg) 9999 p8))) ∧ g' = psG (pWords t (nI (k * 2)) (pSet 4 (nI k) (pVal t (psG p8 3 (nI k).toNatClampNeg) 9999 p8) (pNum t (psG p8 3 (nI k).toNatClampNeg) 9999 p8)))) _ _ _ _ _ _ _ hv610 ?_ ?_
  · exact c_words _ _ _ (k * 2) f0 (pSet 4 (nI k) (pVal t (psG p8 3 (nI k).toNatClampNeg) 9999 p8) (pNum t (psG p8 3 (nI k).toNatClampNeg) 9999 p8)) t h1 ht hp9 hK0 (by omega) _ ⟨rfl, rfl⟩
  rintro f4 g4 ⟨rfl, rfl⟩
  exact s163 x3 _ (pok_Words hp9 ht) hq

set_option maxHeartbeats 2000000 in
theorem qq_s84 {C : CT} (X : cM C "QuestionTextModel" b_Mo_question 5 none) (Post : FT → GT → Prop) (q k : Nat) (f0 : FT) (t : Nat) (h1 : f0 1 = nI t) (ht : t ≤ 400) (hkb : k < 610) (hv610 : vp_in (nI k) 610) (hK0 : (f0 8 * 61 + nI q) * 2 + 0 = nI (k * 2)) (hK1 : (f0 8 * 61 + nI q) * 2 + 1 = nI (k * 2 + 1)) : ∀ x3 p, pok t (pAdv p) → Post (psF f0 (pQ6 t k (pQ5 t (nI k) (k * 2) (pQ4 t (nI k) (pSet 2 (nI k) (vp_nar .boolean (if x3 = 33 then 1 else 0)) (pSet 1 (nI k) (vp_nar .boolean 1) (pAdv p))))))) (psG (pQ6 t k (pQ5 t (nI k) (k * 2) (pQ4 t (nI k) (pSet 2 (nI k) (vp_nar .boolean (if x3 = 33 then 1 else 0)) (pSet 1 (nI k) (vp_nar .boolean 1) (pAdv p))))))) → zn_question C Post 84 [(0, .ref (ad C.1 0)), (1, .int (nI q)), (2, .int (nI k)), (3, .int x3)] [] (psF f0 p) (psG p) := by
  have s117 := qq_s117 X Post q k f0 t h1 ht hkb hv610 hK0 hK1
  intro x3 p hp hq
  refine k_Mo_question_84 X Post _ _ _ _ _ hv610 ?_ ?_
  · intro h
    rw [if_neg h] at hq
    rw [psF_adv]
    exact s117 x3 0 (pSet 1 (nI k) (vp_nar .boolean 1) (pAdv p)) (pok_set hp) hq
  · intro h
    rw [if_pos h] at hq
    rw [psF_adv]
    exact s117 x3 1 (pSet 1 (nI k) (vp_nar .boolean 1) (pAdv p)) (pok_set hp) hq

set_option maxHeartbeats 2000000 in
theorem qq_s34 {C : CT} (X : cM C "QuestionTextModel" b_Mo_question 5 none) (Post : FT → GT → Prop) (q k : Nat) (f0 : FT) (t : Nat) (h1 : f0 1 = nI t) (ht : t ≤ 400) (hkb : k < 610) (hv610 : vp_in (nI k) 610) (hK0 : (f0 8 * 61 + nI q) * 2 + 0 = nI (k * 2)) (hK1 : (f0 8 * 61 + nI q) * 2 + 1 = nI (k * 2 + 1)) (hkk : f0 8 * 61 + nI q = nI k) (hv61 : vp_in (nI q) 61) : ∀ p2, pok t p2 → (if p2.2.1 = none then Post (psF f0 (pQz t k (nI q) p2)) (psG (pQz t k (nI q) p2)) else Post (psF f0 p2) (psG p2)) → zn_question C Post 34 [(0, .ref (ad C.1 0)), (1, .int (nI q))] [] (psF f0 p2) (psG p2) := by
  have s84 := qq_s84 X Post q k f0 t h1 ht hkb hv610 hK0 hK1
  intro p2 hp2 hq
  refine k_Mo_question_34 X Post (P_60 := fun r f' g' => r = pC t (pQ2 t (nI q) p2) ∧ f' = psF f0 (pQ2 t (nI q) p2) ∧ g' = psG (pQ2 t (nI q) p2)) _ _ _ ?_ ?_ ?_ ?_
  · intro _; exact hv61
  · intro h
    exact c_seeQ _ f0 (pSet 13 (nI q) (vp_nar .boolean 1) p2) t h1 ht (pok_set hp2) _ ⟨rfl, rfl, rfl⟩
  · rintro h r f1 g1 ⟨rfl, rfl, rfl⟩
    have hw2 : p2.2.1 = none := (wI_lt hp2.1).mp h
    rw [if_pos hw2] at hq
    have hp3 : pok t (pQ2 t (nI q) p2) := pok_Q2 hp2
    have hw3 : (pQ2 t (nI q) p2).2.1 = none := hw2
    have hz := pok_Q3a hp3 ht hw3
    rw [show psF f0 p2 8 = f0 8 from rfl, hkk]
    unfold pQz at hq
    generalize pQ2 t (nI q) p2 = p3 at hq hp3 hw3 hz ⊢
    unfold pQ3 pQ3a at hq
    unfold pQ3a at hz
    refine k_Mo_question_63 X Post (P_81 := fun f' g' => f' = psF f0 (pFail p3.1 p3) ∧ g' = psG (pFail p3.1 p3)) _ _ _ _ _ ?_ ?_ ?_ ?_
    · intro h2
      rw [if_pos (Or.inl h2 : pC t p3 = 33 ∨ pC t p3 = 63)] at hq hz
      exact s84 _ p3 hz hq
    · intro h2 h3
      rw [if_pos (Or.inr h3 : pC t p3 = 33 ∨ pC t p3 = 63)] at hq hz
      exact s84 _ p3 hz hq
    · intro h2 h3
      exact c_failQ _ f0 p3 t hp3 _ ⟨rfl, rfl⟩
    · rintro h2 h3 f2 g2 ⟨rfl, rfl⟩
      rw [if_neg (fun z => z.elim h2 h3 : ¬ (pC t p3 = 33 ∨ pC t p3 = 63))] at hq hz
      exact s84 _ (pFail p3.1 p3) hz hq
  · intro h
    rw [if_neg (fun z => h ((wI_lt hp2.1).mpr z))] at hq
    exact hq
set_option maxHeartbeats 2000000 in
theorem c_question (T : ST) (into : Nat) (f0 : FT) (p : PS) (t : Nat) (h1 : f0 1 = nI t) (ht : t ≤ 400) (hp : pok t p) (h8 : f0 8 = nI into) (hi : into ≤ 9) (Post : FT → GT → Prop) (hq : Post (psF f0 (pQ t into p)) (psG (pQ t into p))) : mV T y_Mo_question (Cond.code y_Mo_question b_Mo_question 5 none) 4 [.ref (ad T 0)] (psF f0 p) (psG p) Post := by
  refine e_Mo_question T Post _ _ ?_
  rintro C rfl X
  obtain ⟨q, eq, hq1, hq2⟩ := pVal_n (t := t) (A := 1) (B := 60) (p := p) (by decide) (by decide)
  replace eq : pVal t 1 60 p = nI q := eq
  have hqc : (nI q).toNatClampNeg = q := nI_clamp (by omega)
  have hkk : f0 8 * 61 + nI q = nI (into * 61 + q) := by rw [h8, show (61 : Int32) = nI 61 from rfl, pk_mul, nI_add]
  have hK0 : (f0 8 * 61 + nI q) * 2 + 0 = nI ((into * 61 + q) * 2) := by rw [hkk, show (2 : Int32) = nI 2 from rfl, show (0 : Int32) = nI 0 from rfl, pk_mul, nI_add, Nat.add_zero]
  have hK1 : (f0 8 * 61 + nI q) * 2 + 1 = nI ((into * 61 + q) * 2 + 1) := by rw [hkk, show (2 : Int32) = nI 2 from rfl, pk_mul, nI_1]
  unfold pQ at hq
  rw [eq, hqc] at hq
  have hkb : into * 61 + q < 610 := by omega
  generalize hke : into * 61 + q = k at hq hkk hK0 hK1 hkb
  have hv61 : vp_in (nI q) 61 := vi_n (by omega) (by decide)
  have hv610 : vp_in (nI k) 610 := vi_n hkb (by decide)
  have s34 := qq_s34 X Post q k f0 t h1 ht hkb hv610 hK0 hK1 hkk hv61
  have hp1 : pok t (pNum t 1 60 p) := pok_num hp ht
  have hpq : pok t (pQ1 t 1 60 13 p) := pok_Q1 hp ht
  have hq' : (if (pQ1 t 1 60 13 p).2.1 = none then Post (psF f0 (pQz t k (nI q) (pQ1 t 1 60 13 p))) (psG (pQz t k (nI q) (pQ1 t 1 60 13 p))) else Post (psF f0 (pQ1 t 1 60 13 p)) (psG (pQ1 t 1 60 13 p))) := by
    split
    · rename_i z; rw [if_pos z] at hq; exact hq
    · rename_i z; rw [if_neg z] at hq; exact hq
  have fin := s34 _ hpq hq'
  unfold pQ1 at fin
  rw [eq] at fin
  refine k_Mo_question_0 X Post (P_4 := fun r f' g' => r = nI q ∧ f' = psF f0 (pNum t 1 60 p) ∧ g' = psG (pNum t 1 60 p)) _ _ ?_ ?_
  · exact c_numQ _ 1 60 f0 p t h1 ht hp _ ⟨eq, rfl, rfl⟩
  rintro r f1 g1 ⟨rfl, rfl, rfl⟩
  refine k_Mo_question_7 X Post (P_31 := fun f' g' => f' = psF f0 (pFail ((pNum t 1 60 p).1 - 1) (pNum t 1 60 p)) ∧ g' = psG (pFail ((pNum t 1 60 p).1 - 1) (pNum t 1 60 p))) _ _ _ ?_ ?_ ?_ ?_ ?_
  · intro h
    rw [if_neg (fun z => (wI_ge hp1.1).mp h z.1)] at fin
    exact fin
  · intro _; exact hv61
  · intro h h2
    rw [if_neg (fun z => z.2 h2)] at fin
    exact fin
  · intro h h2
    have hw : (pNum t 1 60 p).2.1 = none := Classical.byContradiction fun z => h ((wI_ge hp1.1).mpr z)
    have hpos := (pNum_w hw).2
    obtain ⟨n', e⟩ : ∃ n', (pNum t 1 60 p).1 = n' + 1 := ⟨(pNum t 1 60 p).1 - 1, by omega⟩
    rw [show psF f0 (pNum t 1 60 p) 5 = nI (pNum t 1 60 p).1 from rfl, e, nI_pred, Nat.add_sub_cancel]
    exact c_failP _ n' f0 _ _ _ _ hp1.1 _ ⟨rfl, rfl⟩
  · rintro h h2 f2 g2 ⟨rfl, rfl⟩
    have hw : (pNum t 1 60 p).2.1 = none := Classical.byContradiction fun z => h ((wI_ge hp1.1).mpr z)
    rw [if_pos ⟨hw, h2⟩] at fin
    exact fin
