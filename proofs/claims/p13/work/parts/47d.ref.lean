theorem bind2 {α β γ : Type} (o : Option α) (f : α → Option β) (h : α → β → Option γ) : (o.bind fun a => (f a).bind fun b => h a b) = (o.bind fun a => (f a).bind fun b => some (a, b)).bind fun x => h x.1 x.2 := by
  cases o with
  | none => rfl
  | some a =>
    show (f a).bind _ = ((f a).bind _).bind _
    cases f a with
    | none => rfl
    | some b => rfl
theorem liv_Q5 {t K : Nat} {k : Int32} {p : PS} (h : (pQ5 t k K p).2.1 = none) : p.2.1 = none := by
  unfold pQ5 at h
  dsimp only at h
  split at h
  · rename_i z; exact liv_Words z
  · rename_i z; exact absurd h z
theorem RK_Q5 (t K : Nat) (k : Int32) {p : PS} (h : p.2.1 = none) : RK (pQ5 t k K p) ((kWords (psG p 0) t p.1).bind fun wa => (kWb (psG p 0) t wa.1 wa.2).bind fun wb => some (wa, wb)) (fun x => x.2.2) := by
  refine RK_bind (RK_Words t (nI K) h) (fun e => by
    unfold pQ5 at e
    dsimp only at e
    split at e
    · rename_i z; exact z
    · rename_i z; exact absurd e z) (fun wa e h1 h2 => ?_)
  unfold pQ5
  dsimp only
  generalize hp : pSet 5 (2 * k + 1) 0 (pWords t (nI K) p) = p11
  have h3 : p11.2.1 = none := by rw [← hp]; exact h1
  have h4 : p11.1 = wa.2 := by rw [← hp]; exact h2
  have hg : psG p11 0 = psG p 0 := by rw [← hp, psG_set, up_other _ _ (by decide), g_Words _ _ _ (by decide) (by decide)]
  rw [if_pos h3, c_see', hg, h4]
  unfold kWb
  split
  · have h5 := RK_Words t (nI (K + 1)) (p := pSee t p11) h3
    rw [show psG (pSee t p11) 0 = psG p 0 from hg, show (pSee t p11).1 = sN (psG p 0) t wa.2 from by show sN (psG p11 0) t p11.1 = _; rw [hg, h4]] at h5
    exact RK_bind h5 (fun e => e) (fun wb e2 h6 h7 => ⟨h6, h7⟩)
  · exact ⟨h3, by show sN (psG p11 0) t p11.1 = _; rw [hg, h4]⟩
theorem liv_Q3 {t : Nat} {k : Int32} {p : PS} (h : (pQ3 t k p).2.1 = none) : p.2.1 = none := by
  have h : (pQ3a t p).2.1 = none := h
  unfold pQ3a at h
  split at h
  · exact h
  · exact (liv_fail h).elim
theorem RK_Q3 (t : Nat) (k q : Int32) {p : PS} (h : p.2.1 = none) : RK (pQ3 t k (pQ2 t q p)) (kMust (psG p 0) t p.1) Prod.snd := by
  generalize hp : pQ2 t q p = p2
  have h2 : p2.2.1 = none := by rw [← hp]; exact h
  have hg0 : psG (pSet 13 q (vp_nar .boolean 1) p) 0 = psG p 0 := by rw [psG_set, up_other _ _ (by decide)]
  have h1 : p2.1 = sN (psG p 0) t p.1 := by rw [← hp]; show sN (psG (pSet 13 q (vp_nar .boolean 1) p) 0) t p.1 = _; rw [hg0]
  have hg : psG p2 0 = psG p 0 := by rw [← hp]; exact hg0
  have hc : pC t p2 = tp (psG p 0) t (sN (psG p 0) t p.1) := by show tp (psG p2 0) t p2.1 = _; rw [hg, h1]
  unfold kMust
  by_cases z : tp (psG p 0) t (sN (psG p 0) t p.1) = 33
  · rw [if_pos z]
    have e : pQ3a t p2 = p2 := by unfold pQ3a; rw [hc]; exact if_pos (Or.inl z)
    refine ⟨?_, ?_⟩
    · show (pQ3a t p2).2.1 = none; rw [e]; exact h2
    · show (pQ3a t p2).1 + 1 = _; rw [e, h1]
  · rw [if_neg z]
    unfold kTake
    rw [sN_idem]
    by_cases y : tp (psG p 0) t (sN (psG p 0) t p.1) = 63
    · rw [if_pos y]
      have e : pQ3a t p2 = p2 := by unfold pQ3a; rw [hc]; exact if_pos (Or.inr y)
      refine ⟨?_, ?_⟩
      · show (pQ3a t p2).2.1 = none; rw [e]; exact h2
      · show (pQ3a t p2).1 + 1 = _; rw [e, h1]
    · rw [if_neg y]
      intro e
      have e : (pQ3a t p2).2.1 = none := e
      rw [show pQ3a t p2 = pFail p2.1 p2 from by unfold pQ3a; rw [hc]; exact if_neg (fun q => q.elim z y)] at e
      exact liv_fail e
theorem g_QL (t k : Nat) {a : Nat} (h7 : a ≠ 7) (h8 : a ≠ 8) : ∀ (j i : Nat) (p : PS), psG (pQL t k j i p) a = psG p a := by
  intro j
  induction j with
  | zero => intro i p; rfl
  | succ j ih =>
    intro i p
    have e : psG (pQLs t k i p) a = psG p a := by unfold pQLs; rw [psG_set, up_other _ _ h7, pJump_g t i _ p h8]
    unfold pQL
    split
    · split
      · rw [ih, g_take, e]
      · exact e
    · rfl
theorem g_Q6 (t k : Nat) (p : PS) {a : Nat} (h7 : a ≠ 7) (h8 : a ≠ 8) : psG (pQ6 t k p) a = psG p a := by
  unfold pQ6
  rw [g_take, g_QL t k h7 h8, psG_set, up_other _ _ h7, g_take]
theorem g_Q5 (t K : Nat) (k : Int32) (p : PS) {a : Nat} (h5 : a ≠ 5) (h6 : a ≠ 6) : psG (pQ5 t k K p) a = psG p a := by
  have e : psG (pSet 5 (2 * k + 1) 0 (pWords t (nI K) p)) a = psG p a := by rw [psG_set, up_other _ _ h5, g_Words _ _ _ h5 h6]
  unfold pQ5
  dsimp only
  split
  · split
    · rw [g_Words _ _ _ h5 h6, g_see, e]
    · rw [g_see, e]
  · exact e
theorem g_Q4 (t : Nat) (k : Int32) (p : PS) {a : Nat} (h3 : a ≠ 3) (h4 : a ≠ 4) : psG (pQ4 t k p) a = psG p a := by
  unfold pQ4
  dsimp only
  rw [psG_set, up_other _ _ h4, pNum_g, g_take, psG_set, up_other _ _ h3, pNum_g]
theorem g_Q3a (t : Nat) (p : PS) : psG (pQ3a t p) = psG p := by
  unfold pQ3a
  split <;> rfl
theorem RK_Q6 (t k : Nat) {p : PS} (h : p.2.1 = none) : RK (pQ6 t k p) ((kTake (psG p 0) t 58 p.1).bind fun m => ((kJumps true (psG p 0) t 5 m []).bind fun js => (kJump true (psG p 0) t js.2).bind fun r => some (js, r)).bind fun x => (kTake (psG p 0) t 59 x.2.2).bind fun m2 => some (x, m2)) (fun y => y.2) := by
  refine RK_bind (RK_take t 58 h) (fun e => liv_set (liv_QL (liv_take e))) (fun m e h1 h2 => ?_)
  have hg : psG (pSet 7 (nI k) 0 (pTake t 58 p)) 0 = psG p 0 := by rw [psG_set, up_other _ _ (by decide), g_take]
  have h3 := RK_QL t k (psG p 0) 6 0 [] (pSet 7 (nI k) 0 (pTake t 58 p)) h1 hg rfl (by decide)
  rw [show (pSet 7 (nI k) 0 (pTake t 58 p)).1 = m from h2] at h3
  refine RK_bind h3 (fun e => liv_take e) (fun x e2 h4 h5 => ?_)
  have h6 := RK_take t 59 h4
  rw [g_QL t k (by decide) (by decide), hg, h5] at h6
  exact RK_bind h6 (fun e => e) (fun m2 e3 h7 h8 => ⟨h7, h8⟩)
theorem liv_Q6 {t k : Nat} {p : PS} (h : (pQ6 t k p).2.1 = none) : p.2.1 = none := liv_take (liv_set (liv_QL (liv_take h)))
theorem RK_map {α β : Type} {q : PS} {o : Option α} {o' : Option β} {pos : α → Nat} {pos' : β → Nat} (h : RK q o pos) (f : α → β) (he : o' = o.bind fun a => some (f a)) (hp : ∀ a, pos' (f a) = pos a) : RK q o' pos' := by
  rw [he]
  cases o with
  | none => exact h
  | some a => exact ⟨h.1, by rw [hp]; exact h.2⟩
theorem RK_Qz (t k j : Nat) (q : Int32) {p : PS} (h : p.2.1 = none) : RK (pQz t k q p) ((kMust (psG p 0) t p.1).bind fun mu => kQ2 true (psG p 0) t j mu.1 mu.2) (fun r => r.2.2) := by
  unfold pQz
  have hg3 : psG (pQ3 t (nI k) (pQ2 t q p)) 0 = psG p 0 := by
    unfold pQ3 pQ2
    rw [psG_set, up_other _ _ (by decide), psG_set, up_other _ _ (by decide), g_adv, g_Q3a, g_see, psG_set, up_other _ _ (by decide)]
  refine RK_bind (RK_Q3 t (nI k) q h) (fun e => liv_Q4 (liv_Q5 (liv_Q6 e))) (fun mu e h1 h2 => ?_)
  generalize hp3 : pQ3 t (nI k) (pQ2 t q p) = p3 at h1 h2 hg3 ⊢
  unfold kQ2
  have h3 := RK_Q4 t (nI k) h1
  rw [hg3, h2] at h3
  refine RK_bind h3 (fun e => liv_Q5 (liv_Q6 e)) (fun sp e2 h4 h5 => ?_)
  have hg4 : psG (pQ4 t (nI k) p3) 0 = psG p 0 := by rw [g_Q4 _ _ _ (by decide) (by decide)]; exact hg3
  generalize hp4 : pQ4 t (nI k) p3 = p4 at h4 h5 hg4 ⊢
  rw [bind2 (kWords (psG p 0) t sp.2) (fun wa => kWb (psG p 0) t wa.1 wa.2) (fun wa wb => kQ3 true (psG p 0) t j mu.1 sp.1 wa.1 wb.1 wb.2)]
  have h6 := RK_Q5 t (k * 2) (nI k) h4
  rw [hg4, h5] at h6
  refine RK_bind h6 (fun e => liv_Q6 e) (fun x e3 h7 h8 => ?_)
  have hg5 : psG (pQ5 t (nI k) (k * 2) p4) 0 = psG p 0 := by rw [g_Q5 _ _ _ _ (by decide) (by decide)]; exact hg4
  generalize hp5 : pQ5 t (nI k) (k * 2) p4 = p5 at h7 h8 hg5 ⊢
  have h9 := RK_Q6 t k h7
  rw [hg5, h8] at h9
  refine RK_map h9 (fun y => (j, (mu.1, sp.1, x.1.1, x.2.1, y.1.1.1, ((-1 : Int32), (9999 : Int32), y.1.2.1.1, y.1.2.1.2)), y.2)) ?_ (fun _ => rfl)
  unfold kQ3 kQ4
  cases kTake (psG p 0) t 58 x.2.2 with
  | none => rfl
  | some m =>
    show (kJumps true (psG p 0) t 5 m []).bind _ = (((kJumps true (psG p 0) t 5 m []).bind _).bind _).bind _
    cases kJumps true (psG p 0) t 5 m [] with
    | none => rfl
    | some js =>
      show (kJump true (psG p 0) t js.2).bind _ = (((kJump true (psG p 0) t js.2).bind _).bind _).bind _
      cases kJump true (psG p 0) t js.2 with
      | none => rfl
      | some r =>
        show (kTake (psG p 0) t 59 r.2).bind _ = ((kTake (psG p 0) t 59 r.2).bind _).bind _
        cases kTake (psG p 0) t 59 r.2 with
        | none => rfl
        | some m2 => rfl
theorem RK_Qu (t into : Nat) (told : Nat → Bool) {p : PS} (h : p.2.1 = none) (ht : ∀ j, j < 61 → (told j = true ↔ ¬ psG p 13 j = 0)) : RK (pQ t into p) (kQues true (psG p 0) t told p.1) (fun r => r.2.2) := by
  unfold kQues
  have h1 := RK_num t 1 60 h
  cases e : kNum true (psG p 0) t 1 60 p.1 with
  | none =>
    rw [e] at h1
    have h1 : ¬ (pNum t 1 60 p).2.1 = none := h1
    have e1 : pQ1 t 1 60 13 p = pNum t 1 60 p := if_neg (fun q => h1 q.1)
    show ¬ (pQ t into p).2.1 = none
    unfold pQ
    rw [e1, if_neg h1]
    exact h1
  | some r =>
    rw [e] at h1
    have h2 : (pNum t 1 60 p).2.1 = none := h1.1
    have h3 : (pNum t 1 60 p).1 = r.2 := h1.2
    have hv : pVal t 1 60 p = nI r.1 := val_num (m := r.2) h e
    have hb : r.1 ≤ 60 := kNum_b (B := 60) (v := r.1) (m := r.2) e (by decide)
    have hc : (nI r.1).toNatClampNeg = r.1 := nI_clamp (by omega)
    show RK _ (if told r.1 = true then none else _) _
    by_cases z : told r.1 = true
    · rw [if_pos z]
      have z2 := (ht r.1 (by omega)).mp z
      have e1 : pQ1 t 1 60 13 p = pFail ((pNum t 1 60 p).1 - 1) (pNum t 1 60 p) := if_pos ⟨h2, by rw [hv, hc, pNum_g]; exact z2⟩
      show ¬ (pQ t into p).2.1 = none
      unfold pQ
      rw [e1, if_neg (fun q => liv_fail q)]
      exact fun q => liv_fail q
    · rw [if_neg z]
      have z2 : psG p 13 r.1 = 0 := by
        by_cases y : psG p 13 r.1 = 0
        · exact y
        · exact absurd ((ht r.1 (by omega)).mpr y) z
      have e1 : pQ1 t 1 60 13 p = pNum t 1 60 p := if_neg (fun q => q.2 (by rw [hv, hc, pNum_g]; exact z2))
      unfold pQ
      rw [e1, if_pos h2, hv, hc]
      have h9 := RK_Qz t (into * 61 + r.1) r.1 (nI r.1) h2
      rw [pNum_g, h3] at h9
      exact h9
theorem kNum_lo {st : Bool} {g0 : Nat → Int32} {L n : Nat} {b : Int32} {v : Nat × Nat} (h : kNum st g0 L 1 b n = some v) : ¬ nI v.1 = 0 := by
  unfold kNum at h
  split at h
  · rename_i q
    cases h
    have h1 := (inV_nz q.1.2).1
    intro z
    have z : nI (nR g0 L n).1 = 0 := z
    rw [z] at h1
    exact absurd h1 (by decide +kernel)
  · cases h
-- kinds
theorem liv_T1 {t : Nat} {p : PS} (h : (pT1 t p).2.1 = none) : p.2.1 = none := by
  unfold pT1 at h
  split at h
  · exact h
  · exact (liv_fail h).elim
theorem liv_T4 {t : Nat} {c : Int32} {p : PS} (h : (pT4 t c p).2.1 = none) : p.2.1 = none := by
  unfold pT4 at h
  split at h
  · exact h
  · exact (liv_fail h).elim
theorem liv_Tb {t : Nat} {s c : Int32} {p : PS} (h : (pTb t s c p).2.1 = none) : p.2.1 = none := by
  unfold pTb at h
  split at h
  · assumption
  · exact h
theorem liv_T {t : Nat} {s : Int32} {p : PS} (h : (pT t s p).2.1 = none) : p.2.1 = none := by
  unfold pT at h
  split at h
  · rename_i z; exact liv_T1 z
  · exact liv_T1 h
theorem RK_Tb (t : Nat) (s c ab : Int32) (hab : c = 112 ↔ ab = 0) {p : PS} (h : p.2.1 = none) : RK (pTb t s c p) (kRel true (psG p 0) t ab p.1) Prod.snd := by
  unfold pTb kRel
  rw [if_pos h]
  by_cases z : tp (psG p 0) t (sN (psG p 0) t p.1) = 60 ∨ tp (psG p 0) t (sN (psG p 0) t p.1) = 62 ∨ (tp (psG p 0) t (sN (psG p 0) t p.1) = 61 ∧ ¬ ab = 0)
  · rw [if_pos z]
    have e : pT4 t c p = pSee t p := by
      unfold pT4
      rw [c_see']
      refine if_pos ?_
      rcases z with z | z | z
      · exact Or.inl z
      · exact Or.inr (Or.inl z)
      · exact Or.inr (Or.inr ⟨z.1, fun q => z.2 (hab.mp q)⟩)
    rw [e, if_pos (show (pSee t p).2.1 = none from h)]
    unfold pT5
    have hg : psG (pSet 12 (s + 1) (pC t (pSee t p)) (pAdv (pSee t p))) 0 = psG p 0 := by rw [psG_set, up_other _ _ (by decide)]; rfl
    have h1 := RK_num t 0 9999 (p := pSet 12 (s + 1) (pC t (pSee t p)) (pAdv (pSee t p))) h
    rw [hg, show (pSet 12 (s + 1) (pC t (pSee t p)) (pAdv (pSee t p))).1 = sN (psG p 0) t p.1 + 1 from rfl] at h1
    exact RK_bind h1 (fun e => e) (fun v e2 h2 h3 => ⟨h2, h3⟩)
  · rw [if_neg z]
    have e : pT4 t c p = pFail (pSee t p).1 (pSee t p) := by
      unfold pT4
      rw [c_see']
      refine if_neg (fun q => z ?_)
      rcases q with q | q | q
      · exact Or.inl q
      · exact Or.inr (Or.inl q)
      · exact Or.inr (Or.inr ⟨q.1, fun y => q.2 (hab.mpr y)⟩)
    rw [e, if_neg (fun q => liv_fail q)]
    exact fun q => liv_fail q
theorem RK_T (t : Nat) (s : Int32) {p : PS} (h : p.2.1 = none) : RK (pT t s p) (kTerm true (psG p 0) t p.1) Prod.snd := by
  unfold pT kTerm
  by_cases z : tp (psG p 0) t (sN (psG p 0) t p.1) = 112
  · rw [if_pos z]
    have e : pT1 t p = pSee t p := by unfold pT1; rw [c_see']; exact if_pos (Or.inr z)
    rw [e, if_pos (show (pSee t p).2.1 = none from h), c_see', z]
    have e2 : pT2 t s 112 (pSee t p) = pSet 12 s 0 (pAdv (pSee t p)) := if_neg (by decide +kernel)
    rw [e2]
    have h1 := RK_Tb t s 112 0 ⟨fun _ => rfl, fun _ => rfl⟩ (p := pSet 12 s 0 (pAdv (pSee t p))) h
    rw [show psG (pSet 12 s 0 (pAdv (pSee t p))) 0 = psG p 0 from by rw [psG_set, up_other _ _ (by decide)]; rfl] at h1
    exact h1
  · rw [if_neg z]
    unfold kTake
    rw [sN_idem]
    by_cases y : tp (psG p 0) t (sN (psG p 0) t p.1) = 113
    · rw [if_pos y]
      have e : pT1 t p = pSee t p := by unfold pT1; rw [c_see']; exact if_pos (Or.inl y)
      rw [e, if_pos (show (pSee t p).2.1 = none from h), c_see', y]
      have e2 : pT2 t s 113 (pSee t p) = pSet 12 s (pVal t 1 60 (pAdv (pSee t p))) (pNum t 1 60 (pAdv (pSee t p))) := if_pos rfl
      rw [e2]
      have h1 := RK_num t 1 60 (p := pAdv (pSee t p)) h
      rw [show psG (pAdv (pSee t p)) 0 = psG p 0 from rfl, show (pAdv (pSee t p)).1 = sN (psG p 0) t p.1 + 1 from rfl] at h1
      show RK _ ((kNum true (psG p 0) t 1 60 (sN (psG p 0) t p.1 + 1)).bind _) _
      refine RK_bind h1 (fun e => liv_set (liv_Tb e)) (fun v e3 h2 h3 => ?_)
      have hb := kNum_lo e3
      have h4 := RK_Tb t s 113 (nI v.1) ⟨fun q => absurd q (by decide +kernel), fun q => absurd q hb⟩ (p := pSet 12 s (pVal t 1 60 (pAdv (pSee t p))) (pNum t 1 60 (pAdv (pSee t p)))) h2
      rw [show psG (pSet 12 s (pVal t 1 60 (pAdv (pSee t p))) (pNum t 1 60 (pAdv (pSee t p)))) 0 = psG p 0 from by rw [psG_set, up_other _ _ (by decide), pNum_g]; rfl, show (pSet 12 s (pVal t 1 60 (pAdv (pSee t p))) (pNum t 1 60 (pAdv (pSee t p)))).1 = v.2 from h3] at h4
      exact h4
    · rw [if_neg y]
      have e : pT1 t p = pFail (pSee t p).1 (pSee t p) := by unfold pT1; rw [c_see']; exact if_neg (fun q => q.elim y z)
      rw [e, if_neg (fun q => liv_fail q)]
      exact fun q => liv_fail q
theorem RK_CL (t : Nat) (c : Int32) (g0 : Nat → Int32) : ∀ (j m : Nat) (acc : List TD) (p : PS), p.2.1 = none → psG p 0 = g0 → j + m = 4 → m ≤ 3 → RK (pCL t c j m p).2 ((kTerm true g0 t p.1).bind fun r => kTerms true g0 t (3 - m) r.2 (acc ++ [r.1])) Prod.snd := by
  intro j
  induction j with
  | zero => intro m acc p h hg hj hm; omega
  | succ j ih =>
    intro m acc p h hg hj hm
    unfold pCL
    rw [if_pos h]
    generalize hq : pT t (c + 2 + 3 * nI m) p = q
    have h1 := RK_T t (c + 2 + 3 * nI m) h
    rw [hq, hg] at h1
    have hgq : psG q 0 = g0 := by rw [← hq, pT_g t _ p (by decide)]; exact hg
    cases e : kTerm true g0 t p.1 with
    | none =>
      rw [e] at h1
      have h1 : ¬ q.2.1 = none := h1
      rw [if_neg (fun z => h1 z.1)]
      exact h1
    | some r =>
      rw [e] at h1
      have h2 : q.2.1 = none := h1.1
      have h3 : q.1 = r.2 := h1.2
      show RK _ (kTerms true g0 t (3 - m) r.2 (acc ++ [r.1])) _
      by_cases y : m + 1 < 4
      · rw [if_pos ⟨h2, y⟩, c_see', hgq, h3, show 3 - m = (3 - (m + 1)) + 1 by omega]
        unfold kTerms
        by_cases z : tp g0 t (sN g0 t r.2) = 38
        · rw [if_pos z, if_pos z]
          have := ih (m + 1) (acc ++ [r.1]) (pAdv (pSee t q)) h2 hgq (by omega) (by omega)
          rw [show (pAdv (pSee t q)).1 = sN g0 t r.2 + 1 from by show sN (psG q 0) t q.1 + 1 = _; rw [hgq, h3]] at this
          exact this
        · rw [if_neg z, if_neg z]
          exact ⟨h2, by show sN (psG q 0) t q.1 = _; rw [hgq, h3]⟩
      · rw [if_neg (fun z => y z.2), show 3 - m = 0 by omega]
        exact ⟨h2, h3⟩
theorem liv_CL {t : Nat} {c : Int32} {j m : Nat} {p : PS} (h : (pCL t c j m p).2.2.1 = none) : p.2.1 = none := by
  cases j with
  | zero => exact h
  | succ j =>
    unfold pCL at h
    split at h
    · assumption
    · exact h
theorem liv_CR {t : Nat} {c : Int32} {p : PS} (h : (pCR t c p).2.1 = none) : p.2.1 = none := by
  unfold pCR pCf pCe at h
  exact liv_CL (liv_set (liv_take (liv_num (liv_set (liv_take h)))))
theorem RK_CR (t : Nat) (c : Int32) {p : PS} (h : p.2.1 = none) : RK (pCR t c p) (kCond true (psG p 0) t p.1) Prod.snd := by
  have e0 : kCond true (psG p 0) t p.1 = ((kTerm true (psG p 0) t p.1).bind fun r => kTerms true (psG p 0) t 3 r.2 ([] ++ [r.1])).bind fun s => kCend true (psG p 0) t s.1 s.2 := by
    unfold kCond; rw [Option.bind_assoc]; rfl
  rw [e0]
  unfold pCR pCf pCe
  have h0 := RK_CL t c (psG p 0) 4 0 [] p h rfl rfl (by decide)
  refine RK_bind h0 (fun e => liv_set (liv_take (liv_num (liv_set (liv_take e))))) (fun s e h1 h2 => ?_)
  have hg1 : psG (pCL t c 4 0 p).2 0 = psG p 0 := pCL_g t c (by decide) 4 0 p
  generalize hp : pCL t c 4 0 p = r at h1 h2 hg1 ⊢
  unfold kCend
  have hg2 : psG (pSet 12 (c + 1) (nI r.1) r.2) 0 = psG p 0 := by rw [psG_set, up_other _ _ (by decide)]; exact hg1
  have h3 := RK_take t 58 (p := pSet 12 (c + 1) (nI r.1) r.2) h1
  rw [hg2, show (pSet 12 (c + 1) (nI r.1) r.2).1 = s.2 from h2] at h3
  refine RK_bind h3 (fun e => liv_num (liv_set (liv_take e))) (fun m e2 h4 h5 => ?_)
  have h6 := RK_num t 0 9 h4
  rw [g_take, hg2, h5] at h6
  refine RK_bind h6 (fun e => liv_set (liv_take e)) (fun v e3 h7 h8 => ?_)
  generalize hp9 : pSet 12 c (pVal t 0 9 (pTake t 58 (pSet 12 (c + 1) (nI r.1) r.2))) (pNum t 0 9 (pTake t 58 (pSet 12 (c + 1) (nI r.1) r.2))) = p9
  have h9 : p9.2.1 = none := by rw [← hp9]; exact h7
  have h10 := RK_take t 41 h9
  rw [show psG p9 0 = psG p 0 from by rw [← hp9, psG_set, up_other _ _ (by decide), pNum_g, g_take]; exact hg2, show p9.1 = v.2 from by rw [← hp9]; exact h8] at h10
  exact RK_bind h10 (fun e => e) (fun m2 e4 h11 h12 => ⟨h11, h12⟩)
theorem liv_KL {t k : Nat} {j i : Nat} {p : PS} (h : (pKL t k j i p).2.1 = none) : p.2.1 = none := by
  cases j with
  | zero => exact h
  | succ j =>
    unfold pKL at h
    split at h
    · rename_i z; exact z.1
    · exact h
theorem RK_KL (t k : Nat) (g0 : Nat → Int32) : ∀ (j i : Nat) (acc : List CD) (p : PS), p.2.1 = none → psG p 0 = g0 → j + i = 7 → i ≤ 6 → RK (pKL t k j i p) (kConds true g0 t (6 - i) p.1 acc) Prod.snd := by
  intro j
  induction j with
  | zero => intro i acc p h hg hj hi; omega
  | succ j ih =>
    intro i acc p h hg hj hi
    unfold pKL
    by_cases y : i < 6
    · rw [if_pos ⟨h, y⟩, c_see', hg, show 6 - i = (6 - (i + 1)) + 1 by omega]
      unfold kConds
      by_cases z : tp g0 t (sN g0 t p.1) = 40
      · rw [if_pos z, if_pos z]
        have h1 := RK_CR t (nI ((k * 6 + i) * 14)) (p := pAdv (pSee t p)) h
        rw [show psG (pAdv (pSee t p)) 0 = g0 from hg, show (pAdv (pSee t p)).1 = sN g0 t p.1 + 1 from by show sN (psG p 0) t p.1 + 1 = _; rw [hg]] at h1
        refine RK_bind h1 (fun e => liv_set (liv_KL e)) (fun r e h2 h3 => ?_)
        have hg2 : psG (pKs t k i (pAdv (pSee t p))) 0 = g0 := by
          unfold pKs
          rw [psG_set, up_other _ _ (by decide), pCR_g t _ _ (by decide)]; exact hg
        have := ih (i + 1) (acc ++ [r.1]) (pKs t k i (pAdv (pSee t p))) (siv_set h2) hg2 (by omega) (by omega)
        rw [show (pKs t k i (pAdv (pSee t p))).1 = r.2 from siv_1 h3] at this
        exact this
      · rw [if_neg z, if_neg z]
        exact ⟨h, by show sN (psG p 0) t p.1 = _; rw [hg]⟩
    · rw [if_neg (fun z => y z.2), show 6 - i = 0 by omega]
      exact ⟨h, rfl⟩
theorem g_KL (t k : Nat) {a : Nat} (h11 : a ≠ 11) (h12 : a ≠ 12) : ∀ (j i : Nat) (p : PS), psG (pKL t k j i p) a = psG p a := by
  intro j
  induction j with
  | zero => intro i p; rfl
  | succ j ih =>
    intro i p
    unfold pKL
    split
    · split
      · rw [ih]
        unfold pKs
        rw [psG_set, up_other _ _ h11, pCR_g t _ _ h12, g_adv, g_see]
      · rfl
    · rfl
theorem liv_K3 {t k : Nat} {p : PS} (h : (pK3 t k p).2.1 = none) : (pNum t 0 9 p).2.1 = none := liv_set (liv_set h)
theorem liv_K2 {t k : Nat} {p : PS} (h : (pK2 t k p).2.1 = none) : (pNum t 1 60 p).2.1 = none := liv_set (liv_take h)
theorem liv_K1 {t : Nat} {q : Int32} {p : PS} (h : (pK1 t q p).2.1 = none) : p.2.1 = none := liv_set (liv_take h)
theorem RK_Kz (t k j : Nat) (q : Int32) {p : PS} (h : p.2.1 = none) : RK (pKz t k q p) (kKind2 true (psG p 0) t j p.1) (fun r => r.2.2) := by
  unfold pKz kKind2
  have hg0 : psG (pSet 14 q (vp_nar .boolean 1) p) 0 = psG p 0 := by rw [psG_set, up_other _ _ (by decide)]
  have h1 := RK_take t 61 (p := pSet 14 q (vp_nar .boolean 1) p) h
  rw [hg0, show (pSet 14 q (vp_nar .boolean 1) p).1 = p.1 from rfl] at h1
  refine RK_bind h1 (fun e => liv_num (liv_K2 (liv_num (liv_K3 (liv_KL (liv_take e)))))) (fun m e h2 h3 => ?_)
  have hg1 : psG (pK1 t q p) 0 = psG p 0 := hg0
  have h2 : (pK1 t q p).2.1 = none := h2
  have h3 : (pK1 t q p).1 = m := h3
  generalize pK1 t q p = p1 at h2 h3 hg1 ⊢
  have h4 := RK_num t 1 60 h2
  rw [hg1, h3] at h4
  refine RK_bind h4 (fun e => liv_K2 (liv_num (liv_K3 (liv_KL (liv_take e))))) (fun f e2 h5 h6 => ?_)
  have hg2 : psG (pSet 9 (nI k) (pVal t 1 60 p1) (pNum t 1 60 p1)) 0 = psG p 0 := by rw [psG_set, up_other _ _ (by decide), pNum_g]; exact hg1
  have h7 := RK_take t 58 (p := pSet 9 (nI k) (pVal t 1 60 p1) (pNum t 1 60 p1)) h5
  rw [hg2, show (pSet 9 (nI k) (pVal t 1 60 p1) (pNum t 1 60 p1)).1 = f.2 from h6] at h7
  refine RK_bind h7 (fun e => liv_num (liv_K3 (liv_KL (liv_take e)))) (fun m2 e3 h8 h9 => ?_)
  have hg3 : psG (pK2 t k p1) 0 = psG p 0 := hg2
  have h8 : (pK2 t k p1).2.1 = none := h8
  have h9 : (pK2 t k p1).1 = m2 := h9
  generalize pK2 t k p1 = p2 at h8 h9 hg3 ⊢
  have h10 := RK_num t 0 9 h8
  rw [hg3, h9] at h10
  refine RK_bind h10 (fun e => liv_K3 (liv_KL (liv_take e))) (fun pr e4 h11 h12 => ?_)
  have hg4 : psG (pK3 t k p2) 0 = psG p 0 := by unfold pK3; rw [psG_set, up_other _ _ (by decide), psG_set, up_other _ _ (by decide), pNum_g]; exact hg3
  have h11 : (pK3 t k p2).2.1 = none := h11
  have h12 : (pK3 t k p2).1 = pr.2 := h12
  generalize pK3 t k p2 = p3 at h11 h12 hg4 ⊢
  unfold kKind3
  have h13 := RK_KL t k (psG p 0) 7 0 [] p3 h11 hg4 rfl (by decide)
  rw [h12] at h13
  refine RK_bind h13 (fun e => liv_take e) (fun cs e5 h14 h15 => ?_)
  have h16 := RK_take t 59 h14
  rw [g_KL t k (by decide) (by decide), hg4, h15] at h16
  exact RK_bind h16 (fun e => e) (fun m3 e6 h17 h18 => ⟨h17, h18⟩)
theorem RK_Ki (t into : Nat) (told : Nat → Bool) {p : PS} (h : p.2.1 = none) (ht : ∀ j, j < 10 → (told j = true ↔ ¬ psG p 14 j = 0)) : RK (pK t into p) (kKind true (psG p 0) t told p.1) (fun r => r.2.2) := by
  unfold kKind
  have h1 := RK_num t 1 9 h
  cases e : kNum true (psG p 0) t 1 9 p.1 with
  | none =>
    rw [e] at h1
    have h1 : ¬ (pNum t 1 9 p).2.1 = none := h1
    have e1 : pQ1 t 1 9 14 p = pNum t 1 9 p := if_neg (fun q => h1 q.1)
    show ¬ (pK t into p).2.1 = none
    unfold pK
    rw [e1, if_neg h1]
    exact h1
  | some r =>
    rw [e] at h1
    have h2 : (pNum t 1 9 p).2.1 = none := h1.1
    have h3 : (pNum t 1 9 p).1 = r.2 := h1.2
    have hv : pVal t 1 9 p = nI r.1 := val_num (m := r.2) h e
    have hb : r.1 ≤ 9 := kNum_b (B := 9) (v := r.1) (m := r.2) e (by decide)
    have hc : (nI r.1).toNatClampNeg = r.1 := nI_clamp (by omega)
    show RK _ (if told r.1 = true then none else _) _
    by_cases z : told r.1 = true
    · rw [if_pos z]
      have z2 := (ht r.1 (by omega)).mp z
      have e1 : pQ1 t 1 9 14 p = pFail ((pNum t 1 9 p).1 - 1) (pNum t 1 9 p) := if_pos ⟨h2, by rw [hv, hc, pNum_g]; exact z2⟩
      show ¬ (pK t into p).2.1 = none
      unfold pK
      rw [e1, if_neg (fun q => liv_fail q)]
      exact fun q => liv_fail q
    · rw [if_neg z]
      have z2 : psG p 14 r.1 = 0 := by
        by_cases y : psG p 14 r.1 = 0
        · exact y
        · exact absurd ((ht r.1 (by omega)).mpr y) z
      have e1 : pQ1 t 1 9 14 p = pNum t 1 9 p := if_neg (fun q => q.2 (by rw [hv, hc, pNum_g]; exact z2))
      unfold pK
      rw [e1, if_pos h2, hv, hc]
      have h9 := RK_Kz t (into * 10 + r.1) r.1 (nI r.1) h2
      rw [pNum_g, h3] at h9
      exact h9
