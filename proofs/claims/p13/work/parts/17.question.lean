-- a question's row
theorem pok_WE {t m : Nat} {k : Int32} {p : PS} (h : pok t p) (ht : t ≤ 400) (h2 : p.2.1 = none → p.1 < t) : pok t (pWE k m p) := by
  unfold pWE
  dsimp only
  refine pok_set ?_
  by_cases hm : m = 0
  · rw [if_pos hm, if_neg (show ¬ (pFail p.1 p).2.1 = none from fl_ne)]
    exact pok_fail h (by have := pok_n h ht; omega)
  · rw [if_neg hm]
    split
    · rename_i e
      exact pok_adv h (h.2.2 e) (fun _ => h2 e)
    · exact h
theorem pok_WL {t : Nat} {k : Int32} (ht : t ≤ 400) : ∀ j m (p : PS), pok t p → pok t (pWL t k j m p) := by
  intro j
  induction j with
  | zero => intro m p h; exact h
  | succ j ih =>
    intro m p h
    unfold pWL
    split
    · rename_i q
      split
      · exact pok_fail h (by have := pok_n h ht; omega)
      · rename_i z
        have hlt : p.1 < t := tp_lt (g0 := p.2.2.2 0) (fun y => z (Or.inl (by rw [show pC t p = -1 from y]; decide +kernel)))
        exact ih _ _ (pok_adv (pok_set h) (by show p.1 ≤ t; omega) (fun _ => hlt))
    · rename_i q
      refine pok_WE h ht fun e => ?_
      have : pC t p = 34 := Classical.byContradiction fun y => q ⟨e, y⟩
      exact tp_lt (g0 := p.2.2.2 0) (by rw [show tp (p.2.2.2 0) t p.1 = 34 from this]; decide +kernel)
theorem pok_Words {t : Nat} {k : Int32} {p : PS} (h : pok t p) (ht : t ≤ 400) : pok t (pWords t k p) := pok_WL ht 13 0 _ (pok_take h ht (by decide +kernel))
theorem mo_WE {m : Nat} {k : Int32} {p : PS} : p.1 ≤ (pWE k m p).1 := by
  unfold pWE
  dsimp only
  by_cases hm : m = 0
  · rw [if_pos hm, if_neg (show ¬ (pFail p.1 p).2.1 = none from fl_ne)]
    exact Nat.le_refl _
  · rw [if_neg hm]
    show p.1 ≤ (if p.2.1 = none then pAdv p else p).1
    split
    · exact Nat.le_succ _
    · exact Nat.le_refl _
theorem mo_WL {t : Nat} {k : Int32} : ∀ j m (p : PS), p.1 ≤ (pWL t k j m p).1 := by
  intro j
  induction j with
  | zero => intro m p; exact Nat.le_refl _
  | succ j ih =>
    intro m p
    unfold pWL
    split
    · split
      · exact Nat.le_refl _
      · exact Nat.le_trans (Nat.le_succ p.1) (ih (m + 1) (pAdv (pSet 6 (k * 12 + nI m) (pC t p) p)))
    · exact mo_WE
theorem mo_Words {t : Nat} {k : Int32} {p : PS} : p.1 ≤ (pWords t k p).1 := Nat.le_trans (mo_take t 34 p) (mo_WL 13 0 _)
theorem pNum_w {t : Nat} {a b : Int32} {p : PS} (h : (pNum t a b p).2.1 = none) : p.2.1 = none ∧ p.1 + 1 ≤ (pNum t a b p).1 := by
  obtain ⟨n, w, d, g⟩ := p
  cases w with
  | some q => cases h
  | none => exact ⟨rfl, nW2_pos (nW3_none h).1⟩
theorem pJs_g (t : Nat) (J : Int32) (p : PS) {j : Nat} (hj : j ≠ 8) : psG (pJs t J p) j = psG p j := by
  show va_up (pNum t _ 9999 _).2.2.2 8 _ j = p.2.2.2 j
  rw [up_other _ _ hj, pG_num, pG_take]
  show va_up (pNum t 0 9999 p).2.2.2 8 _ j = p.2.2.2 j
  rw [up_other _ _ hj, pG_num]
theorem pJt_g (t : Nat) (J : Int32) (p : PS) {j : Nat} (hj : j ≠ 8) : psG (pJt t J p) j = psG p j := by
  have h6 : psG (pSet 8 (J + 3) 0 (pSet 8 (J + 2) (pVal t 0 60 (pTake t 62 p)) (pNum t 0 60 (pTake t 62 p)))) j = psG p j := by
    show va_up (va_up (pNum t 0 60 (pTake t 62 p)).2.2.2 8 _) 8 _ j = p.2.2.2 j
    rw [up_other _ _ hj, up_other _ _ hj, pG_num, pG_take]
  unfold pJt
  dsimp only
  split
  · split
    · show va_up (pNum t 0 999 _).2.2.2 8 _ j = p.2.2.2 j
      rw [up_other _ _ hj, pG_num]
      exact h6
    · exact h6
  · exact h6
theorem pJump_g (t i : Nat) (J : Int32) (p : PS) {j : Nat} (hj : j ≠ 8) : psG (pJump t i J p) j = psG p j := by
  unfold pJump
  rw [pJt_g t J _ hj]
  have h2 : psG (pSet 8 J (-1) (pSee t p)) j = psG p j := by
    show va_up p.2.2.2 8 _ j = p.2.2.2 j
    rw [up_other _ _ hj]
  split
  · rw [pJs_g t J _ hj]; exact h2
  · exact h2
def pQ1 (t : Nat) (a b : Int32) (j : Nat) (p : PS) : PS := if (pNum t a b p).2.1 = none ∧ ¬ psG (pNum t a b p) j (pVal t a b p).toNatClampNeg = 0 then pFail ((pNum t a b p).1 - 1) (pNum t a b p) else pNum t a b p
def pQ2 (t : Nat) (q : Int32) (p : PS) : PS := pSee t (pSet 13 q (vp_nar .boolean 1) p)
def pQ3a (t : Nat) (p : PS) : PS := if pC t p = 33 ∨ pC t p = 63 then p else pFail p.1 p
def pQ3 (t : Nat) (k : Int32) (p : PS) : PS := pSet 2 k (vp_nar .boolean (if pC t p = 33 then 1 else 0)) (pSet 1 k (vp_nar .boolean 1) (pAdv (pQ3a t p)))
def pQ4 (t : Nat) (k : Int32) (p : PS) : PS :=
  let p7 := pSet 3 k (pVal t 0 9999 p) (pNum t 0 9999 p)
  let p8 := pTake t 45 p7
  pSet 4 k (pVal t (psG p8 3 k.toNatClampNeg) 9999 p8) (pNum t (psG p8 3 k.toNatClampNeg) 9999 p8)
def pQ5 (t : Nat) (k : Int32) (K : Nat) (p : PS) : PS :=
  let p11 := pSet 5 (2 * k + 1) 0 (pWords t (nI K) p)
  if p11.2.1 = none then (if pC t (pSee t p11) = 34 then pWords t (nI (K + 1)) (pSee t p11) else pSee t p11) else p11
def pQLs (t k i : Nat) (p : PS) : PS := pSet 7 (nI k) (psG (pJump t i (nI ((k * 6 + i) * 4)) p) 7 (nI k).toNatClampNeg + 1) (pJump t i (nI ((k * 6 + i) * 4)) p)
def pQL (t k : Nat) : Nat → Nat → PS → PS
  | 0, _, p => p
  | j + 1, i, p => if p.2.1 = none then (if pJb t i p then pQL t k j (i + 1) (pTake t 44 (pQLs t k i p)) else pQLs t k i p) else p
def pQ6 (t k : Nat) (p : PS) : PS := pTake t 59 (pQL t k 6 0 (pSet 7 (nI k) 0 (pTake t 58 p)))
def pQz (t k : Nat) (q : Int32) (p : PS) : PS := pQ6 t k (pQ5 t (nI k) (k * 2) (pQ4 t (nI k) (pQ3 t (nI k) (pQ2 t q p))))
def pQ (t into : Nat) (p : PS) : PS := if (pQ1 t 1 60 13 p).2.1 = none then pQz t (into * 61 + (pVal t 1 60 p).toNatClampNeg) (pVal t 1 60 p) (pQ1 t 1 60 13 p) else pQ1 t 1 60 13 p
theorem pok_Q1 {t j : Nat} {a b : Int32} {p : PS} (h : pok t p) (ht : t ≤ 400) : pok t (pQ1 t a b j p) := by
  unfold pQ1
  have h2 : pok t (pNum t a b p) := pok_num h ht
  split
  · exact pok_fail h2 (by have := pok_n h2 ht; omega)
  · exact h2
theorem pok_Q2 {t : Nat} {q : Int32} {p : PS} (h : pok t p) : pok t (pQ2 t q p) := pok_see (pok_set h)
theorem pok_Q3a {t : Nat} {p : PS} (h : pok t p) (ht : t ≤ 400) (h3 : p.2.1 = none) : pok t (pAdv (pQ3a t p)) := by
  unfold pQ3a
  split
  · rename_i q
    rcases q with q | q
    · exact pok_plus h q (by decide +kernel)
    · exact pok_plus h q (by decide +kernel)
  · exact pok_adv (pok_fail h (by have := pok_n h ht; omega)) (h.2.2 h3) (fun z => absurd z fl_ne)
theorem pok_Q3 {t : Nat} {k : Int32} {p : PS} (h : pok t p) (ht : t ≤ 400) (h3 : p.2.1 = none) : pok t (pQ3 t k p) := pok_set (pok_set (pok_Q3a h ht h3))
theorem pok_Q4 {t : Nat} {k : Int32} {p : PS} (h : pok t p) (ht : t ≤ 400) : pok t (pQ4 t k p) := pok_set (pok_num (pok_take (pok_set (pok_num h ht)) ht (by decide +kernel)) ht)
theorem pok_Q5 {t K : Nat} {k : Int32} {p : PS} (h : pok t p) (ht : t ≤ 400) : pok t (pQ5 t k K p) := by
  have h2 : pok t (pSet 5 (2 * k + 1) 0 (pWords t (nI K) p)) := pok_set (pok_Words h ht)
  unfold pQ5
  dsimp only
  split
  · split
    · exact pok_Words (pok_see h2) ht
    · exact pok_see h2
  · exact h2
theorem pok_QLs {t k i : Nat} {p : PS} (h : pok t p) (ht : t ≤ 400) : pok t (pQLs t k i p) := pok_set (pok_Jump h ht)
theorem pok_QL {t k : Nat} (ht : t ≤ 400) : ∀ j i (p : PS), pok t p → pok t (pQL t k j i p) := by
  intro j
  induction j with
  | zero => intro i p h; exact h
  | succ j ih =>
    intro i p h
    unfold pQL
    split
    · split
      · exact ih _ _ (pok_take (pok_QLs h ht) ht (by decide +kernel))
      · exact pok_QLs h ht
    · exact h
theorem pok_Q6 {t k : Nat} {p : PS} (h : pok t p) (ht : t ≤ 400) : pok t (pQ6 t k p) := pok_take (pok_QL ht 6 0 _ (pok_set (pok_take h ht (by decide +kernel)))) ht (by decide +kernel)
theorem pok_Q {t into : Nat} {p : PS} (h : pok t p) (ht : t ≤ 400) : pok t (pQ t into p) := by
  unfold pQ
  split
  · rename_i e
    exact pok_Q6 (pok_Q5 (pok_Q4 (pok_Q3 (pok_Q2 (pok_Q1 h ht)) ht e) ht) ht) ht
  · exact pok_Q1 h ht
theorem mo_Q1 {t j : Nat} {a b : Int32} {p : PS} : p.1 ≤ (pQ1 t a b j p).1 := by
  unfold pQ1
  split
  · exact mo_num t a b p
  · exact mo_num t a b p
theorem mo_Q3 {t : Nat} {k : Int32} {p : PS} : p.1 ≤ (pQ3 t k p).1 := by
  show p.1 ≤ (pQ3a t p).1 + 1
  unfold pQ3a
  split
  · exact Nat.le_succ _
  · exact Nat.le_succ _
theorem mo_Q4 {t : Nat} {k : Int32} {p : PS} : p.1 ≤ (pQ4 t k p).1 := Nat.le_trans (mo_num t 0 9999 p) (Nat.le_trans (mo_take t 45 (pSet 3 k (pVal t 0 9999 p) (pNum t 0 9999 p))) (mo_num t _ 9999 _))
theorem mo_Q5 {t K : Nat} {k : Int32} {p : PS} : p.1 ≤ (pQ5 t k K p).1 := by
  have h2 : p.1 ≤ (pSet 5 (2 * k + 1) 0 (pWords t (nI K) p)).1 := mo_Words
  unfold pQ5
  dsimp only
  split
  · split
    · exact Nat.le_trans h2 (Nat.le_trans (mo_see t _) mo_Words)
    · exact Nat.le_trans h2 (mo_see t _)
  · exact h2
theorem mo_QLs {t k i : Nat} {p : PS} : p.1 ≤ (pQLs t k i p).1 := mo_Jump (t := t) (i := i) (J := nI ((k * 6 + i) * 4)) (p := p)
theorem mo_QL {t k : Nat} : ∀ j i (p : PS), p.1 ≤ (pQL t k j i p).1 := by
  intro j
  induction j with
  | zero => intro i p; exact Nat.le_refl _
  | succ j ih =>
    intro i p
    unfold pQL
    split
    · split
      · exact Nat.le_trans (mo_QLs (t := t) (k := k) (i := i)) (Nat.le_trans (mo_take t 44 _) (ih _ _))
      · exact mo_QLs
    · exact Nat.le_refl _
theorem mo_Q6 {t k : Nat} {p : PS} : p.1 ≤ (pQ6 t k p).1 := Nat.le_trans (mo_take t 58 p) (Nat.le_trans (mo_QL (t := t) (k := k) 6 0 (pSet 7 (nI k) 0 (pTake t 58 p))) (mo_take t 59 _))
theorem mo_Q {t into : Nat} {p : PS} : p.1 ≤ (pQ t into p).1 := by
  unfold pQ
  split
  · refine Nat.le_trans (mo_Q1 (t := t) (a := 1) (b := 60) (j := 13)) ?_
    refine Nat.le_trans (mo_see t (pSet 13 (pVal t 1 60 p) (vp_nar .boolean 1) (pQ1 t 1 60 13 p))) ?_
    refine Nat.le_trans (mo_Q3 (t := t) (k := nI (into * 61 + (pVal t 1 60 p).toNatClampNeg)) (p := pQ2 t (pVal t 1 60 p) (pQ1 t 1 60 13 p))) ?_
    exact Nat.le_trans mo_Q4 (Nat.le_trans mo_Q5 mo_Q6)
  · exact mo_Q1
