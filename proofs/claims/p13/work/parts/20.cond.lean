-- a condition, and a kind's row
def pCL (t : Nat) (c : Int32) : Nat → Nat → PS → Nat × PS
  | 0, m, p => (m, p)
  | j + 1, m, p => if p.2.1 = none then (if (pT t (c + 2 + 3 * nI m) p).2.1 = none ∧ m + 1 < 4 then (if pC t (pSee t (pT t (c + 2 + 3 * nI m) p)) = 38 then pCL t c j (m + 1) (pAdv (pSee t (pT t (c + 2 + 3 * nI m) p))) else (m + 1, pSee t (pT t (c + 2 + 3 * nI m) p))) else (m + 1, pT t (c + 2 + 3 * nI m) p)) else (m, p)
def pCe (t : Nat) (c : Int32) (r : Nat × PS) : PS := pTake t 58 (pSet 12 (c + 1) (nI r.1) r.2)
def pCf (t : Nat) (c : Int32) (p : PS) : PS := pTake t 41 (pSet 12 c (pVal t 0 9 p) (pNum t 0 9 p))
def pCR (t : Nat) (c : Int32) (p : PS) : PS := pCf t c (pCe t c (pCL t c 4 0 p))
theorem pok_CL {t : Nat} {c : Int32} (ht : t ≤ 400) : ∀ j m (p : PS), pok t p → pok t (pCL t c j m p).2 := by
  intro j
  induction j with
  | zero => intro m p h; exact h
  | succ j ih =>
    intro m p h
    unfold pCL
    split
    · split
      · split
        · rename_i z
          exact ih _ _ (pok_plus (pok_see (pok_T h ht)) z (by decide +kernel))
        · exact pok_see (pok_T h ht)
      · exact pok_T h ht
    · exact h
theorem pok_Ce {t : Nat} {c : Int32} {r : Nat × PS} (h : pok t r.2) (ht : t ≤ 400) : pok t (pCe t c r) := pok_take (pok_set h) ht (by decide +kernel)
theorem pok_Cf {t : Nat} {c : Int32} {p : PS} (h : pok t p) (ht : t ≤ 400) : pok t (pCf t c p) := pok_take (pok_set (pok_num h ht)) ht (by decide +kernel)
theorem pok_CR {t : Nat} {c : Int32} {p : PS} (h : pok t p) (ht : t ≤ 400) : pok t (pCR t c p) := pok_Cf (pok_Ce (pok_CL ht 4 0 p h) ht) ht
theorem mo_CL {t : Nat} {c : Int32} : ∀ j m (p : PS), p.1 ≤ (pCL t c j m p).2.1 := by
  intro j
  induction j with
  | zero => intro m p; exact Nat.le_refl _
  | succ j ih =>
    intro m p
    have h1 := mo_T (t := t) (s := c + 2 + 3 * nI m) (p := p)
    have h2 := mo_see t (pT t (c + 2 + 3 * nI m) p)
    unfold pCL
    split
    · split
      · split
        · exact Nat.le_trans h1 (Nat.le_trans h2 (Nat.le_trans (Nat.le_succ _) (ih (m + 1) (pAdv (pSee t (pT t (c + 2 + 3 * nI m) p))))))
        · exact Nat.le_trans h1 h2
      · exact h1
    · exact Nat.le_refl _
theorem mo_CR {t : Nat} {c : Int32} {p : PS} : p.1 ≤ (pCR t c p).1 := by
  refine Nat.le_trans (mo_CL (t := t) (c := c) 4 0 p) ?_
  refine Nat.le_trans (mo_take t 58 (pSet 12 (c + 1) (nI (pCL t c 4 0 p).1) (pCL t c 4 0 p).2)) ?_
  refine Nat.le_trans (mo_num t 0 9 (pCe t c (pCL t c 4 0 p))) ?_
  exact mo_take t 41 (pSet 12 c (pVal t 0 9 (pCe t c (pCL t c 4 0 p))) (pNum t 0 9 (pCe t c (pCL t c 4 0 p))))
-- what isn't told there stays
theorem pSet_g {j j' : Nat} {i v : Int32} {p : PS} (h : j' ≠ j) : psG (pSet j i v p) j' = psG p j' := up_other _ _ h
theorem pNum_g {t : Nat} {a b : Int32} {p : PS} : psG (pNum t a b p) = psG p := pG_num t a b p
theorem pT_g (t : Nat) (s : Int32) (p : PS) {j : Nat} (hj : j ≠ 12) : psG (pT t s p) j = psG p j := by
  have h1 : psG (pT1 t p) j = psG p j := by
    unfold pT1
    split
    · rfl
    · rfl
  have h2 : ∀ c, psG (pT2 t s c (pT1 t p)) j = psG p j := by
    intro c
    unfold pT2
    split
    · rw [pSet_g hj, pNum_g]; exact h1
    · rw [pSet_g hj]; exact h1
  have h4 : ∀ c p, psG (pT4 t c p) j = psG p j := by
    intro c p
    unfold pT4
    split
    · rfl
    · rfl
  unfold pT
  split
  · unfold pTb
    split
    · split
      · unfold pT5
        rw [pSet_g hj, pNum_g, pSet_g hj]
        exact (h4 _ _).trans (h2 _)
      · exact (h4 _ _).trans (h2 _)
    · exact h2 _
  · exact h1
theorem pCL_g (t : Nat) (c : Int32) {j' : Nat} (hj : j' ≠ 12) : ∀ j m (p : PS), psG (pCL t c j m p).2 j' = psG p j' := by
  intro j
  induction j with
  | zero => intro m p; rfl
  | succ j ih =>
    intro m p
    unfold pCL
    split
    · split
      · split
        · rw [ih]; exact pT_g t _ p hj
        · exact pT_g t _ p hj
      · exact pT_g t _ p hj
    · rfl
theorem pCR_g (t : Nat) (c : Int32) (p : PS) {j : Nat} (hj : j ≠ 12) : psG (pCR t c p) j = psG p j := by
  unfold pCR pCf
  show psG (pSet 12 c _ (pNum t 0 9 (pCe t c (pCL t c 4 0 p)))) j = psG p j
  rw [pSet_g hj, pNum_g]
  unfold pCe
  show psG (pSet 12 (c + 1) _ (pCL t c 4 0 p).2) j = psG p j
  rw [pSet_g hj]
  exact pCL_g t c hj 4 0 p
set_option maxHeartbeats 2000000 in
theorem c_cond (T : ST) (c : Nat) (f0 : FT) (p : PS) (t : Nat) (h1 : f0 1 = nI t) (ht : t ≤ 400) (hp : pok t p) (hc : c + 14 ≤ 8400) (Post : FT → GT → Prop) (hq : Post (psF f0 (pCR t (nI c) p)) (psG (pCR t (nI c) p))) : mV T y_Mo_conditionRow (Cond.code y_Mo_conditionRow b_Mo_conditionRow 4 none) 4 [.ref (ad T 0), .int (nI c)] (psF f0 p) (psG p) Post := by
  refine e_Mo_conditionRow T Post _ _ _ ?_
  rintro C rfl X
  have hb0 : vp_in (nI c) 8400 := vi_n (by omega) (by decide)
  have hb1 : vp_in (nI c + 1) 8400 := by rw [nI_1]; exact vi_n (by omega) (by decide)
  have hix : ∀ m, nI c + 2 + 3 * nI m = nI (c + 2 + 3 * m) := fun m => by rw [show (2 : Int32) = nI 2 from rfl, show (3 : Int32) = nI 3 from rfl, pk_mul, nI_add, nI_add]
  have s73 : ∀ x3 (r : Nat × PS), pok t r.2 → Post (psF f0 (pCf t (nI c) (pCe t (nI c) r))) (psG (pCf t (nI c) (pCe t (nI c) r))) → zn_conditionRow C Post 73 [(0, .ref (ad C.1 0)), (1, .int (nI c)), (2, .int (nI r.1)), (3, .int x3)] [] (psF f0 r.2) (psG r.2) := by
    intro x3 r hr hq
    refine k_Mo_conditionRow_73 X Post (P_85 := fun f' g' => f' = psF f0 (pCe t (nI c) r) ∧ g' = psG (pCe t (nI c) r)) _ _ _ _ _ hb1 ?_ ?_
    · exact c_takeQ _ 58 f0 (pSet 12 (nI c + 1) (nI r.1) r.2) t h1 ht (pok_set hr) _ ⟨rfl, rfl⟩
    rintro f1 g1 ⟨rfl, rfl⟩
    have hpe := pok_Ce (c := nI c) hr ht
    generalize pCe t (nI c) r = p1 at hq hpe ⊢
    refine k_Mo_conditionRow_88 X Post (P_97 := fun r f' g' => r = pVal t 0 9 p1 ∧ f' = psF f0 (pNum t 0 9 p1) ∧ g' = psG (pNum t 0 9 p1)) _ _ _ _ _ ?_ ?_
    · exact c_numQ _ 0 9 f0 p1 t h1 ht hpe _ ⟨rfl, rfl, rfl⟩
    rintro r f2 g2 ⟨rfl, rfl, rfl⟩
    refine k_Mo_conditionRow_100 X Post (P_104 := fun f' g' => f' = psF f0 (pCf t (nI c) p1) ∧ g' = psG (pCf t (nI c) p1)) _ _ _ _ _ _ _ hb0 ?_ ?_
    · exact c_takeQ _ 41 f0 (pSet 12 (nI c) (pVal t 0 9 p1) (pNum t 0 9 p1)) t h1 ht (pok_set (pok_num hpe ht)) _ ⟨rfl, rfl⟩
    rintro f3 g3 ⟨rfl, rfl⟩
    exact k_Mo_conditionRow_107 X Post _ _ _ _ _ hq
  have s4z : ∀ (r : Nat × PS), pok t r.2 → Post (psF f0 (pCf t (nI c) (pCe t (nI c) r))) (psG (pCf t (nI c) (pCe t (nI c) r))) → zn_conditionRow C Post 54 [(0, .ref (ad C.1 0)), (1, .int (nI c)), (2, .int (nI r.1)), (3, .int 1)] [] (psF f0 r.2) (psG r.2) := by
    intro r hr hq
    refine k_Mo_conditionRow_54 X Post _ _ _ _ _ ?_
    refine k_Mo_conditionRow_55 X Post _ _ _ _ _ _ ?_ ?_
    · intro _
      refine k_Mo_conditionRow_4 X Post (P_23 := fun _ _ => True) _ _ _ _ _ ?_ ?_ ?_ ?_
      · intro _; exact s73 0 r hr hq
      · intro z; exact absurd rfl z
      · intro z; exact absurd rfl z
      · intro z; exact absurd rfl z
    · intro z; exact absurd rfl z
  have loop : ∀ j m p, j + m = 4 → 0 < j → pok t p → Post (psF f0 (pCf t (nI c) (pCe t (nI c) (pCL t (nI c) j m p)))) (psG (pCf t (nI c) (pCe t (nI c) (pCL t (nI c) j m p)))) → zn_conditionRow C Post 4 [(0, .ref (ad C.1 0)), (1, .int (nI c)), (2, .int (nI m)), (3, .int 1)] [] (psF f0 p) (psG p) := by
    intro j
    induction j with
    | zero => intro m p _ h; omega
    | succ j ih =>
      intro m p hj _ hp hq
      refine k_Mo_conditionRow_4 X Post (P_23 := fun f' g' => f' = psF f0 (pT t (nI c + 2 + 3 * nI m) p) ∧ g' = psG (pT t (nI c + 2 + 3 * nI m) p)) _ _ _ _ _ ?_ ?_ ?_ ?_
      · intro z; exact absurd z (by decide +kernel)
      · intro _ h
        have e : pCL t (nI c) (j + 1) m p = (m, p) := if_neg ((wI_ge hp.1).mp h)
        rw [e] at hq
        exact s73 1 (m, p) hp hq
      · intro _ h
        rw [hix m]
        exact c_term _ _ f0 p t h1 ht hp (by omega) _ ⟨rfl, rfl⟩
      · rintro - h f1 g1 ⟨rfl, rfl⟩
        have hw : p.2.1 = none := Classical.byContradiction fun z => h ((wI_ge hp.1).mpr z)
        have hpt := pok_T (s := nI c + 2 + 3 * nI m) hp ht
        have e : pCL t (nI c) (j + 1) m p = (if (pT t (nI c + 2 + 3 * nI m) p).2.1 = none ∧ m + 1 < 4 then (if pC t (pSee t (pT t (nI c + 2 + 3 * nI m) p)) = 38 then pCL t (nI c) j (m + 1) (pAdv (pSee t (pT t (nI c + 2 + 3 * nI m) p))) else (m + 1, pSee t (pT t (nI c + 2 + 3 * nI m) p))) else (m + 1, pT t (nI c + 2 + 3 * nI m) p)) := if_pos hw
        rw [e] at hq
        clear e
        generalize pT t (nI c + 2 + 3 * nI m) p = p1 at hq hpt ⊢
        refine k_Mo_conditionRow_26 X Post (P_42 := fun r f' g' => r = pC t (pSee t p1) ∧ f' = psF f0 (pSee t p1) ∧ g' = psG (pSee t p1)) _ _ _ _ _ ?_ ?_ ?_ ?_
        · intro h2
          rw [if_neg (fun z => (wI_ge hpt.1).mp h2 z.1)] at hq
          rw [nI_1]
          exact s4z (m + 1, p1) hpt hq
        · intro h2 h3
          rw [nI_1, show (4 : Int32) = nI 4 from rfl, nI_leI (by decide) (by omega)] at h3
          rw [if_neg (fun z => by omega)] at hq
          rw [nI_1]
          exact s4z (m + 1, p1) hpt hq
        · intro _ _
          exact c_seeQ _ f0 p1 t h1 ht hpt _ ⟨rfl, rfl, rfl⟩
        · rintro h2 h3 r f2 g2 ⟨rfl, rfl, rfl⟩
          have hw1 : p1.2.1 = none := Classical.byContradiction fun z => h2 ((wI_ge hpt.1).mpr z)
          rw [nI_1, show (4 : Int32) = nI 4 from rfl, nI_leI (by decide) (by omega)] at h3
          rw [if_pos ⟨hw1, by omega⟩] at hq
          rw [nI_1]
          refine k_Mo_conditionRow_45 X Post _ _ _ _ _ _ ?_ ?_
          · intro h4
            rw [if_neg h4] at hq
            exact s4z (m + 1, pSee t p1) (pok_see hpt) hq
          · intro h4
            rw [if_pos h4] at hq
            refine k_Mo_conditionRow_55 X Post _ _ _ _ _ _ ?_ ?_
            · intro z; exact absurd z (by decide +kernel)
            · intro _
              rw [psF_adv]
              exact ih (m + 1) (pAdv (pSee t p1)) (by omega) (by omega) (pok_plus (pok_see hpt) h4 (by decide +kernel)) hq
  refine k_Mo_conditionRow_0 X Post _ _ _ ?_
  exact loop 4 0 p rfl (by decide) hp hq
