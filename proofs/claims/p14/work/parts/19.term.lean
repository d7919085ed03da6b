-- a term of a condition
def pT1 (t : Nat) (p : PS) : PS := if pC t (pSee t p) = 113 ∨ pC t (pSee t p) = 112 then pSee t p else pFail (pSee t p).1 (pSee t p)
def pT2 (t : Nat) (s c : Int32) (p : PS) : PS := if c = 113 then pSet 12 s (pVal t 1 60 (pAdv p)) (pNum t 1 60 (pAdv p)) else pSet 12 s 0 (pAdv p)
def pT4 (t : Nat) (c : Int32) (p : PS) : PS := if pC t (pSee t p) = 60 ∨ pC t (pSee t p) = 62 ∨ (pC t (pSee t p) = 61 ∧ ¬ c = 112) then pSee t p else pFail (pSee t p).1 (pSee t p)
def pT5 (t : Nat) (s r : Int32) (p : PS) : PS := pSet 12 (s + 2) (pVal t 0 9999 (pSet 12 (s + 1) r (pAdv p))) (pNum t 0 9999 (pSet 12 (s + 1) r (pAdv p)))
def pTb (t : Nat) (s c : Int32) (p : PS) : PS := if p.2.1 = none then (if (pT4 t c p).2.1 = none then pT5 t s (pC t (pSee t p)) (pT4 t c p) else pT4 t c p) else p
def pT (t : Nat) (s : Int32) (p : PS) : PS := if (pT1 t p).2.1 = none then pTb t s (pC t (pSee t p)) (pT2 t s (pC t (pSee t p)) (pT1 t p)) else pT1 t p
theorem pok_T1 {t : Nat} {p : PS} (h : pok t p) (ht : t ≤ 400) : pok t (pT1 t p) := by
  unfold pT1
  split
  · exact pok_see h
  · exact pok_fail (pok_see h) (by have := pok_n (pok_see h) ht; omega)
theorem pT1_ok {t : Nat} {p : PS} (h : (pT1 t p).2.1 = none) : (pC t (pSee t p) = 113 ∨ pC t (pSee t p) = 112) ∧ pT1 t p = pSee t p := by
  unfold pT1 at h ⊢
  split at h
  · rename_i q; exact ⟨q, if_pos q⟩
  · exact absurd h fl_ne
theorem pok_T1a {t : Nat} {p : PS} (h : pok t p) (hw : (pT1 t p).2.1 = none) : pok t (pAdv (pT1 t p)) := by
  obtain ⟨h1, h2⟩ := pT1_ok hw
  rw [h2]
  rcases h1 with q | q
  · exact pok_plus (pok_see h) q (by decide +kernel)
  · exact pok_plus (pok_see h) q (by decide +kernel)
theorem pok_T2 {t : Nat} {s c : Int32} {p : PS} (h : pok t (pAdv p)) (ht : t ≤ 400) : pok t (pT2 t s c p) := by
  unfold pT2
  split
  · exact pok_set (pok_num h ht)
  · exact pok_set h
theorem pok_T4 {t : Nat} {c : Int32} {p : PS} (h : pok t p) (ht : t ≤ 400) : pok t (pT4 t c p) := by
  unfold pT4
  split
  · exact pok_see h
  · exact pok_fail (pok_see h) (by have := pok_n (pok_see h) ht; omega)
theorem pok_T4a {t : Nat} {c : Int32} {p : PS} (h : pok t p) (hw : (pT4 t c p).2.1 = none) : pok t (pAdv (pT4 t c p)) := by
  unfold pT4 at hw ⊢
  split at hw
  · rename_i q
    rw [if_pos q]
    rcases q with q | q | q
    · exact pok_plus (pok_see h) q (by decide +kernel)
    · exact pok_plus (pok_see h) q (by decide +kernel)
    · exact pok_plus (pok_see h) q.1 (by decide +kernel)
  · exact absurd hw fl_ne
theorem pok_T {t : Nat} {s : Int32} {p : PS} (h : pok t p) (ht : t ≤ 400) : pok t (pT t s p) := by
  unfold pT
  split
  · rename_i hw
    have h2 := pok_T2 (s := s) (c := pC t (pSee t p)) (pok_T1a h hw) ht
    unfold pTb
    split
    · split
      · rename_i h4
        exact pok_set (pok_num (pok_set (pok_T4a h2 h4)) ht)
      · exact pok_T4 h2 ht
    · exact h2
  · exact pok_T1 h ht
theorem mo_T1 {t : Nat} {p : PS} : p.1 ≤ (pT1 t p).1 := by
  unfold pT1
  split
  · exact mo_see t p
  · exact mo_see t p
theorem mo_T2 {t : Nat} {s c : Int32} {p : PS} : p.1 ≤ (pT2 t s c p).1 := by
  unfold pT2
  split
  · exact Nat.le_trans (Nat.le_succ p.1) (mo_num t 1 60 (pAdv p))
  · exact Nat.le_succ p.1
theorem mo_T4 {t : Nat} {c : Int32} {p : PS} : p.1 ≤ (pT4 t c p).1 := by
  unfold pT4
  split
  · exact mo_see t p
  · exact mo_see t p
theorem mo_T5 {t : Nat} {s r : Int32} {p : PS} : p.1 ≤ (pT5 t s r p).1 := Nat.le_trans (Nat.le_succ p.1) (mo_num t 0 9999 (pSet 12 (s + 1) r (pAdv p)))
theorem mo_Tb {t : Nat} {s c : Int32} {p : PS} : p.1 ≤ (pTb t s c p).1 := by
  unfold pTb
  split
  · split
    · exact Nat.le_trans (mo_T4 (t := t) (c := c)) mo_T5
    · exact mo_T4
  · exact Nat.le_refl _
theorem mo_T {t : Nat} {s : Int32} {p : PS} : p.1 ≤ (pT t s p).1 := by
  unfold pT
  split
  · exact Nat.le_trans mo_T1 (Nat.le_trans (mo_T2 (t := t) (s := s) (c := pC t (pSee t p))) mo_Tb)
  · exact mo_T1
set_option maxHeartbeats 2000000 in
theorem c_term (T : ST) (s : Nat) (f0 : FT) (p : PS) (t : Nat) (h1 : f0 1 = nI t) (ht : t ≤ 400) (hp : pok t p) (hs : s + 2 < 8400) (Post : FT → GT → Prop) (hq : Post (psF f0 (pT t (nI s) p)) (psG (pT t (nI s) p))) : mV T y_Mo_term (Cond.code y_Mo_term b_Mo_term 4 none) 3 [.ref (ad T 0), .int (nI s)] (psF f0 p) (psG p) Post := by
  refine e_Mo_term T Post _ _ _ ?_
  rintro C rfl X
  have hb0 : vp_in (nI s) 8400 := vi_n (by omega) (by decide)
  have hb1 : vp_in (nI s + 1) 8400 := by rw [nI_1]; exact vi_n (by omega) (by decide)
  have hb2 : vp_in (nI s + 2) 8400 := by rw [show (2 : Int32) = nI 2 from rfl, nI_add]; exact vi_n (by omega) (by decide)
  generalize nI s = S at hq hb0 hb1 hb2 ⊢
  have s111 : ∀ x2 r p, pok t p → (p.2.1 = none → pok t (pAdv p)) → (if p.2.1 = none then Post (psF f0 (pT5 t S r p)) (psG (pT5 t S r p)) else Post (psF f0 p) (psG p)) → zn_term C Post 111 [(0, .ref (ad C.1 0)), (1, .int S), (2, .int x2), (3, .int r)] [] (psF f0 p) (psG p) := by
    intro x2 r p hp ha hq
    refine k_Mo_term_111 X Post (P_150 := fun y f' g' => y = pVal t 0 9999 (pSet 12 (S + 1) r (pAdv p)) ∧ f' = psF f0 (pNum t 0 9999 (pSet 12 (S + 1) r (pAdv p))) ∧ g' = psG (pNum t 0 9999 (pSet 12 (S + 1) r (pAdv p)))) _ _ _ _ _ ?_ ?_ ?_ ?_
    · intro _; exact hb1
    · intro h
      rw [psF_adv]
      exact c_numQ _ 0 9999 f0 (pSet 12 (S + 1) r (pAdv p)) t h1 ht (pok_set (ha ((wI_lt hp.1).mp h))) _ ⟨rfl, rfl, rfl⟩
    · rintro h y f1 g1 ⟨rfl, rfl, rfl⟩
      rw [if_pos ((wI_lt hp.1).mp h)] at hq
      exact k_Mo_term_153 X Post _ _ _ _ _ _ _ hb2 hq
    · intro h
      rw [if_neg (fun z => h ((wI_lt hp.1).mpr z))] at hq
      exact hq
  have s65 : ∀ x2 y0 p, pok t p → Post (psF f0 (pTb t S x2 (pSet 12 S y0 p))) (psG (pTb t S x2 (pSet 12 S y0 p))) → zn_term C Post 65 [(0, .ref (ad C.1 0)), (1, .int S), (2, .int x2)] [.int y0, .int S, .ref (ad C.1 13)] (psF f0 p) (psG p) := by
    intro x2 y0 p hp hq
    have hp2 : pok t (pSet 12 S y0 p) := pok_set hp
    refine k_Mo_term_65 X Post (P_75 := fun r f' g' => r = pC t (pSee t (pSet 12 S y0 p)) ∧ f' = psF f0 (pSee t (pSet 12 S y0 p)) ∧ g' = psG (pSee t (pSet 12 S y0 p))) _ _ _ _ _ _ hb0 ?_ ?_ ?_
    · intro _
      exact c_seeQ _ f0 (pSet 12 S y0 p) t h1 ht hp2 _ ⟨rfl, rfl, rfl⟩
    · rintro h r f1 g1 ⟨rfl, rfl, rfl⟩
      have hw : (pSet 12 S y0 p).2.1 = none := (wI_lt hp.1).mp h
      generalize pSet 12 S y0 p = p2 at hq hp2 hw ⊢
      unfold pTb at hq
      rw [if_pos hw] at hq
      have h4 := pok_T4 (c := x2) hp2 ht
      have h4a := fun z => pok_T4a (c := x2) hp2 z
      have hq' : (if (pT4 t x2 p2).2.1 = none then Post (psF f0 (pT5 t S (pC t (pSee t p2)) (pT4 t x2 p2))) (psG (pT5 t S (pC t (pSee t p2)) (pT4 t x2 p2))) else Post (psF f0 (pT4 t x2 p2)) (psG (pT4 t x2 p2))) := by
        split
        · rename_i z; rw [if_pos z] at hq; exact hq
        · rename_i z; rw [if_neg z] at hq; exact hq
      have fin := s111 x2 (pC t (pSee t p2)) (pT4 t x2 p2) h4 h4a hq'
      have hgood : (pC t (pSee t p2) = 60 ∨ pC t (pSee t p2) = 62 ∨ (pC t (pSee t p2) = 61 ∧ ¬ x2 = 112)) → pT4 t x2 p2 = pSee t p2 := fun z => if_pos z
      have hbad : ¬ (pC t (pSee t p2) = 60 ∨ pC t (pSee t p2) = 62 ∨ (pC t (pSee t p2) = 61 ∧ ¬ x2 = 112)) → zn_term C Post 103 [(0, .ref (ad C.1 0)), (1, .int S), (2, .int x2), (3, .int (pC t (pSee t p2)))] [] (psF f0 (pSee t p2)) (psG (pSee t p2)) := by
        intro z
        have e : pT4 t x2 p2 = pFail (pSee t p2).1 (pSee t p2) := if_neg z
        rw [e] at fin
        refine k_Mo_term_103 X Post (P_108 := fun f' g' => f' = psF f0 (pFail (pSee t p2).1 (pSee t p2)) ∧ g' = psG (pFail (pSee t p2).1 (pSee t p2))) _ _ _ _ _ ?_ ?_
        · exact c_failQ _ f0 (pSee t p2) t (pok_see hp2) _ ⟨rfl, rfl⟩
        · rintro f2 g2 ⟨rfl, rfl⟩
          exact fin
      refine k_Mo_term_78 X Post _ _ _ _ _ ?_ ?_ ?_ ?_ ?_
      · intro z; rw [hgood (Or.inl z)] at fin; exact fin
      · intro _ z; rw [hgood (Or.inr (Or.inl z))] at fin; exact fin
      · intro z1 z2 z3; exact hbad (fun y => y.elim z1 (fun y => y.elim z2 (fun y => z3 y.1)))
      · intro z1 z2 z3 z4; rw [hgood (Or.inr (Or.inr ⟨z3, z4⟩))] at fin; exact fin
      · intro z1 z2 z3 z4; exact hbad (fun y => y.elim z1 (fun y => y.elim z2 (fun y => y.2 z4)))
    · intro h
      have hw : ¬ (pSet 12 S y0 p).2.1 = none := fun z => h ((wI_lt hp.1).mpr z)
      unfold pTb at hq
      rw [if_neg hw] at hq
      exact hq
  have s25 : ∀ x2 p1, pok t p1 → (p1.2.1 = none → pok t (pAdv p1)) → (if p1.2.1 = none then Post (psF f0 (pTb t S x2 (pT2 t S x2 p1))) (psG (pTb t S x2 (pT2 t S x2 p1))) else Post (psF f0 p1) (psG p1)) → zn_term C Post 25 [(0, .ref (ad C.1 0)), (1, .int S), (2, .int x2)] [] (psF f0 p1) (psG p1) := by
    intro x2 p1 hp1 ha hq
    refine k_Mo_term_25 X Post (P_58 := fun r f' g' => r = pVal t 1 60 (pAdv p1) ∧ f' = psF f0 (pNum t 1 60 (pAdv p1)) ∧ g' = psG (pNum t 1 60 (pAdv p1))) _ _ _ _ ?_ ?_ ?_ ?_
    · intro h h2
      have hw := (wI_lt hp1.1).mp h
      rw [if_pos hw, show pT2 t S x2 p1 = pSet 12 S 0 (pAdv p1) from if_neg h2] at hq
      rw [psF_adv]
      exact s65 x2 0 (pAdv p1) (ha hw) hq
    · intro h h2
      rw [psF_adv]
      exact c_numQ _ 1 60 f0 (pAdv p1) t h1 ht (ha ((wI_lt hp1.1).mp h)) _ ⟨rfl, rfl, rfl⟩
    · rintro h h2 r f1 g1 ⟨rfl, rfl, rfl⟩
      have hw := (wI_lt hp1.1).mp h
      rw [if_pos hw, show pT2 t S x2 p1 = pSet 12 S (pVal t 1 60 (pAdv p1)) (pNum t 1 60 (pAdv p1)) from if_pos h2] at hq
      refine k_Mo_term_61 X Post _ _ _ _ _ _ ?_
      exact s65 x2 _ (pNum t 1 60 (pAdv p1)) (pok_num (ha hw) ht) hq
    · intro h
      rw [if_neg (fun z => h ((wI_lt hp1.1).mpr z))] at hq
      exact hq
  have hq' : (if (pT1 t p).2.1 = none then Post (psF f0 (pTb t S (pC t (pSee t p)) (pT2 t S (pC t (pSee t p)) (pT1 t p)))) (psG (pTb t S (pC t (pSee t p)) (pT2 t S (pC t (pSee t p)) (pT1 t p)))) else Post (psF f0 (pT1 t p)) (psG (pT1 t p))) := by
    unfold pT at hq
    split
    · rename_i z; rw [if_pos z] at hq; exact hq
    · rename_i z; rw [if_neg z] at hq; exact hq
  have fin := s25 (pC t (pSee t p)) (pT1 t p) (pok_T1 hp ht) (fun z => pok_T1a hp z) hq'
  refine k_Mo_term_0 X Post (P_1 := fun r f' g' => r = pC t (pSee t p) ∧ f' = psF f0 (pSee t p) ∧ g' = psG (pSee t p)) _ _ _ ?_ ?_
  · exact c_seeQ _ f0 p t h1 ht hp _ ⟨rfl, rfl, rfl⟩
  rintro r f1 g1 ⟨rfl, rfl, rfl⟩
  refine k_Mo_term_4 X Post (P_22 := fun f' g' => f' = psF f0 (pFail (pSee t p).1 (pSee t p)) ∧ g' = psG (pFail (pSee t p).1 (pSee t p))) _ _ _ _ ?_ ?_ ?_ ?_
  · intro z; rw [show pT1 t p = pSee t p from if_pos (Or.inl z)] at fin; exact fin
  · intro _ z; rw [show pT1 t p = pSee t p from if_pos (Or.inr z)] at fin; exact fin
  · intro _ _; exact c_failQ _ f0 (pSee t p) t (pok_see hp) _ ⟨rfl, rfl⟩
  · rintro z1 z2 f2 g2 ⟨rfl, rfl⟩
    rw [show pT1 t p = pFail (pSee t p).1 (pSee t p) from if_neg (fun y => y.elim z1 z2)] at fin; exact fin
