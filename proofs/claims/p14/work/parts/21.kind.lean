def pKs (t k i : Nat) (p : PS) : PS := pSet 11 (nI k) (psG (pCR t (nI ((k * 6 + i) * 14)) p) 11 (nI k).toNatClampNeg + 1) (pCR t (nI ((k * 6 + i) * 14)) p)
def pKL (t k : Nat) : Nat → Nat → PS → PS
  | 0, _, p => p
  | j + 1, i, p => if p.2.1 = none ∧ i < 6 then (if pC t (pSee t p) = 40 then pKL t k j (i + 1) (pKs t k i (pAdv (pSee t p))) else pSee t p) else p
def pK1 (t : Nat) (q : Int32) (p : PS) : PS := pTake t 61 (pSet 14 q (vp_nar .boolean 1) p)
def pK2 (t k : Nat) (p : PS) : PS := pTake t 58 (pSet 9 (nI k) (pVal t 1 60 p) (pNum t 1 60 p))
def pK3 (t k : Nat) (p : PS) : PS := pSet 11 (nI k) 0 (pSet 10 (nI k) (pVal t 0 9 p) (pNum t 0 9 p))
def pKz (t k : Nat) (q : Int32) (p : PS) : PS := pTake t 59 (pKL t k 7 0 (pK3 t k (pK2 t k (pK1 t q p))))
def pK (t into : Nat) (p : PS) : PS := if (pQ1 t 1 9 14 p).2.1 = none then pKz t (into * 10 + (pVal t 1 9 p).toNatClampNeg) (pVal t 1 9 p) (pQ1 t 1 9 14 p) else pQ1 t 1 9 14 p
theorem pok_Ks {t k i : Nat} {p : PS} (h : pok t p) (ht : t ≤ 400) : pok t (pKs t k i p) := pok_set (pok_CR h ht)
theorem pok_KL {t k : Nat} (ht : t ≤ 400) : ∀ j i (p : PS), pok t p → pok t (pKL t k j i p) := by
  intro j
  induction j with
  | zero => intro i p h; exact h
  | succ j ih =>
    intro i p h
    unfold pKL
    split
    · split
      · rename_i z
        exact ih _ _ (pok_Ks (pok_plus (pok_see h) z (by decide +kernel)) ht)
      · exact pok_see h
    · exact h
theorem pok_K1 {t : Nat} {q : Int32} {p : PS} (h : pok t p) (ht : t ≤ 400) : pok t (pK1 t q p) := pok_take (pok_set h) ht (by decide +kernel)
theorem pok_K2 {t k : Nat} {p : PS} (h : pok t p) (ht : t ≤ 400) : pok t (pK2 t k p) := pok_take (pok_set (pok_num h ht)) ht (by decide +kernel)
theorem pok_K3 {t k : Nat} {p : PS} (h : pok t p) (ht : t ≤ 400) : pok t (pK3 t k p) := pok_set (pok_set (pok_num h ht))
theorem pok_K {t into : Nat} {p : PS} (h : pok t p) (ht : t ≤ 400) : pok t (pK t into p) := by
  unfold pK
  split
  · exact pok_take (pok_KL ht 7 0 _ (pok_K3 (pok_K2 (pok_K1 (pok_Q1 h ht) ht) ht) ht)) ht (by decide +kernel)
  · exact pok_Q1 h ht
theorem mo_Ks {t k i : Nat} {p : PS} : p.1 ≤ (pKs t k i p).1 := mo_CR (t := t) (c := nI ((k * 6 + i) * 14)) (p := p)
theorem mo_KL {t k : Nat} : ∀ j i (p : PS), p.1 ≤ (pKL t k j i p).1 := by
  intro j
  induction j with
  | zero => intro i p; exact Nat.le_refl _
  | succ j ih =>
    intro i p
    have h2 := mo_see t p
    unfold pKL
    split
    · split
      · exact Nat.le_trans h2 (Nat.le_trans (Nat.le_succ _) (Nat.le_trans (mo_Ks (t := t) (k := k) (i := i) (p := pAdv (pSee t p))) (ih _ _)))
      · exact h2
    · exact Nat.le_refl _
theorem mo_K {t into : Nat} {p : PS} : p.1 ≤ (pK t into p).1 := by
  unfold pK
  split
  · generalize into * 10 + (pVal t 1 9 p).toNatClampNeg = k
    generalize pVal t 1 9 p = q
    refine Nat.le_trans (mo_Q1 (t := t) (a := 1) (b := 9) (j := 14)) ?_
    generalize pQ1 t 1 9 14 p = p1
    refine Nat.le_trans (mo_take t 61 (pSet 14 q (vp_nar .boolean 1) p1)) ?_
    refine Nat.le_trans (mo_num t 1 60 (pK1 t q p1)) ?_
    refine Nat.le_trans (mo_take t 58 (pSet 9 (nI k) (pVal t 1 60 (pK1 t q p1)) (pNum t 1 60 (pK1 t q p1)))) ?_
    refine Nat.le_trans (mo_num t 0 9 (pK2 t k (pK1 t q p1))) ?_
    refine Nat.le_trans (mo_KL (t := t) (k := k) 7 0 (pK3 t k (pK2 t k (pK1 t q p1)))) ?_
    exact mo_take t 59 _
  · exact mo_Q1
set_option maxHeartbeats 2000000 in
theorem c_kindRow (T : ST) (into : Nat) (f0 : FT) (p : PS) (t : Nat) (h1 : f0 1 = nI t) (ht : t ≤ 400) (hp : pok t p) (h8 : f0 8 = nI into) (hi : into ≤ 9) (Post : FT → GT → Prop) (hq : Post (psF f0 (pK t into p)) (psG (pK t into p))) : mV T y_Mo_kindRow (Cond.code y_Mo_kindRow b_Mo_kindRow 3 none) 5 [.ref (ad T 0)] (psF f0 p) (psG p) Post := by
  refine e_Mo_kindRow T Post _ _ ?_
  rintro C rfl X
  obtain ⟨q, eq, hq1, hq2⟩ := pVal_n (t := t) (A := 1) (B := 9) (p := p) (by decide) (by decide)
  replace eq : pVal t 1 9 p = nI q := eq
  have hqc : (nI q).toNatClampNeg = q := nI_clamp (by omega)
  have hkk : f0 8 * 10 + nI q = nI (into * 10 + q) := by rw [h8, show (10 : Int32) = nI 10 from rfl, pk_mul, nI_add]
  unfold pK at hq
  rw [eq, hqc] at hq
  have hkb : into * 10 + q < 100 := by omega
  generalize into * 10 + q = k at hq hkk hkb
  have hv10 : vp_in (nI q) 10 := vi_n (by omega) (by decide)
  have hv100 : vp_in (nI k) 100 := vi_n hkb (by decide)
  have s172 : ∀ p, pok t p → Post (psF f0 (pTake t 59 p)) (psG (pTake t 59 p)) → zn_kindRow C Post 172 [(0, .ref (ad C.1 0)), (1, .int (nI q)), (2, .int (nI k))] [] (psF f0 p) (psG p) := by
    intro p hp hq
    refine k_Mo_kindRow_172 X Post (P_175 := fun f' g' => f' = psF f0 (pTake t 59 p) ∧ g' = psG (pTake t 59 p)) _ _ _ _ ?_ ?_
    · exact c_takeQ _ 59 f0 p t h1 ht hp _ ⟨rfl, rfl⟩
    rintro f1 g1 ⟨rfl, rfl⟩
    exact k_Mo_kindRow_178 X Post _ _ _ _ hq
  have loop : ∀ j i p, j + i = 7 → 0 < j → pok t p → psG p 11 (nI k).toNatClampNeg = nI i → Post (psF f0 (pTake t 59 (pKL t k j i p))) (psG (pTake t 59 (pKL t k j i p))) → zn_kindRow C Post 104 [(0, .ref (ad C.1 0)), (1, .int (nI q)), (2, .int (nI k))] [] (psF f0 p) (psG p) := by
    intro j
    induction j with
    | zero => intro i p _ h; omega
    | succ j ih =>
      intro i p hj _ hp hinv hq
      refine k_Mo_kindRow_104 X Post (P_123 := fun r f' g' => r = pC t (pSee t p) ∧ f' = psF f0 (pSee t p) ∧ g' = psG (pSee t p)) _ _ _ _ ?_ ?_ ?_ ?_ ?_
      · intro h
        have e : pKL t k (j + 1) i p = p := if_neg (fun z => (wI_ge hp.1).mp h z.1)
        rw [e] at hq
        exact s172 p hp hq
      · intro _; exact hv100
      · intro _ h
        rw [hinv, show (6 : Int32) = nI 6 from rfl, nI_leI (by decide) (by omega)] at h
        have e : pKL t k (j + 1) i p = p := if_neg (fun z => by omega)
        rw [e] at hq
        exact s172 p hp hq
      · intro _ _
        exact c_seeQ _ f0 p t h1 ht hp _ ⟨rfl, rfl, rfl⟩
      · rintro h h6 r f1 g1 ⟨rfl, rfl, rfl⟩
        have hw : p.2.1 = none := Classical.byContradiction fun z => h ((wI_ge hp.1).mpr z)
        rw [hinv, show (6 : Int32) = nI 6 from rfl, nI_leI (by decide) (by omega)] at h6
        have hp2 : pok t (pSee t p) := pok_see hp
        have hinv2 : psG (pSee t p) 11 (nI k).toNatClampNeg = nI i := hinv
        have e : pKL t k (j + 1) i p = (if pC t (pSee t p) = 40 then pKL t k j (i + 1) (pKs t k i (pAdv (pSee t p))) else pSee t p) := if_pos ⟨hw, by omega⟩
        rw [e] at hq
        clear e
        generalize pSee t p = p2 at hq hp2 hinv2 ⊢
        refine k_Mo_kindRow_126 X Post (P_156 := fun f' g' => f' = psF f0 (pCR t (nI ((k * 6 + i) * 14)) (pAdv p2)) ∧ g' = psG (pCR t (nI ((k * 6 + i) * 14)) (pAdv p2))) _ _ _ _ _ ?_ ?_ ?_ ?_
        · intro h2
          rw [if_neg h2] at hq
          exact s172 p2 hp2 hq
        · intro _; exact hv100
        · intro h2
          rw [psF_adv, hinv2, show (nI k * 6 + nI i) * 14 = nI ((k * 6 + i) * 14) by rw [show (6 : Int32) = nI 6 from rfl, show (14 : Int32) = nI 14 from rfl, pk_mul, nI_add, pk_mul]]
          exact c_cond _ _ f0 (pAdv p2) t h1 ht (pok_plus hp2 h2 (by decide +kernel)) (by omega) _ ⟨rfl, rfl⟩
        · rintro h2 f2 g2 ⟨rfl, rfl⟩
          rw [if_pos h2] at hq
          have hps := pok_Ks (k := k) (i := i) (pok_plus hp2 h2 (by decide +kernel)) ht
          have hinv3 : psG (pCR t (nI ((k * 6 + i) * 14)) (pAdv p2)) 11 (nI k).toNatClampNeg = nI i := by rw [pCR_g t _ _ (by decide)]; exact hinv2
          refine k_Mo_kindRow_159 X Post _ _ _ _ hv100 hv100 ?_
          have fin := ih (i + 1) (pKs t k i (pAdv p2)) (by omega) (by omega) hps (by
            unfold pKs
            rw [psG_set, up_same, show ∀ (f : Nat → Int32) (a : Nat) (v : Int32), upd f a v a = v from fun f a v => if_pos rfl, hinv3, nI_1]) hq
          unfold pKs at fin
          rw [psF_set, psG_set] at fin
          exact fin
  have s34 : ∀ p2, pok t p2 → (if p2.2.1 = none then Post (psF f0 (pKz t k (nI q) p2)) (psG (pKz t k (nI q) p2)) else Post (psF f0 p2) (psG p2)) → zn_kindRow C Post 34 [(0, .ref (ad C.1 0)), (1, .int (nI q))] [] (psF f0 p2) (psG p2) := by
    intro p2 hp2 hq
    refine k_Mo_kindRow_34 X Post (P_62 := fun f' g' => f' = psF f0 (pK1 t (nI q) p2) ∧ g' = psG (pK1 t (nI q) p2)) _ _ _ ?_ ?_ ?_ ?_
    · intro _; exact hv10
    · intro _
      exact c_takeQ _ 61 f0 (pSet 14 (nI q) (vp_nar .boolean 1) p2) t h1 ht (pok_set hp2) _ ⟨rfl, rfl⟩
    · rintro h f1 g1 ⟨rfl, rfl⟩
      rw [if_pos ((wI_lt hp2.1).mp h)] at hq
      rw [show psF f0 p2 8 = f0 8 from rfl, hkk]
      unfold pKz at hq
      have hp3 := pok_K1 (q := nI q) hp2 ht
      generalize pK1 t (nI q) p2 = p3 at hq hp3 ⊢
      refine k_Mo_kindRow_65 X Post (P_74 := fun r f' g' => r = pVal t 1 60 p3 ∧ f' = psF f0 (pNum t 1 60 p3) ∧ g' = psG (pNum t 1 60 p3)) _ _ _ _ ?_ ?_
      · exact c_numQ _ 1 60 f0 p3 t h1 ht hp3 _ ⟨rfl, rfl, rfl⟩
      rintro r f2 g2 ⟨rfl, rfl, rfl⟩
      refine k_Mo_kindRow_77 X Post (P_81 := fun f' g' => f' = psF f0 (pK2 t k p3) ∧ g' = psG (pK2 t k p3)) _ _ _ _ _ _ hv100 ?_ ?_
      · exact c_takeQ _ 58 f0 (pSet 9 (nI k) (pVal t 1 60 p3) (pNum t 1 60 p3)) t h1 ht (pok_set (pok_num hp3 ht)) _ ⟨rfl, rfl⟩
      rintro f3 g3 ⟨rfl, rfl⟩
      have hp5 := pok_K2 (k := k) hp3 ht
      generalize pK2 t k p3 = p5 at hq hp5 ⊢
      refine k_Mo_kindRow_84 X Post (P_93 := fun r f' g' => r = pVal t 0 9 p5 ∧ f' = psF f0 (pNum t 0 9 p5) ∧ g' = psG (pNum t 0 9 p5)) _ _ _ _ ?_ ?_
      · exact c_numQ _ 0 9 f0 p5 t h1 ht hp5 _ ⟨rfl, rfl, rfl⟩
      rintro r f4 g4 ⟨rfl, rfl, rfl⟩
      refine k_Mo_kindRow_96 X Post _ _ _ _ _ _ hv100 hv100 ?_
      have fin := loop 7 0 (pK3 t k p5) rfl (by decide) (pok_K3 hp5 ht) (by
        unfold pK3
        rw [psG_set, up_same]
        exact if_pos rfl) hq
      unfold pK3 at fin
      rw [psF_set, psF_set, psG_set, psG_set, up_other _ _ (show (11 : Nat) ≠ 10 by decide)] at fin
      exact fin
    · intro h
      rw [if_neg (fun z => h ((wI_lt hp2.1).mpr z))] at hq
      exact hq
  have hp1 : pok t (pNum t 1 9 p) := pok_num hp ht
  have hpq : pok t (pQ1 t 1 9 14 p) := pok_Q1 hp ht
  have hq' : (if (pQ1 t 1 9 14 p).2.1 = none then Post (psF f0 (pKz t k (nI q) (pQ1 t 1 9 14 p))) (psG (pKz t k (nI q) (pQ1 t 1 9 14 p))) else Post (psF f0 (pQ1 t 1 9 14 p)) (psG (pQ1 t 1 9 14 p))) := by
    split
    · rename_i z; rw [if_pos z] at hq; exact hq
    · rename_i z; rw [if_neg z] at hq; exact hq
  have fin := s34 _ hpq hq'
  unfold pQ1 at fin
  rw [eq] at fin
  refine k_Mo_kindRow_0 X Post (P_4 := fun r f' g' => r = nI q ∧ f' = psF f0 (pNum t 1 9 p) ∧ g' = psG (pNum t 1 9 p)) _ _ ?_ ?_
  · exact c_numQ _ 1 9 f0 p t h1 ht hp _ ⟨eq, rfl, rfl⟩
  rintro r f1 g1 ⟨rfl, rfl, rfl⟩
  refine k_Mo_kindRow_7 X Post (P_31 := fun f' g' => f' = psF f0 (pFail ((pNum t 1 9 p).1 - 1) (pNum t 1 9 p)) ∧ g' = psG (pFail ((pNum t 1 9 p).1 - 1) (pNum t 1 9 p))) _ _ _ ?_ ?_ ?_ ?_ ?_
  · intro h
    rw [if_neg (fun z => (wI_ge hp1.1).mp h z.1)] at fin
    exact fin
  · intro _; exact hv10
  · intro h h2
    rw [if_neg (fun z => z.2 h2)] at fin
    exact fin
  · intro h h2
    have hw : (pNum t 1 9 p).2.1 = none := Classical.byContradiction fun z => h ((wI_ge hp1.1).mpr z)
    have hpos := (pNum_w hw).2
    obtain ⟨n', e⟩ : ∃ n', (pNum t 1 9 p).1 = n' + 1 := ⟨(pNum t 1 9 p).1 - 1, by omega⟩
    rw [show psF f0 (pNum t 1 9 p) 5 = nI (pNum t 1 9 p).1 from rfl, e, nI_pred, Nat.add_sub_cancel]
    exact c_failP _ n' f0 _ _ _ _ hp1.1 _ ⟨rfl, rfl⟩
  · rintro h h2 f2 g2 ⟨rfl, rfl⟩
    have hw : (pNum t 1 9 p).2.1 = none := Classical.byContradiction fun z => h ((wI_ge hp1.1).mpr z)
    rw [if_pos ⟨hw, h2⟩] at fin
    exact fin
