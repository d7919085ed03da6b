-- the words of a question
def pWE (k : Int32) (m : Nat) (p : PS) : PS :=
  let p1 := if m = 0 then pFail p.1 p else p
  let p2 := if p1.2.1 = none then pAdv p1 else p1
  pSet 5 k (nI m) p2
def pWL (t : Nat) (k : Int32) : Nat → Nat → PS → PS
  | 0, _, p => p
  | j + 1, m, p => if p.2.1 = none ∧ ¬ pC t p = 34 then (if inV (pC t p) 32 126 = 0 ∨ m = 12 then pFail p.1 p else pWL t k j (m + 1) (pAdv (pSet 6 (k * 12 + nI m) (pC t p) p))) else pWE k m p
def pWords (t : Nat) (k : Int32) (p : PS) : PS := pWL t k 13 0 (pTake t 34 p)
set_option maxHeartbeats 1000000 in
theorem c_words (T : ST) (q l : Int32) (K : Nat) (f0 : FT) (p : PS) (t : Nat) (h1 : f0 1 = nI t) (ht : t ≤ 400) (hp : pok t p) (hk : (f0 8 * 61 + q) * 2 + l = nI K) (hK : K < 1220) (Post : FT → GT → Prop) (hq : Post (psF f0 (pWords t (nI K) p)) (psG (pWords t (nI K) p))) : mV T y_Mo_words (Cond.code y_Mo_words b_Mo_words 5 none) 3 [.ref (ad T 0), .int q, .int l] (psF f0 p) (psG p) Post := by
  refine e_Mo_words T Post q l _ _ ?_
  rintro C rfl X
  have hidx : ∀ m, m < 12 → vp_in (nI K * 12 + nI m) 14640 := fun m hm => by
    rw [show (12 : Int32) = nI 12 from rfl, pk_mul, nI_add]
    exact vi_n (by omega) (by decide)
  have fin : ∀ m p, pok t p → Post (psF f0 (pWE (nI K) m p)) (psG (pWE (nI K) m p)) → m < 2 ^ 31 → zn_words C Post 101 [(0, .ref (ad C.1 0)), (1, .int q), (2, .int l), (3, .int (nI K)), (4, .int (nI m))] [] (psF f0 p) (psG p) := by
    intro m p hp hq hm
    have s131 : ∀ p, Post (psF f0 (pSet 5 (nI K) (nI m) p)) (psG (pSet 5 (nI K) (nI m) p)) → zn_words C Post 131 [(0, .ref (ad C.1 0)), (1, .int q), (2, .int l), (3, .int (nI K)), (4, .int (nI m))] [] (psF f0 p) (psG p) := fun p hq => k_Mo_words_131 X Post _ _ _ _ _ _ (vi_n hK (by decide)) hq
    have s114 : ∀ p, pok t p → Post (psF f0 (pSet 5 (nI K) (nI m) (if p.2.1 = none then pAdv p else p))) (psG (pSet 5 (nI K) (nI m) (if p.2.1 = none then pAdv p else p))) → zn_words C Post 114 [(0, .ref (ad C.1 0)), (1, .int q), (2, .int l), (3, .int (nI K)), (4, .int (nI m))] [] (psF f0 p) (psG p) := by
      intro p hp hq
      refine k_Mo_words_114 X Post _ _ _ _ _ _ ?_ ?_
      · intro h
        rw [if_neg ((wI_ge hp.1).mp h)] at hq
        exact s131 p hq
      · intro h
        rw [if_pos (Classical.byContradiction fun z => h ((wI_ge hp.1).mpr z))] at hq
        rw [psF_adv]
        exact s131 (pAdv p) hq
    unfold pWE at hq
    dsimp only at hq
    refine k_Mo_words_101 X Post (P_111 := fun f' g' => f' = psF f0 (pFail p.1 p) ∧ g' = psG (pFail p.1 p)) _ _ _ _ _ _ ?_ ?_ ?_
    · intro h
      have hm0 : ¬ m = 0 := fun e => h (by rw [e]; rfl)
      simp only [if_neg hm0] at hq
      exact s114 p hp hq
    · intro h
      exact c_failQ _ f0 p t hp _ ⟨rfl, rfl⟩
    · rintro h f1 g1 ⟨rfl, rfl⟩
      have hm0 : m = 0 := by rwa [show (0 : Int32) = nI 0 from rfl, nI_eq hm (by decide)] at h
      simp only [if_pos hm0] at hq
      exact s114 (pFail p.1 p) (pok_fail hp (by have := pok_n hp ht; omega)) hq
  have loop : ∀ j m p, j + m = 13 → pok t p → Post (psF f0 (pWL t (nI K) j m p)) (psG (pWL t (nI K) j m p)) → 0 < j → zn_words C Post 23 [(0, .ref (ad C.1 0)), (1, .int q), (2, .int l), (3, .int (nI K)), (4, .int (nI m))] [] (psF f0 p) (psG p) := by
    intro j
    induction j with
    | zero => intro m p _ _ _ h; omega
    | succ j ih =>
      intro m p hj hp hq _
      refine k_Mo_words_23 X Post (P_31 := fun r f' g' => r = pC t p ∧ f' = psF f0 p ∧ g' = psG p) _ _ _ _ _ _ ?_ ?_ ?_
      · intro h
        have e : pWL t (nI K) (j + 1) m p = pWE (nI K) m p := if_neg fun z => (wI_ge hp.1).mp h z.1
        rw [e] at hq
        exact fin m p hp hq (by omega)
      · intro h; exact c_hereQ _ f0 p t h1 ht hp _ ⟨rfl, rfl, rfl⟩
      · rintro h r f1 g1 ⟨rfl, rfl, rfl⟩
        have hw : p.2.1 = none := Classical.byContradiction fun z => h ((wI_ge hp.1).mpr z)
        refine k_Mo_words_34 X Post (P_40 := fun r f' g' => r = pC t p ∧ f' = psF f0 p ∧ g' = psG p) _ _ _ _ _ _ _ ?_ ?_ ?_
        · intro h2
          have e : pWL t (nI K) (j + 1) m p = pWE (nI K) m p := if_neg fun z => z.2 h2
          rw [e] at hq
          exact fin m p hp hq (by omega)
        · intro _; exact c_hereQ _ f0 p t h1 ht hp _ ⟨rfl, rfl, rfl⟩
        · rintro h2 r f2 g2 ⟨rfl, rfl, rfl⟩
          have e : pWL t (nI K) (j + 1) m p = (if inV (pC t p) 32 126 = 0 ∨ m = 12 then pFail p.1 p else pWL t (nI K) j (m + 1) (pAdv (pSet 6 (nI K * 12 + nI m) (pC t p) p))) := if_pos ⟨hw, h2⟩
          rw [e] at hq
          refine k_Mo_words_43 X Post (P_47 := fun r f' g' => r = inV (pC t p) 32 126 ∧ f' = psF f0 p ∧ g' = psG p) _ _ _ _ _ _ _ ?_ ?_
          · exact c_in _ _ _ _ _ _ _ ⟨rfl, rfl, rfl⟩
          rintro r f3 g3 ⟨rfl, rfl, rfl⟩
          have s60 : (inV (pC t p) 32 126 = 0 ∨ m = 12) → zn_words C Post 60 [(0, .ref (ad C.1 0)), (1, .int q), (2, .int l), (3, .int (nI K)), (4, .int (nI m))] [] (psF f0 p) (psG p) := by
            intro z
            rw [if_pos z] at hq
            refine k_Mo_words_60 X Post (P_65 := fun f' g' => f' = psF f0 (pFail p.1 p) ∧ g' = psG (pFail p.1 p)) _ _ _ _ _ _ ?_ ?_
            · exact c_failQ _ f0 p t hp _ ⟨rfl, rfl⟩
            · rintro f4 g4 ⟨rfl, rfl⟩
              exact k_Mo_words_68 X Post _ _ _ _ _ _ hq
          refine k_Mo_words_50 X Post (P_81 := fun r f' g' => r = pC t p ∧ f' = psF f0 p ∧ g' = psG p) _ _ _ _ _ _ _ ?_ ?_ ?_ ?_
          · intro z; exact s60 (Or.inl z)
          · intro _ _; exact c_hereQ _ f0 p t h1 ht hp _ ⟨rfl, rfl, rfl⟩
          · rintro z1 z2 r f4 g4 ⟨rfl, rfl, rfl⟩
            have hm : ¬ m = 12 := fun z => z2 (by rw [z]; rfl)
            rw [if_neg (fun z => z.elim z1 hm)] at hq
            have hlt : p.1 < t := tp_lt (g0 := p.2.2.2 0) (fun z => z1 (by rw [show pC t p = -1 from z]; decide +kernel))
            refine k_Mo_words_84 X Post _ _ _ _ _ _ _ _ (hidx m (by omega)) ?_
            rw [psF_adv f0 p, nI_1]
            exact ih (m + 1) (pAdv (pSet 6 (nI K * 12 + nI m) (pC t p) p)) (by omega) (pok_adv (pok_set hp) (by show p.1 ≤ t; omega) (fun _ => hlt)) hq (by omega)
          · intro z1 z2
            rw [show (12 : Int32) = nI 12 from rfl, nI_eq (by omega) (by decide)] at z2
            exact s60 (Or.inr z2)
  refine k_Mo_words_0 X Post (P_3 := fun f' g' => f' = psF f0 (pTake t 34 p) ∧ g' = psG (pTake t 34 p)) _ _ _ _ ?_ ?_
  · exact c_takeQ _ 34 f0 p t h1 ht hp _ ⟨rfl, rfl⟩
  rintro f1 g1 ⟨rfl, rfl⟩
  refine k_Mo_words_6 X Post _ _ _ _ ?_
  rw [show psF f0 (pTake t 34 p) 8 = f0 8 from rfl, hk]
  exact loop 13 0 (pTake t 34 p) rfl (pok_take hp ht (by decide +kernel)) hq (by decide)
