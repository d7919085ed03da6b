-- the rows of a text, with their contents
theorem pQ_eq {t into j m : Nat} {R : RD} {go : GT} {p : PS} {d : QD} (h : p.2.1 = none) (hR : RG into R go (psG p)) (e : kQues true (psG p 0) t (fun j => (R.1 j).isSome) p.1 = some (j, d, m)) : j ≤ 60 ∧ pQ t into p = pQz t (into * 61 + j) (nI j) (pNum t 1 60 p) ∧ (pNum t 1 60 p).2.1 = none ∧ ((kMust (psG p 0) t (pNum t 1 60 p).1).bind fun mu => kQ2 true (psG p 0) t j mu.1 mu.2) = some (j, d, m) := by
  obtain ⟨m0, e1, e2⟩ := kQues_ex e
  have hb : j ≤ 60 := kNum_b (B := 60) e1 (by decide)
  have hv : pVal t 1 60 p = nI j := val_num h e1
  have hc : (nI j).toNatClampNeg = j := nI_clamp (by omega)
  have h1 := RK_num t 1 60 h
  rw [e1] at h1
  have h2 : (pNum t 1 60 p).2.1 = none := h1.1
  have z2 : psG p 13 j = 0 := by
    by_cases y : psG p 13 j = 0
    · exact y
    · exact absurd ((hR.told0 (by omega)).mpr y) e2
  have e3 : pQ1 t 1 60 13 p = pNum t 1 60 p := if_neg (fun q => q.2 (by rw [hv, hc, pNum_g]; exact z2))
  refine ⟨hb, by unfold pQ; rw [e3, if_pos h2, hv, hc], h2, ?_⟩
  unfold kQues at e
  rw [e1] at e
  have e : (if (R.1 j).isSome = true then none else (kMust (psG p 0) t m0).bind fun mu => kQ2 true (psG p 0) t j mu.1 mu.2) = some (j, d, m) := e
  rw [if_neg e2] at e
  rw [show (pNum t 1 60 p).1 = m0 from h1.2]
  exact e
theorem pK_eq {t into j m : Nat} {R : RD} {go : GT} {p : PS} {d : KD} (h : p.2.1 = none) (hR : RG into R go (psG p)) (e : kKind true (psG p 0) t (fun j => (R.2 j).isSome) p.1 = some (j, d, m)) : j ≤ 9 ∧ pK t into p = pKz t (into * 10 + j) (nI j) (pNum t 1 9 p) ∧ (pNum t 1 9 p).2.1 = none ∧ kKind2 true (psG p 0) t j (pNum t 1 9 p).1 = some (j, d, m) ∧ ∃ m9, d.1 = nI m9 ∧ 1 ≤ m9 ∧ m9 ≤ 60 := by
  obtain ⟨m0, m1, f, e1, e2, e5, e6, e7⟩ := kKind_ex e
  have hb : j ≤ 9 := kNum_b (B := 9) e1 (by decide)
  have hv : pVal t 1 9 p = nI j := val_num h e1
  have hc : (nI j).toNatClampNeg = j := nI_clamp (by omega)
  have h1 := RK_num t 1 9 h
  rw [e1] at h1
  have h2 : (pNum t 1 9 p).2.1 = none := h1.1
  have z2 : psG p 14 j = 0 := by
    by_cases y : psG p 14 j = 0
    · exact y
    · exact absurd ((hR.told1 (by omega)).mpr y) e2
  have e3 : pQ1 t 1 9 14 p = pNum t 1 9 p := if_neg (fun q => q.2 (by rw [hv, hc, pNum_g]; exact z2))
  have hf1 : f.1 ≤ 60 := kNum_b (B := 60) (v := f.1) (m := f.2) e6 (by decide)
  have hf0 : 1 ≤ f.1 := by
    have := kNum_lo e6
    cases hz : f.1 with
    | zero => rw [hz] at this; exact absurd nI_0 this
    | succ i => omega
  refine ⟨hb, by unfold pK; rw [e3, if_pos h2, hv, hc], h2, ?_, f.1, e7, hf0, hf1⟩
  unfold kKind at e
  rw [e1] at e
  have e : (if (R.2 j).isSome = true then none else kKind2 true (psG p 0) t j m0) = some (j, d, m) := e
  rw [if_neg e2] at e
  rw [show (pNum t 1 9 p).1 = m0 from h1.2]
  exact e
theorem kMust_01 {g0 : Nat → Int32} {t n : Nat} {mu : Int32 × Nat} (h : kMust g0 t n = some mu) : mu.1 = 0 ∨ mu.1 = 1 := by
  unfold kMust at h
  split at h
  · cases h; exact Or.inr rfl
  · obtain ⟨m, -, e⟩ := bind_ex h
    cases e; exact Or.inl rfl
theorem kQ2_mu {st : Bool} {g0 : Nat → Int32} {t j n j' m : Nat} {mu : Int32} {d : QD} (h : kQ2 st g0 t j mu n = some (j', d, m)) : d.1 = mu := by
  unfold kQ2 at h
  obtain ⟨_, -, h⟩ := bind_ex h
  obtain ⟨_, -, h⟩ := bind_ex h
  obtain ⟨_, -, h⟩ := bind_ex h
  unfold kQ3 at h
  obtain ⟨_, -, h⟩ := bind_ex h
  obtain ⟨_, -, h⟩ := bind_ex h
  unfold kQ4 at h
  obtain ⟨_, -, h⟩ := bind_ex h
  obtain ⟨_, -, h⟩ := bind_ex h
  cases h
  rfl
def CTq (into : Nat) (R : RD) (go g : GT) : Prop := ∀ q, q < 61 → (R.1 q = none → RQ go g (into * 61 + q) (into * 61 + q)) ∧ ∀ d, R.1 q = some d → QR g (into * 61 + q) d ∧ (d.1 = 0 ∨ d.1 = 1)
def CTk (into : Nat) (R : RD) (go g : GT) : Prop := ∀ k, k < 10 → (R.2 k = none → RKe go g (into * 10 + k) (into * 10 + k)) ∧ ∀ d, R.2 k = some d → KR g (into * 10 + k) d ∧ ∃ m, d.1 = nI m ∧ 1 ≤ m ∧ m ≤ 60
theorem RQ_o {g g' : GT} {K : Nat} (h : ∀ a, 1 ≤ a → a ≤ 8 → g' a = g a) : RQ g g' K K := ⟨by rw [h 1 (by decide) (by decide)], by rw [h 2 (by decide) (by decide)], by rw [h 3 (by decide) (by decide)], by rw [h 4 (by decide) (by decide)], by rw [h 7 (by decide) (by decide)], fun _ _ => by rw [h 5 (by decide) (by decide)], fun _ _ => by rw [h 6 (by decide) (by decide)], fun _ _ => by rw [h 8 (by decide) (by decide)]⟩
theorem RKe_o {g g' : GT} {K : Nat} (h : ∀ a, 9 ≤ a → a ≤ 12 → g' a = g a) : RKe g g' K K := ⟨by rw [h 9 (by decide) (by decide)], by rw [h 10 (by decide) (by decide)], by rw [h 11 (by decide) (by decide)], fun _ _ => by rw [h 12 (by decide) (by decide)]⟩
theorem CTq_move {into : Nat} {R : RD} {go g g' : GT} (h : CTq into R go g) (hs : ∀ q, q < 61 → RQ g g' (into * 61 + q) (into * 61 + q)) : CTq into R go g' := fun q hq => ⟨fun e => ((h q hq).1 e).tr (hs q hq), fun d e => ⟨((h q hq).2 d e).1.same (hs q hq), ((h q hq).2 d e).2⟩⟩
theorem CTk_move {into : Nat} {R : RD} {go g g' : GT} (h : CTk into R go g) (hs : ∀ q, q < 10 → RKe g g' (into * 10 + q) (into * 10 + q)) : CTk into R go g' := fun q hq => ⟨fun e => ((h q hq).1 e).tr (hs q hq), fun d e => ⟨((h q hq).2 d e).1.same (hs q hq), ((h q hq).2 d e).2⟩⟩
def RGC (into : Nat) (R : RD) (go g : GT) : Prop := RG into R go g ∧ CTq into R go g ∧ CTk into R go g
theorem RGC_Q {t into j m : Nat} {R : RD} {go : GT} {p : PS} {d : QD} (hi : into ≤ 9) (h : p.2.1 = none) (hR : RGC into R go (psG p)) (e : kQues true (psG p 0) t (fun j => (R.1 j).isSome) p.1 = some (j, d, m)) : RGC into (va_up R.1 j (some d), R.2) go (psG (pQ t into p)) := by
  obtain ⟨hj, e1, e2, e3⟩ := pQ_eq h hR.1 e
  have hk : into * 61 + j < 610 := by omega
  refine ⟨RG_Q hi h hR.1 e, ?_, ?_⟩
  · intro q hq
    rw [e1]
    by_cases c : q = j
    · subst c
      refine ⟨fun z => (by rw [show (va_up R.1 q (some d), R.2).1 q = some d from up_same _ _ _] at z; cases z), fun d9 z => ?_⟩
      rw [show (va_up R.1 q (some d), R.2).1 q = some d from up_same _ _ _] at z
      cases z
      refine ⟨C_Qz t (into * 61 + q) q hk (nI q) e2 (by rw [pNum_g]; exact e3), ?_⟩
      obtain ⟨mu, f1, f2⟩ := bind_ex e3
      rw [kQ2_mu f2]
      exact kMust_01 f1
    · have hr : RQ (psG p) (psG (pQz t (into * 61 + j) (nI j) (pNum t 1 60 p))) (into * 61 + q) (into * 61 + q) := by
        have := fr_Qz t (into * 61 + j) hk (nI j) (pNum t 1 60 p) (K := into * 61 + q) (by omega)
        rw [pNum_g] at this
        exact this
      rw [show (va_up R.1 j (some d), R.2).1 q = R.1 q from up_other _ _ c]
      exact ⟨fun z => ((hR.2.1 q hq).1 z).tr hr, fun d9 z => ⟨((hR.2.1 q hq).2 d9 z).1.same hr, ((hR.2.1 q hq).2 d9 z).2⟩⟩
  · refine CTk_move (R := (va_up R.1 j (some d), R.2)) (g := psG p) hR.2.2 (fun k _ => RKe_o (fun a h1 h2 => ?_))
    rw [e1, g_Qz _ _ _ _ (by omega) (by omega), pNum_g]
theorem RGC_K {t into j m : Nat} {R : RD} {go : GT} {p : PS} {d : KD} (hi : into ≤ 9) (h : p.2.1 = none) (hR : RGC into R go (psG p)) (e : kKind true (psG p 0) t (fun j => (R.2 j).isSome) p.1 = some (j, d, m)) : RGC into (R.1, va_up R.2 j (some d)) go (psG (pK t into p)) := by
  obtain ⟨hj, e1, e2, e3, e4⟩ := pK_eq h hR.1 e
  have hk : into * 10 + j < 100 := by omega
  refine ⟨RG_K hi h hR.1 e, ?_, ?_⟩
  · refine CTq_move (R := (R.1, va_up R.2 j (some d))) (g := psG p) hR.2.1 (fun q _ => RQ_o (fun a h1 h2 => ?_))
    rw [e1, g_Kz _ _ _ _ (by omega) (by omega) (by omega) (by omega) (by omega), pNum_g]
  · intro k hk9
    rw [e1]
    by_cases c : k = j
    · subst c
      refine ⟨fun z => (by rw [show (R.1, va_up R.2 k (some d)).2 k = some d from up_same _ _ _] at z; cases z), fun d9 z => ?_⟩
      rw [show (R.1, va_up R.2 k (some d)).2 k = some d from up_same _ _ _] at z
      cases z
      exact ⟨C_Kz t (into * 10 + k) k hk (nI k) e2 (by rw [pNum_g]; exact e3), e4⟩
    · have hr : RKe (psG p) (psG (pKz t (into * 10 + j) (nI j) (pNum t 1 9 p))) (into * 10 + k) (into * 10 + k) := by
        have := fr_Kz t (into * 10 + j) hk (nI j) (pNum t 1 9 p) (K := into * 10 + k) (by omega)
        rw [pNum_g] at this
        exact this
      rw [show (R.1, va_up R.2 j (some d)).2 k = R.2 k from up_other _ _ c]
      exact ⟨fun z => ((hR.2.2 k hk9).1 z).tr hr, fun d9 z => ⟨((hR.2.2 k hk9).2 d9 z).1.same hr, ((hR.2.2 k hk9).2 d9 z).2⟩⟩
theorem RLC (t into : Nat) (go : GT) (ht : t ≤ 400) (hi : into ≤ 9) (hb : ∀ n, ¬ go 0 n < 0) : ∀ (k j : Nat) (R : RD) (p : PS), p.2.1 = none → pok t p → t ≤ p.1 + k → k + 1 ≤ j → RGC into R go (psG p) → (∀ R', kRows true (go 0) t k p.1 R = some R' → (pRL t into j p).2.1 = none ∧ RGC into R' go (psG (pRL t into j p))) ∧ (kRows true (go 0) t k p.1 R = none → ¬ (pRL t into j p).2.1 = none) := by
  intro k
  induction k with
  | zero =>
    intro j R p h hp hk hj hR
    obtain ⟨j, rfl⟩ : ∃ i, j = i + 1 := ⟨j - 1, by omega⟩
    have hn := hp.2.2 h
    have hc : pC t (pSee t p) = -1 := by
      rw [c_see', sN_big _ (by omega)]
      exact if_neg (by omega)
    have e : pRL t into (j + 1) p = pSee t p := by unfold pRL; rw [if_pos h, hc, if_pos (by decide +kernel)]
    rw [e]
    exact ⟨fun R' q => by cases q; exact ⟨h, hR⟩, fun q => by cases q⟩
  | succ k ih =>
    intro j R p h hp hk hj hR
    obtain ⟨j, rfl⟩ : ∃ i, j = i + 1 := ⟨j - 1, by omega⟩
    have g0 : psG p 0 = go 0 := hR.1.1
    have hc : pC t (pSee t p) = tp (go 0) t (sN (go 0) t p.1) := by rw [c_see', g0]
    have hge := sN_ge (go 0) t p.1
    have hs1 : (pSee t p).1 = sN (go 0) t p.1 := by show sN (psG p 0) t p.1 = _; rw [g0]
    unfold kRows
    by_cases z : tp (go 0) t (sN (go 0) t p.1) = -1
    · have e : pRL t into (j + 1) p = pSee t p := by unfold pRL; rw [if_pos h, hc, z, if_pos (by decide +kernel)]
      rw [e, if_pos z]
      exact ⟨fun R' q => by cases q; exact ⟨h, hR⟩, fun q => by cases q⟩
    · have z2 : ¬ tp (go 0) t (sN (go 0) t p.1) < 0 := fun q => z (tp_neg hb q)
      have hlt : sN (go 0) t p.1 < t := tp_lt (g0 := go 0) z
      have e : pRL t into (j + 1) p = pRL t into j (pR3 t into (tp (go 0) t (sN (go 0) t p.1)) (pAdv (pR2 t (pSee t p)))) := by rw [pRL, if_pos h, hc, if_neg z2]
      rw [e, if_neg z]
      unfold kRow
      rw [sN_idem]
      have hc2 : pC t (pSee t p) = tp (go 0) t (sN (go 0) t p.1) := hc
      by_cases y : tp (go 0) t (sN (go 0) t p.1) = 113
      · have e2 : pR2 t (pSee t p) = pSee t p := by unfold pR2; rw [hc2]; exact if_pos (Or.inl y)
        have e3 : pR3 t into (tp (go 0) t (sN (go 0) t p.1)) (pAdv (pR2 t (pSee t p))) = pQ t into (pAdv (pSee t p)) := by
          rw [e2]; unfold pR3; rw [if_pos (show (pAdv (pSee t p)).2.1 = none from h), if_pos y]
        rw [e3, if_pos y]
        have hpo : pok t (pAdv (pSee t p)) := pok_plus (pok_see hp) (hc2.trans y) (by decide +kernel)
        have hR1 : RGC into R go (psG (pAdv (pSee t p))) := hR
        have h5 := RK_Qu t into (fun j => (R.1 j).isSome) (p := pAdv (pSee t p)) h (fun j hj => hR1.1.told0 hj)
        rw [show psG (pAdv (pSee t p)) 0 = go 0 from g0, show (pAdv (pSee t p)).1 = sN (go 0) t p.1 + 1 from congrArg (· + 1) hs1] at h5
        cases e5 : kQues true (go 0) t (fun j => (R.1 j).isSome) (sN (go 0) t p.1 + 1) with
        | none =>
          rw [e5] at h5
          exact ⟨fun R' q => (by cases q), fun _ => RL_dead _ _ h5⟩
        | some r =>
          obtain ⟨q, d, m⟩ := r
          rw [e5] at h5
          have h6 : (pQ t into (pAdv (pSee t p))).2.1 = none := h5.1
          have h7 : (pQ t into (pAdv (pSee t p))).1 = m := h5.2
          have h8 := RGC_Q (t := t) (j := q) (d := d) (m := m) hi (p := pAdv (pSee t p)) h hR1 (by rw [show psG (pAdv (pSee t p)) 0 = go 0 from g0, show (pAdv (pSee t p)).1 = sN (go 0) t p.1 + 1 from congrArg (· + 1) hs1]; exact e5)
          have h9 : (pAdv (pSee t p)).1 ≤ (pQ t into (pAdv (pSee t p))).1 := mo_Q
          have h10 : (pAdv (pSee t p)).1 = sN (go 0) t p.1 + 1 := congrArg (· + 1) hs1
          have := ih j (va_up R.1 q (some d), R.2) (pQ t into (pAdv (pSee t p))) h6 (pok_Q hpo ht) (by omega) (by omega) h8
          rw [h7] at this
          exact this
      · rw [if_neg y]
        unfold kTake
        rw [sN_idem]
        by_cases x : tp (go 0) t (sN (go 0) t p.1) = 107
        · have e2 : pR2 t (pSee t p) = pSee t p := by unfold pR2; rw [hc2]; exact if_pos (Or.inr x)
          have e3 : pR3 t into (tp (go 0) t (sN (go 0) t p.1)) (pAdv (pR2 t (pSee t p))) = pK t into (pAdv (pSee t p)) := by
            rw [e2]; unfold pR3; rw [if_pos (show (pAdv (pSee t p)).2.1 = none from h), if_neg y]
          rw [e3, if_pos x]
          have hpo : pok t (pAdv (pSee t p)) := pok_plus (pok_see hp) (hc2.trans x) (by decide +kernel)
          have hR1 : RGC into R go (psG (pAdv (pSee t p))) := hR
          have h5 := RK_Ki t into (fun j => (R.2 j).isSome) (p := pAdv (pSee t p)) h (fun j hj => hR1.1.told1 hj)
          rw [show psG (pAdv (pSee t p)) 0 = go 0 from g0, show (pAdv (pSee t p)).1 = sN (go 0) t p.1 + 1 from congrArg (· + 1) hs1] at h5
          cases e5 : kKind true (go 0) t (fun j => (R.2 j).isSome) (sN (go 0) t p.1 + 1) with
          | none =>
            rw [e5] at h5
            simp only [Option.bind_some, e5, Option.bind_none]
            exact ⟨fun R' q => (by cases q), fun _ => RL_dead _ _ h5⟩
          | some r =>
            obtain ⟨q, d, m⟩ := r
            rw [e5] at h5
            simp only [Option.bind_some, e5]
            have h6 : (pK t into (pAdv (pSee t p))).2.1 = none := h5.1
            have h7 : (pK t into (pAdv (pSee t p))).1 = m := h5.2
            have h8 := RGC_K (t := t) (j := q) (d := d) (m := m) hi (p := pAdv (pSee t p)) h hR1 (by rw [show psG (pAdv (pSee t p)) 0 = go 0 from g0, show (pAdv (pSee t p)).1 = sN (go 0) t p.1 + 1 from congrArg (· + 1) hs1]; exact e5)
            have h9 : (pAdv (pSee t p)).1 ≤ (pK t into (pAdv (pSee t p))).1 := mo_K
            have h10 : (pAdv (pSee t p)).1 = sN (go 0) t p.1 + 1 := congrArg (· + 1) hs1
            have := ih j (R.1, va_up R.2 q (some d)) (pK t into (pAdv (pSee t p))) h6 (pok_K hpo ht) (by omega) (by omega) h8
            rw [h7] at this
            exact this
        · rw [if_neg x]
          have e2 : pR2 t (pSee t p) = pFail (pSee t p).1 (pSee t p) := by unfold pR2; rw [hc2]; exact if_neg (fun q => q.elim y x)
          have h4 : ¬ (pAdv (pR2 t (pSee t p))).2.1 = none := by rw [e2]; exact fun q => liv_fail q
          have e3 : pR3 t into (tp (go 0) t (sN (go 0) t p.1)) (pAdv (pR2 t (pSee t p))) = pAdv (pR2 t (pSee t p)) := by unfold pR3; rw [if_neg h4]
          rw [e3]
          exact ⟨fun R' q => (by cases q), fun _ => RL_dead _ _ h4⟩
-- what a text leaves of all other rows, right or wrong
def FR (into : Nat) (g g' : GT) : Prop := (∀ K, ¬ (into * 61 ≤ K ∧ K < into * 61 + 61) → RQ g g' K K) ∧ ∀ K, ¬ (into * 10 ≤ K ∧ K < into * 10 + 10) → RKe g g' K K
theorem FR.rf {into : Nat} {g : GT} : FR into g g := ⟨fun _ _ => RQ.rf, fun _ _ => RKe.rf⟩
theorem FR.tr {into : Nat} {g g' g'' : GT} (h1 : FR into g g') (h2 : FR into g' g'') : FR into g g'' := ⟨fun K hK => (h1.1 K hK).tr (h2.1 K hK), fun K hK => (h1.2 K hK).tr (h2.2 K hK)⟩
theorem FR_Q {t into : Nat} (hi : into ≤ 9) (p : PS) : FR into (psG p) (psG (pQ t into p)) := by
  have h1 : psG (pQ1 t 1 60 13 p) = psG p := by
    unfold pQ1
    split
    · rw [g_fail, pNum_g]
    · exact pNum_g
  obtain ⟨m, em, hm1, hm2⟩ := pVal_n (t := t) (A := 1) (B := 60) (p := p) (by decide) (by decide)
  have em : pVal t 1 60 p = nI m := em
  unfold pQ
  split
  · rw [em, nI_clamp (show m < 2 ^ 31 by omega)]
    refine ⟨fun K hK => ?_, fun K _ => RKe_o (fun a b1 b2 => by rw [g_Qz _ _ _ _ (by omega) (by omega), h1])⟩
    have := fr_Qz t (into * 61 + m) (by omega) (nI m) (pQ1 t 1 60 13 p) (K := K) (by omega)
    rw [h1] at this
    exact this
  · rw [h1]; exact FR.rf
theorem FR_K {t into : Nat} (hi : into ≤ 9) (p : PS) : FR into (psG p) (psG (pK t into p)) := by
  have h1 : psG (pQ1 t 1 9 14 p) = psG p := by
    unfold pQ1
    split
    · rw [g_fail, pNum_g]
    · exact pNum_g
  obtain ⟨m, em, hm1, hm2⟩ := pVal_n (t := t) (A := 1) (B := 9) (p := p) (by decide) (by decide)
  have em : pVal t 1 9 p = nI m := em
  unfold pK
  split
  · rw [em, nI_clamp (show m < 2 ^ 31 by omega)]
    refine ⟨fun K _ => RQ_o (fun a b1 b2 => by rw [g_Kz _ _ _ _ (by omega) (by omega) (by omega) (by omega) (by omega), h1]), fun K hK => ?_⟩
    have := fr_Kz t (into * 10 + m) (by omega) (nI m) (pQ1 t 1 9 14 p) (K := K) (by omega)
    rw [h1] at this
    exact this
  · rw [h1]; exact FR.rf
theorem FR_RL {t into : Nat} (hi : into ≤ 9) : ∀ (j : Nat) (p : PS), FR into (psG p) (psG (pRL t into j p)) := by
  intro j
  induction j with
  | zero => intro p; exact FR.rf
  | succ j ih =>
    intro p
    unfold pRL
    split
    · split
      · exact FR.rf
      · refine FR.tr ?_ (ih _)
        have h2 : psG (pAdv (pR2 t (pSee t p))) = psG p := by
          rw [g_adv]
          unfold pR2
          split
          · rfl
          · rfl
        unfold pR3
        split
        · split
          · have := FR_Q (t := t) hi (pAdv (pR2 t (pSee t p)))
            rw [h2] at this
            exact this
          · have := FR_K (t := t) hi (pAdv (pR2 t (pSee t p)))
            rw [h2] at this
            exact this
        · rw [h2]; exact FR.rf
    · exact FR.rf
-- the copy: a row and its copy
def RN (g g' : GT) (K K' : Nat) : Prop := g' 1 K' = vp_nar .boolean (g 1 K) ∧ g' 2 K' = vp_nar .boolean (g 2 K) ∧ g' 3 K' = g 3 K ∧ g' 4 K' = g 4 K ∧ g' 7 K' = g 7 K ∧ (∀ i, i < 2 → g' 5 (K' * 2 + i) = g 5 (K * 2 + i)) ∧ (∀ i, i < 24 → g' 6 (K' * 24 + i) = g 6 (K * 24 + i)) ∧ (∀ i, i < 24 → g' 8 (K' * 24 + i) = g 8 (K * 24 + i))
theorem rdG_RN {c e : Nat} (hc : c ≤ e) (he : e ≤ 8) (g : GT) {q : Nat} (hq : q < 61) : RN g (rdG c e g) (c * 61 + q) ((e + 1) * 61 + q) := by
  have ha : c ≤ 9 := by omega
  have hb : e + 1 ≤ 9 := by omega
  have o : ∀ a, 1 ≤ a → a ≤ 8 → rdG c e g a = cnt (cpQ (nI c) (nI (e + 1))) 61 0 g a := fun a h1 h2 => by
    rw [rdG_o c e g (by omega) (by omega)]
    unfold cp
    rw [cnt_frame (body := cpK _ _) (a := a) (fun i g => cpK_o _ _ i g (by omega))]
  refine ⟨?_, ?_, ?_, ?_, ?_, fun i hi => ?_, fun i hi => ?_, fun i hi => ?_⟩
  · rw [rdG_1 hc he, if_pos (by omega), show c * 61 + ((e + 1) * 61 + q - (e + 1) * 61) = c * 61 + q by omega]
  · rw [o 2 (by decide) (by decide), cp_2 ha hb, if_pos (by omega), show c * 61 + ((e + 1) * 61 + q - (e + 1) * 61) = c * 61 + q by omega]
  · rw [o 3 (by decide) (by decide), cp_3 ha hb, if_pos (by omega), show c * 61 + ((e + 1) * 61 + q - (e + 1) * 61) = c * 61 + q by omega]
  · rw [o 4 (by decide) (by decide), cp_4 ha hb, if_pos (by omega), show c * 61 + ((e + 1) * 61 + q - (e + 1) * 61) = c * 61 + q by omega]
  · rw [o 7 (by decide) (by decide), cp_7 ha hb, if_pos (by omega), show c * 61 + ((e + 1) * 61 + q - (e + 1) * 61) = c * 61 + q by omega]
  · rw [o 5 (by decide) (by decide), cp_5 ha hb, if_pos (by omega), show c * 122 + (((e + 1) * 61 + q) * 2 + i - (e + 1) * 122) = (c * 61 + q) * 2 + i by omega]
  · rw [o 6 (by decide) (by decide), cp_6 ha hb, if_pos (by omega), show c * 1464 + (((e + 1) * 61 + q) * 24 + i - (e + 1) * 1464) = (c * 61 + q) * 24 + i by omega]
  · rw [o 8 (by decide) (by decide), cp_8 ha hb, if_pos (by omega), show c * 1464 + (((e + 1) * 61 + q) * 24 + i - (e + 1) * 1464) = (c * 61 + q) * 24 + i by omega]
theorem rdG_RK {c e : Nat} (hc : c ≤ e) (he : e ≤ 8) (g : GT) {k : Nat} (hk : k < 10) : RKe g (rdG c e g) (c * 10 + k) ((e + 1) * 10 + k) := by
  have ha : c ≤ 9 := by omega
  have hb : e + 1 ≤ 9 := by omega
  have o : ∀ a, 9 ≤ a → a ≤ 12 → ∀ x, rdG c e g a x = cnt (cpK (nI c) (nI (e + 1))) 10 0 (cnt (cpQ (nI c) (nI (e + 1))) 61 0 g) a x := fun a h1 h2 x => by
    rw [rdG_o c e g (by omega) (by omega)]; rfl
  have oq : ∀ a, 9 ≤ a → cnt (cpQ (nI c) (nI (e + 1))) 61 0 g a = g a := fun a h => cnt_frame (fun i g => cpQ_o _ _ i g (Or.inr h)) 61 0 g
  refine ⟨?_, ?_, ?_, fun i hi => ?_⟩
  · rw [rdG_9 hc he, if_pos (by omega), show c * 10 + ((e + 1) * 10 + k - (e + 1) * 10) = c * 10 + k by omega]
  · rw [o 10 (by decide) (by decide), cp_10 ha hb, if_pos (by omega), oq 10 (by decide), show c * 10 + ((e + 1) * 10 + k - (e + 1) * 10) = c * 10 + k by omega]
  · rw [o 11 (by decide) (by decide), cp_11 ha hb, if_pos (by omega), oq 11 (by decide), show c * 10 + ((e + 1) * 10 + k - (e + 1) * 10) = c * 10 + k by omega]
  · rw [o 12 (by decide) (by decide), cp_12 ha hb, if_pos (by omega), oq 12 (by decide), show c * 840 + (((e + 1) * 10 + k) * 84 + i - (e + 1) * 840) = (c * 10 + k) * 84 + i by omega]
theorem rdG_old {c e : Nat} (hc : c ≤ e) (he : e ≤ 8) (g : GT) : FR (e + 1) g (rdG c e g) := by
  have ha : c ≤ 9 := by omega
  have hb : e + 1 ≤ 9 := by omega
  have o : ∀ a, 1 ≤ a → a ≤ 8 → rdG c e g a = cnt (cpQ (nI c) (nI (e + 1))) 61 0 g a := fun a h1 h2 => by
    rw [rdG_o c e g (by omega) (by omega)]
    unfold cp
    rw [cnt_frame (body := cpK _ _) (a := a) (fun i g => cpK_o _ _ i g (by omega))]
  have o2 : ∀ a, 9 ≤ a → a ≤ 12 → ∀ x, rdG c e g a x = cnt (cpK (nI c) (nI (e + 1))) 10 0 (cnt (cpQ (nI c) (nI (e + 1))) 61 0 g) a x := fun a h1 h2 x => by
    rw [rdG_o c e g (by omega) (by omega)]; rfl
  have oq : ∀ a, 9 ≤ a → cnt (cpQ (nI c) (nI (e + 1))) 61 0 g a = g a := fun a h => cnt_frame (fun i g => cpQ_o _ _ i g (Or.inr h)) 61 0 g
  refine ⟨fun K hK => ⟨?_, ?_, ?_, ?_, ?_, fun i hi => ?_, fun i hi => ?_, fun i hi => ?_⟩, fun K hK => ⟨?_, ?_, ?_, fun i hi => ?_⟩⟩
  · rw [rdG_1 hc he, if_neg hK]
  · rw [o 2 (by decide) (by decide), cp_2 ha hb, if_neg hK]
  · rw [o 3 (by decide) (by decide), cp_3 ha hb, if_neg hK]
  · rw [o 4 (by decide) (by decide), cp_4 ha hb, if_neg hK]
  · rw [o 7 (by decide) (by decide), cp_7 ha hb, if_neg hK]
  · rw [o 5 (by decide) (by decide), cp_5 ha hb, if_neg (by omega)]
  · rw [o 6 (by decide) (by decide), cp_6 ha hb, if_neg (by omega)]
  · rw [o 8 (by decide) (by decide), cp_8 ha hb, if_neg (by omega)]
  · rw [rdG_9 hc he, if_neg hK]
  · rw [o2 10 (by decide) (by decide), cp_10 ha hb, if_neg hK, oq 10 (by decide)]
  · rw [o2 11 (by decide) (by decide), cp_11 ha hb, if_neg hK, oq 11 (by decide)]
  · rw [o2 12 (by decide) (by decide), cp_12 ha hb, if_neg (by omega), oq 12 (by decide)]
-- what an edition holds of a number, on the reference's side
def PQ (g : GT) (K : Nat) (o : Option QD) : Prop := (o = none → g 1 K = 0) ∧ ∀ d, o = some d → QR g K d ∧ (d.1 = 0 ∨ d.1 = 1)
def PK (g : GT) (K : Nat) (o : Option KD) : Prop := (o = none → g 9 K = 0) ∧ ∀ d, o = some d → KR g K d ∧ ∃ m, d.1 = nI m ∧ 1 ≤ m ∧ m ≤ 60
theorem PQ.same {g g' : GT} {K K' : Nat} {o : Option QD} (h : PQ g K o) (hs : RQ g g' K K') : PQ g' K' o := ⟨fun e => hs.1.trans (h.1 e), fun d e => ⟨(h.2 d e).1.same hs, (h.2 d e).2⟩⟩
theorem PK.same {g g' : GT} {K K' : Nat} {o : Option KD} (h : PK g K o) (hs : RKe g g' K K') : PK g' K' o := ⟨fun e => hs.1.trans (h.1 e), fun d e => ⟨(h.2 d e).1.same hs, (h.2 d e).2⟩⟩
theorem PQ.copy {g g' : GT} {K K' : Nat} {o : Option QD} (h : PQ g K o) (hs : RN g g' K K') : PQ g' K' o := by
  obtain ⟨s1, s2, s3, s4, s7, s5, s6, s8⟩ := hs
  refine ⟨fun e => by rw [s1, h.1 e]; exact vnar0, fun d e => ?_⟩
  obtain ⟨h1, h2⟩ := h.2 d e
  refine ⟨h1.same ⟨by rw [s1, h1.1]; exact vnar1, ?_, s3, s4, s7, s5, s6, s8⟩, h2⟩
  rw [s2, h1.2.1]
  rcases h2 with z | z
  · rw [z]; exact vnar0
  · rw [z]; exact vnar1
theorem rd_rows {t c e : Nat} {d : Int32} {g : GT} (hc : c ≤ e) (he : e ≤ 8) (ht : t ≤ 400) (hb : ∀ n, ¬ g 0 n < 0) : FR (e + 1) g (psG (rdP t c e d g)) ∧ ∀ R, kTape false (g 0) t = some R → (∀ q o, q < 61 → PQ g (c * 61 + q) o → PQ (psG (rdP t c e d g)) ((e + 1) * 61 + q) (match R.1 q with | some d => some d | none => o)) ∧ (∀ k o, k < 10 → PK g (c * 10 + k) o → PK (psG (rdP t c e d g)) ((e + 1) * 10 + k) (match R.2 k with | some d => some d | none => o)) := by
  have g0 := rdG_0 c e g
  have h := RLC t (e + 1) (rdG c e g) ht (by omega) (by rw [g0]; exact hb) 400 402 (fun _ => none, fun _ => none) (0, none, d, rdG c e g) rfl ⟨fun p q => (nomatch q), Nat.zero_le _, fun _ => Nat.zero_le _⟩ (by show t ≤ 0 + 400; omega) (by decide) ⟨rdG_RG g, fun q _ => ⟨fun _ => RQ.rf, fun d z => (nomatch z)⟩, fun k _ => ⟨fun _ => RKe.rf, fun d z => (nomatch z)⟩⟩
  have hF := FR_RL (t := t) (into := e + 1) (by omega) 402 (0, none, d, rdG c e g)
  have e9 : ∀ G : GT, psG ((0, none, d, G) : PS) = G := fun _ => rfl
  rw [e9] at hF
  rw [← kTape_st]
  rw [g0] at h
  unfold rdP
  generalize hPP : pRL t (e + 1) 402 (0, none, d, rdG c e g) = PP at h hF ⊢
  refine ⟨(rdG_old hc he g).tr hF, fun R e1 => ?_⟩
  obtain ⟨-, -, h3, h4⟩ := h.1 R e1
  refine ⟨fun q o hq ho => ?_, fun k o hk ho => ?_⟩
  · cases e2 : R.1 q with
    | none => exact (ho.copy (rdG_RN hc he g hq)).same ((h3 q hq).1 e2)
    | some d9 => exact ⟨fun z => (nomatch z), fun d8 z => by cases z; exact (h3 q hq).2 d9 e2⟩
  · cases e2 : R.2 k with
    | none => exact (ho.same (rdG_RK hc he g hk)).same ((h4 k hk).1 e2)
    | some d9 => exact ⟨fun z => (nomatch z), fun d8 z => by cases z; exact (h4 k hk).2 d9 e2⟩
