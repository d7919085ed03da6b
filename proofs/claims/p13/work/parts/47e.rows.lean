-- the rows of a text: what the reference holds of them
theorem bind_ex {α β : Type} {o : Option α} {f : α → Option β} {r : β} (h : o.bind f = some r) : ∃ a, o = some a ∧ f a = some r := by
  cases o with
  | none => cases h
  | some a => exact ⟨a, rfl, h⟩
theorem kQ2_j {st : Bool} {g0 : Nat → Int32} {t j n j' m : Nat} {mu : Int32} {d : QD} (h : kQ2 st g0 t j mu n = some (j', d, m)) : j' = j := by
  unfold kQ2 at h
  obtain ⟨_, -, h⟩ := bind_ex h
  obtain ⟨_, -, h⟩ := bind_ex h
  obtain ⟨_, -, h⟩ := bind_ex h
  unfold kQ3 at h
  obtain ⟨_, -, h⟩ := bind_ex h
  obtain ⟨_, -, h⟩ := bind_ex h
  unfold kQ4 at h
  obtain ⟨_, -, h⟩ := bind_ex h
  obtain ⟨_, -, h⟩ := bind_ex h
  cases h
  rfl
theorem kQues_ex {st : Bool} {g0 : Nat → Int32} {t n j m : Nat} {told : Nat → Bool} {d : QD} (h : kQues st g0 t told n = some (j, d, m)) : ∃ m0, kNum st g0 t 1 60 n = some (j, m0) ∧ ¬ told j = true := by
  unfold kQues at h
  obtain ⟨r, h1, h⟩ := bind_ex h
  split at h
  · cases h
  · rename_i z
    obtain ⟨mu, -, h⟩ := bind_ex h
    have e := kQ2_j h
    subst e
    exact ⟨r.2, h1, z⟩
theorem kKind_ex {st : Bool} {g0 : Nat → Int32} {t n j m : Nat} {told : Nat → Bool} {d : KD} (h : kKind st g0 t told n = some (j, d, m)) : ∃ m0 m1 f, kNum st g0 t 1 9 n = some (j, m0) ∧ ¬ told j = true ∧ kTake g0 t 61 m0 = some m1 ∧ kNum st g0 t 1 60 m1 = some f ∧ d.1 = nI f.1 := by
  unfold kKind at h
  obtain ⟨r, h1, h⟩ := bind_ex h
  split at h
  · cases h
  · rename_i z
    unfold kKind2 at h
    obtain ⟨m1, h2, h⟩ := bind_ex h
    obtain ⟨f, h3, h⟩ := bind_ex h
    obtain ⟨_, -, h⟩ := bind_ex h
    obtain ⟨_, -, h⟩ := bind_ex h
    unfold kKind3 at h
    obtain ⟨_, -, h⟩ := bind_ex h
    obtain ⟨_, -, h⟩ := bind_ex h
    cases h
    exact ⟨r.2, m1, f, h1, z, h2, h3, rfl⟩
theorem g_Qz (t k : Nat) (q : Int32) (p : PS) {a : Nat} (h : a = 0 ∨ 9 ≤ a) (h13 : a ≠ 13) : psG (pQz t k q p) a = psG p a := by
  unfold pQz
  rw [g_Q6 _ _ _ (by omega) (by omega), g_Q5 _ _ _ _ (by omega) (by omega), g_Q4 _ _ _ (by omega) (by omega)]
  unfold pQ3 pQ2
  rw [psG_set, up_other _ _ (by omega), psG_set, up_other _ _ (by omega), g_adv, g_Q3a, g_see, psG_set, up_other _ _ h13]
theorem g_Qz13 (t k : Nat) (q : Int32) (p : PS) : psG (pQz t k q p) 13 = upd (psG p 13) q.toNatClampNeg (vp_nar .boolean 1) := by
  unfold pQz
  rw [g_Q6 _ _ _ (by decide) (by decide), g_Q5 _ _ _ _ (by decide) (by decide), g_Q4 _ _ _ (by decide) (by decide)]
  unfold pQ3 pQ2
  rw [psG_set, up_other _ _ (by decide), psG_set, up_other _ _ (by decide), g_adv, g_Q3a, g_see, psG_set, up_same]
theorem g_Qz1 (t k : Nat) (q : Int32) (p : PS) : psG (pQz t k q p) 1 = upd (psG p 1) (nI k).toNatClampNeg (vp_nar .boolean 1) := by
  unfold pQz
  rw [g_Q6 _ _ _ (by decide) (by decide), g_Q5 _ _ _ _ (by decide) (by decide), g_Q4 _ _ _ (by decide) (by decide)]
  unfold pQ3 pQ2
  rw [psG_set, up_other _ _ (by decide), psG_set, up_same, g_adv, g_Q3a, g_see, psG_set, up_other _ _ (by decide)]
theorem g_Kz (t k : Nat) (q : Int32) (p : PS) {a : Nat} (h9 : a ≠ 9) (h10 : a ≠ 10) (h11 : a ≠ 11) (h12 : a ≠ 12) (h14 : a ≠ 14) : psG (pKz t k q p) a = psG p a := by
  unfold pKz
  rw [g_take, g_KL _ _ h11 h12]
  unfold pK3 pK2 pK1
  rw [psG_set, up_other _ _ h11, psG_set, up_other _ _ h10, pNum_g, g_take, psG_set, up_other _ _ h9, pNum_g, g_take, psG_set, up_other _ _ h14]
theorem g_Kz14 (t k : Nat) (q : Int32) (p : PS) : psG (pKz t k q p) 14 = upd (psG p 14) q.toNatClampNeg (vp_nar .boolean 1) := by
  unfold pKz
  rw [g_take, g_KL _ _ (by decide) (by decide)]
  unfold pK3 pK2 pK1
  rw [psG_set, up_other _ _ (by decide), psG_set, up_other _ _ (by decide), pNum_g, g_take, psG_set, up_other _ _ (by decide), pNum_g, g_take, psG_set, up_same]
theorem g_Kz9 (t k : Nat) (q : Int32) (p : PS) : psG (pKz t k q p) 9 = upd (psG p 9) (nI k).toNatClampNeg (pVal t 1 60 (pK1 t q p)) := by
  have e : psG (pK1 t q p) 9 = psG p 9 := by unfold pK1; rw [g_take, psG_set, up_other _ _ (by decide)]
  unfold pKz
  rw [g_take, g_KL _ _ (by decide) (by decide)]
  unfold pK3
  rw [psG_set, up_other _ _ (by decide), psG_set, up_other _ _ (by decide), pNum_g]
  unfold pK2
  rw [g_take, psG_set, up_same, pNum_g, e]
theorem vnar1 : vp_nar .boolean 1 = 1 := by decide +kernel
theorem vnar1' : ¬ (vp_nar .boolean 1) = 0 := by decide +kernel
def RG (into : Nat) (R : RD) (go g : GT) : Prop := g 0 = go 0 ∧ (∀ q, q < 61 → (R.1 q = none ∧ g 13 q = 0 ∧ g 1 (into * 61 + q) = go 1 (into * 61 + q)) ∨ (∃ d, R.1 q = some d ∧ ¬ g 13 q = 0 ∧ g 1 (into * 61 + q) = 1)) ∧ (∀ k, k < 10 → (R.2 k = none ∧ g 14 k = 0 ∧ g 9 (into * 10 + k) = go 9 (into * 10 + k)) ∨ (∃ d, R.2 k = some d ∧ ¬ g 14 k = 0 ∧ g 9 (into * 10 + k) = d.1 ∧ ∃ m, d.1 = nI m ∧ 1 ≤ m ∧ m ≤ 60)) ∧ (∀ x, ¬ (into * 61 ≤ x ∧ x < into * 61 + 61) → g 1 x = go 1 x) ∧ (∀ x, ¬ (into * 10 ≤ x ∧ x < into * 10 + 10) → g 9 x = go 9 x)
theorem RG.told0 {into : Nat} {R : RD} {go g : GT} (h : RG into R go g) {j : Nat} (hj : j < 61) : (R.1 j).isSome = true ↔ ¬ g 13 j = 0 := by
  rcases h.2.1 j hj with ⟨h1, h2, -⟩ | ⟨d, h1, h2, -⟩
  · rw [h1]; exact ⟨fun q => (nomatch q), fun q => absurd h2 q⟩
  · rw [h1]; exact ⟨fun _ => h2, fun _ => rfl⟩
theorem RG.told1 {into : Nat} {R : RD} {go g : GT} (h : RG into R go g) {j : Nat} (hj : j < 10) : (R.2 j).isSome = true ↔ ¬ g 14 j = 0 := by
  rcases h.2.2.1 j hj with ⟨h1, h2, -⟩ | ⟨d, h1, h2, -⟩
  · rw [h1]; exact ⟨fun q => (nomatch q), fun q => absurd h2 q⟩
  · rw [h1]; exact ⟨fun _ => h2, fun _ => rfl⟩
theorem RG_Q {t into j m : Nat} {R : RD} {go : GT} {p : PS} {d : QD} (hi : into ≤ 9) (h : p.2.1 = none) (hR : RG into R go (psG p)) (e : kQues true (psG p 0) t (fun j => (R.1 j).isSome) p.1 = some (j, d, m)) : RG into (va_up R.1 j (some d), R.2) go (psG (pQ t into p)) := by
  obtain ⟨m0, e1, e2⟩ := kQues_ex e
  have hb : j ≤ 60 := kNum_b (B := 60) e1 (by decide)
  have hv : pVal t 1 60 p = nI j := val_num h e1
  have hc : (nI j).toNatClampNeg = j := nI_clamp (by omega)
  have h1 := RK_num t 1 60 h
  rw [e1] at h1
  have h2 : (pNum t 1 60 p).2.1 = none := h1.1
  have z2 : psG p 13 j = 0 := by
    by_cases y : psG p 13 j = 0
    · exact y
    · exact absurd ((hR.told0 (by omega)).mpr y) e2
  have e3 : pQ1 t 1 60 13 p = pNum t 1 60 p := if_neg (fun q => q.2 (by rw [hv, hc, pNum_g]; exact z2))
  have e4 : pQ t into p = pQz t (into * 61 + j) (nI j) (pNum t 1 60 p) := by unfold pQ; rw [e3, if_pos h2, hv, hc]
  have hk : (nI (into * 61 + j)).toNatClampNeg = into * 61 + j := nI_clamp (by omega)
  have g13 : psG (pQ t into p) 13 = upd (psG p 13) j (vp_nar .boolean 1) := by rw [e4, g_Qz13, hc, pNum_g]
  have g1 : psG (pQ t into p) 1 = upd (psG p 1) (into * 61 + j) (vp_nar .boolean 1) := by rw [e4, g_Qz1, hk, pNum_g]
  have g0 : ∀ a, (a = 0 ∨ 9 ≤ a) → a ≠ 13 → psG (pQ t into p) a = psG p a := fun a ha hb => by rw [e4, g_Qz _ _ _ _ ha hb, pNum_g]
  obtain ⟨r1, r2, r3, r4, r5⟩ := hR
  refine ⟨by rw [g0 0 (by decide) (by decide)]; exact r1, fun q hq => ?_, fun k hk => ?_, fun x hx => ?_, fun x hx => ?_⟩
  · rw [g13, g1]
    by_cases c : q = j
    · subst c
      exact Or.inr ⟨d, up_same _ _ _, by rw [upd_same]; exact vnar1', by rw [upd_same]; exact vnar1⟩
    · rw [show (va_up R.1 j (some d), R.2).1 q = R.1 q from up_other _ _ c, upd_other _ _ c, upd_other _ _ (by omega)]
      exact r2 q hq
  · rw [g0 14 (by decide) (by decide), g0 9 (by decide) (by decide)]; exact r3 k hk
  · rw [g1, upd_other _ _ (by omega)]; exact r4 x hx
  · rw [g0 9 (by decide) (by decide)]; exact r5 x hx
theorem RG_K {t into j m : Nat} {R : RD} {go : GT} {p : PS} {d : KD} (hi : into ≤ 9) (h : p.2.1 = none) (hR : RG into R go (psG p)) (e : kKind true (psG p 0) t (fun j => (R.2 j).isSome) p.1 = some (j, d, m)) : RG into (R.1, va_up R.2 j (some d)) go (psG (pK t into p)) := by
  obtain ⟨m0, m1, f, e1, e2, e5, e6, e7⟩ := kKind_ex e
  have hb : j ≤ 9 := kNum_b (B := 9) e1 (by decide)
  have hv : pVal t 1 9 p = nI j := val_num h e1
  have hc : (nI j).toNatClampNeg = j := nI_clamp (by omega)
  have h1 := RK_num t 1 9 h
  rw [e1] at h1
  have h2 : (pNum t 1 9 p).2.1 = none := h1.1
  have h3 : (pNum t 1 9 p).1 = m0 := h1.2
  have z2 : psG p 14 j = 0 := by
    by_cases y : psG p 14 j = 0
    · exact y
    · exact absurd ((hR.told1 (by omega)).mpr y) e2
  have e3 : pQ1 t 1 9 14 p = pNum t 1 9 p := if_neg (fun q => q.2 (by rw [hv, hc, pNum_g]; exact z2))
  have e4 : pK t into p = pKz t (into * 10 + j) (nI j) (pNum t 1 9 p) := by unfold pK; rw [e3, if_pos h2, hv, hc]
  have hk : (nI (into * 10 + j)).toNatClampNeg = into * 10 + j := nI_clamp (by omega)
  have hg1 : psG (pSet 14 (nI j) (vp_nar .boolean 1) (pNum t 1 9 p)) 0 = psG p 0 := by rw [psG_set, up_other _ _ (by decide), pNum_g]
  have hk1 : (pK1 t (nI j) (pNum t 1 9 p)).2.1 = none ∧ (pK1 t (nI j) (pNum t 1 9 p)).1 = m1 ∧ psG (pK1 t (nI j) (pNum t 1 9 p)) 0 = psG p 0 := by
    have h9 := RK_take t 61 (p := pSet 14 (nI j) (vp_nar .boolean 1) (pNum t 1 9 p)) (siv_set h2)
    rw [hg1, show (pSet 14 (nI j) (vp_nar .boolean 1) (pNum t 1 9 p)).1 = m0 from siv_1 h3, e5] at h9
    exact ⟨h9.1, h9.2, hg1⟩
  have hv2 : pVal t 1 60 (pK1 t (nI j) (pNum t 1 9 p)) = nI f.1 := val_num (m := f.2) hk1.1 (by rw [hk1.2.2, hk1.2.1]; exact e6)
  have hf1 : f.1 ≤ 60 := kNum_b (B := 60) (v := f.1) (m := f.2) e6 (by decide)
  have hf0 : 1 ≤ f.1 := by
    have := kNum_lo e6
    cases hz : f.1 with
    | zero => rw [hz] at this; exact absurd nI_0 this
    | succ i => omega
  have g14 : psG (pK t into p) 14 = upd (psG p 14) j (vp_nar .boolean 1) := by rw [e4, g_Kz14, hc, pNum_g]
  have g9 : psG (pK t into p) 9 = upd (psG p 9) (into * 10 + j) d.1 := by rw [e4, g_Kz9, hk, pNum_g, hv2, e7]
  have g0 : ∀ a, a ≠ 9 → a ≠ 10 → a ≠ 11 → a ≠ 12 → a ≠ 14 → psG (pK t into p) a = psG p a := fun a b1 b2 b3 b4 b5 => by rw [e4, g_Kz _ _ _ _ b1 b2 b3 b4 b5, pNum_g]
  obtain ⟨r1, r2, r3, r4, r5⟩ := hR
  refine ⟨by rw [g0 0 (by decide) (by decide) (by decide) (by decide) (by decide)]; exact r1, fun q hq => ?_, fun k hk => ?_, fun x hx => ?_, fun x hx => ?_⟩
  · rw [g0 13 (by decide) (by decide) (by decide) (by decide) (by decide), g0 1 (by decide) (by decide) (by decide) (by decide) (by decide)]; exact r2 q hq
  · rw [g14, g9]
    by_cases c : k = j
    · subst c
      exact Or.inr ⟨d, up_same _ _ _, by rw [upd_same]; exact vnar1', upd_same _ _ _, f.1, e7, hf0, hf1⟩
    · rw [show (R.1, va_up R.2 j (some d)).2 k = R.2 k from up_other _ _ c, upd_other _ _ c, upd_other _ _ (by omega)]
      exact r3 k hk
  · rw [g0 1 (by decide) (by decide) (by decide) (by decide) (by decide)]; exact r4 x hx
  · rw [g9, upd_other _ _ (by omega)]; exact r5 x hx
theorem RL_dead {t into : Nat} : ∀ (j : Nat) (p : PS), ¬ p.2.1 = none → ¬ (pRL t into j p).2.1 = none := by
  intro j p h
  cases j with
  | zero => exact h
  | succ j => unfold pRL; rw [if_neg h]; exact h
theorem tp_neg {g0 : Nat → Int32} {t n : Nat} (hb : ∀ n, ¬ g0 n < 0) (h : tp g0 t n < 0) : tp g0 t n = -1 := by
  unfold tp at h ⊢
  split
  · rename_i z; rw [if_pos z] at h; exact absurd h (hb n)
  · rfl
theorem RL (t into : Nat) (go : GT) (ht : t ≤ 400) (hi : into ≤ 9) (hb : ∀ n, ¬ go 0 n < 0) : ∀ (k j : Nat) (R : RD) (p : PS), p.2.1 = none → pok t p → t ≤ p.1 + k → k + 1 ≤ j → RG into R go (psG p) → (∀ R', kRows true (go 0) t k p.1 R = some R' → (pRL t into j p).2.1 = none ∧ RG into R' go (psG (pRL t into j p))) ∧ (kRows true (go 0) t k p.1 R = none → ¬ (pRL t into j p).2.1 = none) := by
  intro k
  induction k with
  | zero =>
    intro j R p h hp hk hj hR
    obtain ⟨j, rfl⟩ : ∃ i, j = i + 1 := ⟨j - 1, by omega⟩
    have hn := hp.2.2 h
    have hc : pC t (pSee t p) = -1 := by
      rw [c_see', sN_big _ (by omega)]
      exact if_neg (by omega)
    have e : pRL t into (j + 1) p = pSee t p := by unfold pRL; rw [if_pos h, hc, if_pos (by decide +kernel)]
    rw [e]
    exact ⟨fun R' q => by cases q; exact ⟨h, hR⟩, fun q => by cases q⟩
  | succ k ih =>
    intro j R p h hp hk hj hR
    obtain ⟨j, rfl⟩ : ∃ i, j = i + 1 := ⟨j - 1, by omega⟩
    have g0 : psG p 0 = go 0 := hR.1
    have hc : pC t (pSee t p) = tp (go 0) t (sN (go 0) t p.1) := by rw [c_see', g0]
    have hge := sN_ge (go 0) t p.1
    have hs1 : (pSee t p).1 = sN (go 0) t p.1 := by show sN (psG p 0) t p.1 = _; rw [g0]
    unfold kRows
    by_cases z : tp (go 0) t (sN (go 0) t p.1) = -1
    · have e : pRL t into (j + 1) p = pSee t p := by unfold pRL; rw [if_pos h, hc, z, if_pos (by decide +kernel)]
      rw [e, if_pos z]
      exact ⟨fun R' q => by cases q; exact ⟨h, hR⟩, fun q => by cases q⟩
    · have z2 : ¬ tp (go 0) t (sN (go 0) t p.1) < 0 := fun q => z (tp_neg hb q)
      have hlt : sN (go 0) t p.1 < t := tp_lt (g0 := go 0) z
      have e : pRL t into (j + 1) p = pRL t into j (pR3 t into (tp (go 0) t (sN (go 0) t p.1)) (pAdv (pR2 t (pSee t p)))) := by rw [pRL, if_pos h, hc, if_neg z2]
      rw [e, if_neg z]
      unfold kRow
      rw [sN_idem]
      have hc2 : pC t (pSee t p) = tp (go 0) t (sN (go 0) t p.1) := hc
      by_cases y : tp (go 0) t (sN (go 0) t p.1) = 113
      · have e2 : pR2 t (pSee t p) = pSee t p := by unfold pR2; rw [hc2]; exact if_pos (Or.inl y)
        have e3 : pR3 t into (tp (go 0) t (sN (go 0) t p.1)) (pAdv (pR2 t (pSee t p))) = pQ t into (pAdv (pSee t p)) := by
          rw [e2]; unfold pR3; rw [if_pos (show (pAdv (pSee t p)).2.1 = none from h), if_pos y]
        rw [e3, if_pos y]
        have hpo : pok t (pAdv (pSee t p)) := pok_plus (pok_see hp) (hc2.trans y) (by decide +kernel)
        have hR1 : RG into R go (psG (pAdv (pSee t p))) := hR
        have h5 := RK_Qu t into (fun j => (R.1 j).isSome) (p := pAdv (pSee t p)) h (fun j hj => hR1.told0 hj)
        rw [show psG (pAdv (pSee t p)) 0 = go 0 from g0, show (pAdv (pSee t p)).1 = sN (go 0) t p.1 + 1 from congrArg (· + 1) hs1] at h5
        cases e5 : kQues true (go 0) t (fun j => (R.1 j).isSome) (sN (go 0) t p.1 + 1) with
        | none =>
          rw [e5] at h5
          exact ⟨fun R' q => (by cases q), fun _ => RL_dead _ _ h5⟩
        | some r =>
          obtain ⟨q, d, m⟩ := r
          rw [e5] at h5
          have h6 : (pQ t into (pAdv (pSee t p))).2.1 = none := h5.1
          have h7 : (pQ t into (pAdv (pSee t p))).1 = m := h5.2
          have h8 := RG_Q (t := t) (j := q) (d := d) (m := m) hi (p := pAdv (pSee t p)) h hR1 (by rw [show psG (pAdv (pSee t p)) 0 = go 0 from g0, show (pAdv (pSee t p)).1 = sN (go 0) t p.1 + 1 from congrArg (· + 1) hs1]; exact e5)
          have h9 : (pAdv (pSee t p)).1 ≤ (pQ t into (pAdv (pSee t p))).1 := mo_Q
          have h10 : (pAdv (pSee t p)).1 = sN (go 0) t p.1 + 1 := congrArg (· + 1) hs1
          have := ih j (va_up R.1 q (some d), R.2) (pQ t into (pAdv (pSee t p))) h6 (pok_Q hpo ht) (by omega) (by omega) h8
          rw [h7] at this
          exact this
      · rw [if_neg y]
        unfold kTake
        rw [sN_idem]
        by_cases x : tp (go 0) t (sN (go 0) t p.1) = 107
        · have e2 : pR2 t (pSee t p) = pSee t p := by unfold pR2; rw [hc2]; exact if_pos (Or.inr x)
          have e3 : pR3 t into (tp (go 0) t (sN (go 0) t p.1)) (pAdv (pR2 t (pSee t p))) = pK t into (pAdv (pSee t p)) := by
            rw [e2]; unfold pR3; rw [if_pos (show (pAdv (pSee t p)).2.1 = none from h), if_neg y]
          rw [e3, if_pos x]
          have hpo : pok t (pAdv (pSee t p)) := pok_plus (pok_see hp) (hc2.trans x) (by decide +kernel)
          have hR1 : RG into R go (psG (pAdv (pSee t p))) := hR
          have h5 := RK_Ki t into (fun j => (R.2 j).isSome) (p := pAdv (pSee t p)) h (fun j hj => hR1.told1 hj)
          rw [show psG (pAdv (pSee t p)) 0 = go 0 from g0, show (pAdv (pSee t p)).1 = sN (go 0) t p.1 + 1 from congrArg (· + 1) hs1] at h5
          cases e5 : kKind true (go 0) t (fun j => (R.2 j).isSome) (sN (go 0) t p.1 + 1) with
          | none =>
            rw [e5] at h5
            simp only [Option.bind_some, e5, Option.bind_none]
            exact ⟨fun R' q => (by cases q), fun _ => RL_dead _ _ h5⟩
          | some r =>
            obtain ⟨q, d, m⟩ := r
            rw [e5] at h5
            simp only [Option.bind_some, e5]
            have h6 : (pK t into (pAdv (pSee t p))).2.1 = none := h5.1
            have h7 : (pK t into (pAdv (pSee t p))).1 = m := h5.2
            have h8 := RG_K (t := t) (j := q) (d := d) (m := m) hi (p := pAdv (pSee t p)) h hR1 (by rw [show psG (pAdv (pSee t p)) 0 = go 0 from g0, show (pAdv (pSee t p)).1 = sN (go 0) t p.1 + 1 from congrArg (· + 1) hs1]; exact e5)
            have h9 : (pAdv (pSee t p)).1 ≤ (pK t into (pAdv (pSee t p))).1 := mo_K
            have h10 : (pAdv (pSee t p)).1 = sN (go 0) t p.1 + 1 := congrArg (· + 1) hs1
            have := ih j (R.1, va_up R.2 q (some d)) (pK t into (pAdv (pSee t p))) h6 (pok_K hpo ht) (by omega) (by omega) h8
            rw [h7] at this
            exact this
        · rw [if_neg x]
          have e2 : pR2 t (pSee t p) = pFail (pSee t p).1 (pSee t p) := by unfold pR2; rw [hc2]; exact if_neg (fun q => q.elim y x)
          have h4 : ¬ (pAdv (pR2 t (pSee t p))).2.1 = none := by rw [e2]; exact fun q => liv_fail q
          have e3 : pR3 t into (tp (go 0) t (sN (go 0) t p.1)) (pAdv (pR2 t (pSee t p))) = pAdv (pR2 t (pSee t p)) := by unfold pR3; rw [if_neg h4]
          rw [e3]
          exact ⟨fun R' q => (by cases q), fun _ => RL_dead _ _ h4⟩
