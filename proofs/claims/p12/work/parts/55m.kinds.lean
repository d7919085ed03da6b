-- kinds: frames, the row
theorem fr_Tb (t s : Nat) (hs : s + 3 ≤ 8400) (c : Int32) (p : PS) : ∀ x, (x < s ∨ s + 3 ≤ x) → psG (pTb t (nI s) c p) 12 x = psG p 12 x := by
  have k1 : (nI s + 1 : Int32).toNatClampNeg = s + 1 := nI_s (a := 1) hs (by decide)
  have k2 : (nI s + 2 : Int32).toNatClampNeg = s + 2 := nI_s (a := 2) hs (by decide)
  have h4 : psG (pT4 t c p) = psG p := by
    unfold pT4
    split <;> rfl
  intro x hx
  unfold pTb
  split
  · split
    · unfold pT5
      rw [psG_set, up_same, pNum_g, psG_set, up_same, k1, k2, upd_other _ _ (by omega), upd_other _ _ (by omega), g_adv, h4]
    · rw [h4]
  · rfl
theorem fr_T (t s : Nat) (hs : s + 3 ≤ 8400) (p : PS) : ∀ x, (x < s ∨ s + 3 ≤ x) → psG (pT t (nI s) p) 12 x = psG p 12 x := by
  have k0 : (nI s).toNatClampNeg = s := nI_clamp (by omega)
  have h1 : psG (pT1 t p) = psG p := by
    unfold pT1
    split <;> rfl
  intro x hx
  unfold pT
  split
  · rw [fr_Tb t s hs _ _ x hx]
    unfold pT2
    split
    · rw [psG_set, up_same, k0, upd_other _ _ (by omega), pNum_g, g_adv, h1]
    · rw [psG_set, up_same, k0, upd_other _ _ (by omega), g_adv, h1]
  · rw [h1]
theorem fr_CL (t c : Nat) (hc : c + 14 ≤ 8400) : ∀ (j m : Nat) (p : PS), j + m ≤ 4 → ∀ x, (x < c ∨ c + 14 ≤ x) → psG (pCL t (nI c) j m p).2 12 x = psG p 12 x := by
  intro j
  induction j with
  | zero => intro m p _ x _; rfl
  | succ j ih =>
    intro m p hj x hx
    have hT := fr_T t (c + 2 + 3 * m) (by omega) p x (by omega)
    rw [pCL]
    split
    · rw [nI_t]
      split
      · split
        · rw [ih (m + 1) _ (by omega) x hx, g_adv, g_see, hT]
        · exact hT
      · exact hT
    · rfl
theorem fr_CR (t c : Nat) (hc : c + 14 ≤ 8400) (p : PS) : ∀ x, (x < c ∨ c + 14 ≤ x) → psG (pCR t (nI c) p) 12 x = psG p 12 x := by
  have k1 : (nI c + 1 : Int32).toNatClampNeg = c + 1 := by rw [nI_1]; exact nI_clamp (by omega)
  have k0 : (nI c).toNatClampNeg = c := nI_clamp (by omega)
  intro x hx
  unfold pCR pCf pCe
  rw [g_take, psG_set, up_same, k0, upd_other _ _ (by omega), pNum_g, g_take, psG_set, up_same, k1, upd_other _ _ (by omega)]
  exact fr_CL t c hc 4 0 p (by decide) x hx
theorem fr_KL (t k : Nat) (hk : k < 100) : ∀ (j i : Nat) (p : PS), (∀ x, x ≠ k → psG (pKL t k j i p) 11 x = psG p 11 x) ∧ (∀ x, (x < k * 84 ∨ k * 84 + 84 ≤ x) → psG (pKL t k j i p) 12 x = psG p 12 x) := by
  intro j
  induction j with
  | zero => intro i p; exact ⟨fun _ _ => rfl, fun _ _ => rfl⟩
  | succ j ih =>
    intro i p
    have hkc : (nI k).toNatClampNeg = k := nI_clamp (by omega)
    unfold pKL
    split
    · rename_i z
      split
      · obtain ⟨i1, i2⟩ := ih (i + 1) (pKs t k i (pAdv (pSee t p)))
        refine ⟨fun x hx => ?_, fun x hx => ?_⟩
        · rw [i1 x hx]
          unfold pKs
          rw [psG_set, up_same, hkc, upd_other _ _ hx, pCR_g t _ _ (by decide), g_adv, g_see]
        · rw [i2 x hx]
          unfold pKs
          rw [psG_set, up_other _ _ (by decide), fr_CR t ((k * 6 + i) * 14) (by omega) _ x (by omega), g_adv, g_see]
      · exact ⟨fun _ _ => rfl, fun _ _ => rfl⟩
    · exact ⟨fun _ _ => rfl, fun _ _ => rfl⟩
def RKe (g g' : GT) (K K' : Nat) : Prop := g' 9 K' = g 9 K ∧ g' 10 K' = g 10 K ∧ g' 11 K' = g 11 K ∧ ∀ i, i < 84 → g' 12 (K' * 84 + i) = g 12 (K * 84 + i)
theorem RKe.rf {g : GT} {K : Nat} : RKe g g K K := ⟨rfl, rfl, rfl, fun _ _ => rfl⟩
theorem RKe.tr {g g' g'' : GT} {K K' K'' : Nat} (h1 : RKe g g' K K') (h2 : RKe g' g'' K' K'') : RKe g g'' K K'' := ⟨h2.1.trans h1.1, h2.2.1.trans h1.2.1, h2.2.2.1.trans h1.2.2.1, fun i hi => (h2.2.2.2 i hi).trans (h1.2.2.2 i hi)⟩
theorem fr_Kz (t k : Nat) (hk : k < 100) (q : Int32) (p : PS) {K : Nat} (hK : K ≠ k) : RKe (psG p) (psG (pKz t k q p)) K K := by
  have hkc : (nI k).toNatClampNeg = k := nI_clamp (by omega)
  obtain ⟨s11, s12⟩ := fr_KL t k hk 7 0 (pK3 t k (pK2 t k (pK1 t q p)))
  have g1 : ∀ a, a ≠ 14 → psG (pK1 t q p) a = psG p a := fun a h => by unfold pK1; rw [g_take, psG_set, up_other _ _ h]
  refine ⟨?_, ?_, ?_, fun i hi => ?_⟩
  · rw [g_Kz9, hkc, upd_other _ _ hK]
  · unfold pKz
    rw [g_take, g_KL _ _ (by decide) (by decide)]
    unfold pK3
    rw [psG_set, up_other _ _ (by decide), psG_set, up_same, hkc, upd_other _ _ hK, pNum_g]
    unfold pK2
    rw [g_take, psG_set, up_other _ _ (by decide), pNum_g, g1 10 (by decide)]
  · unfold pKz
    rw [g_take, s11 K hK]
    unfold pK3
    rw [psG_set, up_same, hkc, upd_other _ _ hK, psG_set, up_other _ _ (by decide), pNum_g]
    unfold pK2
    rw [g_take, psG_set, up_other _ _ (by decide), pNum_g, g1 11 (by decide)]
  · unfold pKz
    rw [g_take, s12 _ (by omega)]
    unfold pK3
    rw [psG_set, up_other _ _ (by decide), psG_set, up_other _ _ (by decide), pNum_g]
    unfold pK2
    rw [g_take, psG_set, up_other _ _ (by decide), pNum_g, g1 12 (by decide)]
def KR (g : GT) (K : Nat) (d : KD) : Prop := g 9 K = d.1 ∧ g 10 K = d.2.1 ∧ g 11 K = nI d.2.2.length ∧ d.2.2.length ≤ 6 ∧ ∀ i e, d.2.2[i]? = some e → CR g ((K * 6 + i) * 14) e
theorem TC_move {g g' : GT} {s s' : Nat} {d : TD} (h : TC g s d) (hs : ∀ a, a < 3 → g' 12 (s' + a) = g 12 (s + a)) : TC g' s' d := ⟨(hs 0 (by decide)).trans h.1, (hs 1 (by decide)).trans h.2.1, (hs 2 (by decide)).trans h.2.2⟩
theorem CR_move {g g' : GT} {c c' : Nat} {d : CD} (h : CR g c d) (hs : ∀ a, a < 14 → g' 12 (c' + a) = g 12 (c + a)) : CR g' c' d := by
  obtain ⟨h1, h2, h3, h4⟩ := h
  refine ⟨(hs 0 (by decide)).trans h1, (hs 1 (by decide)).trans h2, h3, fun i e hd => ?_⟩
  have hi : i < d.1.length := by
    rcases Nat.lt_or_ge i d.1.length with c | c
    · exact c
    · rw [List.getElem?_eq_none c] at hd; cases hd
  refine TC_move (h4 i e hd) (fun a ha => ?_)
  rw [show c' + 2 + 3 * i + a = c' + (2 + 3 * i + a) by omega, show c + 2 + 3 * i + a = c + (2 + 3 * i + a) by omega]
  exact hs _ (by omega)
theorem KR.same {g g' : GT} {K K' : Nat} {d : KD} (h : KR g K d) (hs : RKe g g' K K') : KR g' K' d := by
  obtain ⟨h1, h2, h3, h4, h5⟩ := h
  obtain ⟨s1, s2, s3, s4⟩ := hs
  refine ⟨s1.trans h1, s2.trans h2, s3.trans h3, h4, fun i e hd => ?_⟩
  have hi : i < d.2.2.length := by
    rcases Nat.lt_or_ge i d.2.2.length with c | c
    · exact c
    · rw [List.getElem?_eq_none c] at hd; cases hd
  refine CR_move (h5 i e hd) (fun a ha => ?_)
  rw [show (K' * 6 + i) * 14 + a = K' * 84 + (i * 14 + a) by omega, show (K * 6 + i) * 14 + a = K * 84 + (i * 14 + a) by omega]
  exact s4 _ (by omega)
theorem C_Kz (t k j : Nat) (hk : k < 100) (q : Int32) {p : PS} {d : KD} {n' : Nat} (h : p.2.1 = none) (hs : kKind2 true (psG p 0) t j p.1 = some (j, d, n')) : KR (psG (pKz t k q p)) k d := by
  have hkc : (nI k).toNatClampNeg = k := nI_clamp (by omega)
  unfold kKind2 at hs
  obtain ⟨m, e1, hs⟩ := bind_ex hs
  obtain ⟨f, e2, hs⟩ := bind_ex hs
  obtain ⟨m2, e3, hs⟩ := bind_ex hs
  obtain ⟨pr, e4, hs⟩ := bind_ex hs
  unfold kKind3 at hs
  obtain ⟨cs, e5, hs⟩ := bind_ex hs
  obtain ⟨m3, e6, hs⟩ := bind_ex hs
  cases hs
  have g00 : psG (pSet 14 q (vp_nar .boolean 1) p) 0 = psG p 0 := by rw [psG_set, up_other _ _ (by decide)]
  have r1 := RK_take t 61 (p := pSet 14 q (vp_nar .boolean 1) p) (siv_set h)
  rw [g00, show (pSet 14 q (vp_nar .boolean 1) p).1 = p.1 from rfl, e1] at r1
  have q1 : (pK1 t q p).2.1 = none := r1.1
  have q2 : (pK1 t q p).1 = m := r1.2
  have g10 : psG (pK1 t q p) 0 = psG p 0 := g00
  have c9 := g_Kz9 t k q p
  unfold pKz at c9 ⊢
  generalize pK1 t q p = p1 at q1 q2 g10 c9 ⊢
  have hv1 : pVal t 1 60 p1 = nI f.1 := val_num (m := f.2) q1 (by rw [g10, q2]; exact e2)
  have r2 := RK_num t 1 60 q1
  rw [g10, q2, e2] at r2
  have g20 : psG (pSet 9 (nI k) (pVal t 1 60 p1) (pNum t 1 60 p1)) 0 = psG p 0 := by rw [psG_set, up_other _ _ (by decide), pNum_g]; exact g10
  have r3 := RK_take t 58 (p := pSet 9 (nI k) (pVal t 1 60 p1) (pNum t 1 60 p1)) (siv_set r2.1)
  rw [g20, show (pSet 9 (nI k) (pVal t 1 60 p1) (pNum t 1 60 p1)).1 = f.2 from siv_1 r2.2, e3] at r3
  have q3 : (pK2 t k p1).2.1 = none := r3.1
  have q4 : (pK2 t k p1).1 = m2 := r3.2
  have g2 : psG (pK2 t k p1) 0 = psG p 0 := g20
  generalize pK2 t k p1 = p2 at q3 q4 g2 c9 ⊢
  have hv2 : pVal t 0 9 p2 = nI pr.1 := val_num (m := pr.2) q3 (by rw [g2, q4]; exact e4)
  have r4 := RK_num t 0 9 q3
  rw [g2, q4, e4] at r4
  have q5 : (pK3 t k p2).2.1 = none := siv_set (siv_set r4.1)
  have q6 : (pK3 t k p2).1 = pr.2 := siv_1 (siv_1 r4.2)
  have g3 : psG (pK3 t k p2) 0 = psG p 0 := by unfold pK3; rw [psG_set, up_other _ _ (by decide), psG_set, up_other _ _ (by decide), pNum_g]; exact g2
  have g310 : psG (pK3 t k p2) 10 k = nI pr.1 := by unfold pK3; rw [psG_set, up_other _ _ (by decide), psG_set, up_same, hkc, upd_same, hv2]
  have g311 : psG (pK3 t k p2) 11 k = nI 0 := by unfold pK3; rw [psG_set, up_same, hkc, upd_same]; exact nI_0.symm
  obtain ⟨c1, c2, c3, -, -⟩ := C_KL t k hk (psG p 0) 7 0 [] (pK3 t k p2) cs q5 g3 rfl (by decide) rfl g311 (fun i d hd => by cases hd) (by rw [q6]; exact e5)
  have eT : psG (pTake t 59 (pKL t k 7 0 (pK3 t k p2))) = psG (pKL t k 7 0 (pK3 t k p2)) := rfl
  refine ⟨by rw [c9, hkc, upd_same, hv1], by rw [eT, g_KL _ _ (by decide) (by decide)]; exact g310, by rw [eT]; exact c1, c2, fun i e hd => by rw [eT]; exact c3 i e hd⟩
