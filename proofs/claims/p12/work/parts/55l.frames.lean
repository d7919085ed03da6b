-- what the reference's steps leave as it was, right or wrong
theorem fr_WL (t k : Nat) (hk : k < 1220) : ∀ (j m : Nat) (p : PS), j + m ≤ 13 → (∀ x, x ≠ k → psG (pWL t (nI k) j m p) 5 x = psG p 5 x) ∧ (∀ x, (x < k * 12 ∨ k * 12 + 12 ≤ x) → psG (pWL t (nI k) j m p) 6 x = psG p 6 x) := by
  intro j
  induction j with
  | zero => intro m p _; exact ⟨fun _ _ => rfl, fun _ _ => rfl⟩
  | succ j ih =>
    intro m p hj
    have hkc : (nI k).toNatClampNeg = k := nI_clamp (by omega)
    unfold pWL
    split
    · split
      · exact ⟨fun _ _ => rfl, fun _ _ => rfl⟩
      · rename_i _ z
        have hm : m < 12 := by
          have : ¬ m = 12 := fun q => z (Or.inr q)
          omega
        obtain ⟨i1, i2⟩ := ih (m + 1) (pAdv (pSet 6 (nI k * 12 + nI m) (pC t p) p)) (by omega)
        refine ⟨fun x hx => ?_, fun x hx => ?_⟩
        · rw [i1 x hx, g_adv, psG_set, up_other _ _ (by decide)]
        · rw [i2 x hx, g_adv, psG_set, up_same, nI_w hk (by omega), upd_other _ _ (by omega)]
    · unfold pWE
      dsimp only
      have e : ∀ q : PS, psG q = psG p → (∀ x, x ≠ k → psG (pSet 5 (nI k) (nI m) q) 5 x = psG p 5 x) ∧ (∀ x, (x < k * 12 ∨ k * 12 + 12 ≤ x) → psG (pSet 5 (nI k) (nI m) q) 6 x = psG p 6 x) := by
        intro q hq
        refine ⟨fun x hx => by rw [psG_set, up_same, hkc, upd_other _ _ hx, hq], fun x _ => by rw [psG_set, up_other _ _ (by decide), hq]⟩
      apply e
      split <;> split <;> rfl
theorem fr_Words (t k : Nat) (hk : k < 1220) (p : PS) : (∀ x, x ≠ k → psG (pWords t (nI k) p) 5 x = psG p 5 x) ∧ (∀ x, (x < k * 12 ∨ k * 12 + 12 ≤ x) → psG (pWords t (nI k) p) 6 x = psG p 6 x) := fr_WL t k hk 13 0 _ (by decide)
theorem fr_Q5 (t k : Nat) (hk : k < 610) (p : PS) : (∀ x, x ≠ k * 2 → x ≠ k * 2 + 1 → psG (pQ5 t (nI k) (k * 2) p) 5 x = psG p 5 x) ∧ (∀ x, (x < k * 24 ∨ k * 24 + 24 ≤ x) → psG (pQ5 t (nI k) (k * 2) p) 6 x = psG p 6 x) := by
  obtain ⟨a1, a2⟩ := fr_Words t (k * 2) (by omega) p
  unfold pQ5
  dsimp only
  generalize hp : pSet 5 (2 * nI k + 1) 0 (pWords t (nI (k * 2)) p) = p11
  have g5 : ∀ x, x ≠ k * 2 → x ≠ k * 2 + 1 → psG p11 5 x = psG p 5 x := fun x x1 x2 => by rw [← hp, psG_set, up_same, nI_d1 hk, upd_other _ _ x2, a1 x x1]
  have g6 : ∀ x, (x < k * 24 ∨ k * 24 + 24 ≤ x) → psG p11 6 x = psG p 6 x := fun x hx => by rw [← hp, psG_set, up_other _ _ (by decide), a2 x (by omega)]
  split
  · split
    · obtain ⟨b1, b2⟩ := fr_Words t (k * 2 + 1) (by omega) (pSee t p11)
      exact ⟨fun x x1 x2 => by rw [b1 x x2, g_see, g5 x x1 x2], fun x hx => by rw [b2 x (by omega), g_see, g6 x hx]⟩
    · exact ⟨g5, g6⟩
  · exact ⟨g5, g6⟩
theorem fr_Q4 (t k : Nat) (hk : k < 610) (p : PS) : ∀ x, x ≠ k → psG (pQ4 t (nI k) p) 3 x = psG p 3 x ∧ psG (pQ4 t (nI k) p) 4 x = psG p 4 x := by
  have hkc : (nI k).toNatClampNeg = k := nI_clamp (by omega)
  intro x hx
  unfold pQ4
  dsimp only
  refine ⟨?_, ?_⟩
  · rw [psG_set, up_other _ _ (by decide), pNum_g, g_take, psG_set, up_same, hkc, upd_other _ _ hx, pNum_g]
  · rw [psG_set, up_same, hkc, upd_other _ _ hx, pNum_g, g_take, psG_set, up_other _ _ (by decide), pNum_g]
theorem fr_Jt (t J : Nat) (hJ : J + 4 ≤ 14640) (p : PS) : ∀ x, (x < J ∨ J + 4 ≤ x) → psG (pJt t (nI J) p) 8 x = psG p 8 x := by
  have k2 : (nI J + 2 : Int32).toNatClampNeg = J + 2 := nI_J (a := 2) hJ (by decide)
  have k3 : (nI J + 3 : Int32).toNatClampNeg = J + 3 := nI_J (a := 3) hJ (by decide)
  intro x hx
  unfold pJt
  dsimp only
  generalize hp6 : pSet 8 (nI J + 3) 0 (pSet 8 (nI J + 2) (pVal t 0 60 (pTake t 62 p)) (pNum t 0 60 (pTake t 62 p))) = p6
  have g6 : psG p6 8 x = psG p 8 x := by rw [← hp6, psG_set, up_same, psG_set, up_same, pNum_g, g_take, k2, k3, upd_other _ _ (by omega), upd_other _ _ (by omega)]
  split
  · split
    · rw [psG_set, up_same, pNum_g, g_adv, g_see, k3, upd_other _ _ (by omega)]; exact g6
    · exact g6
  · exact g6
theorem fr_Js (t J : Nat) (hJ : J + 4 ≤ 14640) (p : PS) : ∀ x, (x < J ∨ J + 4 ≤ x) → psG (pJs t (nI J) p) 8 x = psG p 8 x := by
  have k0 : (nI J).toNatClampNeg = J := nI_clamp (by omega)
  have k1 : (nI J + 1 : Int32).toNatClampNeg = J + 1 := nI_J (a := 1) hJ (by decide)
  intro x hx
  unfold pJs
  dsimp only
  rw [psG_set, up_same, k1, upd_other _ _ (by omega), pNum_g, g_take, psG_set, up_same, k0, upd_other _ _ (by omega), pNum_g]
theorem fr_Jump (t i J : Nat) (hJ : J + 4 ≤ 14640) (p : PS) : ∀ x, (x < J ∨ J + 4 ≤ x) → psG (pJump t i (nI J) p) 8 x = psG p 8 x := by
  have k0 : (nI J).toNatClampNeg = J := nI_clamp (by omega)
  intro x hx
  have e : psG (pSet 8 (nI J) (-1) (pSee t p)) 8 x = psG p 8 x := by rw [psG_set, up_same, k0, upd_other _ _ (by omega), g_see]
  unfold pJump
  rw [fr_Jt t J hJ _ x hx]
  split
  · rw [fr_Js t J hJ _ x hx, e]
  · exact e
theorem fr_QL (t k : Nat) (hk : k < 610) : ∀ (j i : Nat) (p : PS), j + i ≤ 6 → (∀ x, x ≠ k → psG (pQL t k j i p) 7 x = psG p 7 x) ∧ (∀ x, (x < k * 24 ∨ k * 24 + 24 ≤ x) → psG (pQL t k j i p) 8 x = psG p 8 x) := by
  intro j
  induction j with
  | zero => intro i p _; exact ⟨fun _ _ => rfl, fun _ _ => rfl⟩
  | succ j ih =>
    intro i p hj
    have hkc : (nI k).toNatClampNeg = k := nI_clamp (by omega)
    have s7 : ∀ x, x ≠ k → psG (pQLs t k i p) 7 x = psG p 7 x := fun x hx => by unfold pQLs; rw [psG_set, up_same, hkc, upd_other _ _ hx, pJump_g t i _ p (by decide)]
    have s8 : ∀ x, (x < k * 24 ∨ k * 24 + 24 ≤ x) → psG (pQLs t k i p) 8 x = psG p 8 x := fun x hx => by unfold pQLs; rw [psG_set, up_other _ _ (by decide), fr_Jump t i ((k * 6 + i) * 4) (by omega) p x (by omega)]
    unfold pQL
    split
    · split
      · obtain ⟨i1, i2⟩ := ih (i + 1) (pTake t 44 (pQLs t k i p)) (by omega)
        exact ⟨fun x hx => by rw [i1 x hx, g_take, s7 x hx], fun x hx => by rw [i2 x hx, g_take, s8 x hx]⟩
      · exact ⟨s7, s8⟩
    · exact ⟨fun _ _ => rfl, fun _ _ => rfl⟩
theorem fr_Q6 (t k : Nat) (hk : k < 610) (p : PS) : (∀ x, x ≠ k → psG (pQ6 t k p) 7 x = psG p 7 x) ∧ (∀ x, (x < k * 24 ∨ k * 24 + 24 ≤ x) → psG (pQ6 t k p) 8 x = psG p 8 x) := by
  have hkc : (nI k).toNatClampNeg = k := nI_clamp (by omega)
  obtain ⟨a1, a2⟩ := fr_QL t k hk 6 0 (pSet 7 (nI k) 0 (pTake t 58 p)) (by decide)
  unfold pQ6
  refine ⟨fun x hx => ?_, fun x hx => ?_⟩
  · rw [g_take, a1 x hx, psG_set, up_same, hkc, upd_other _ _ hx, g_take]
  · rw [g_take, a2 x hx, psG_set, up_other _ _ (by decide), g_take]
-- one question's row in two worlds
def RQ (g g' : GT) (K K' : Nat) : Prop := g' 1 K' = g 1 K ∧ g' 2 K' = g 2 K ∧ g' 3 K' = g 3 K ∧ g' 4 K' = g 4 K ∧ g' 7 K' = g 7 K ∧ (∀ i, i < 2 → g' 5 (K' * 2 + i) = g 5 (K * 2 + i)) ∧ (∀ i, i < 24 → g' 6 (K' * 24 + i) = g 6 (K * 24 + i)) ∧ (∀ i, i < 24 → g' 8 (K' * 24 + i) = g 8 (K * 24 + i))
theorem RQ.rf {g : GT} {K : Nat} : RQ g g K K := ⟨rfl, rfl, rfl, rfl, rfl, fun _ _ => rfl, fun _ _ => rfl, fun _ _ => rfl⟩
theorem RQ.tr {g g' g'' : GT} {K K' K'' : Nat} (h1 : RQ g g' K K') (h2 : RQ g' g'' K' K'') : RQ g g'' K K'' := by
  obtain ⟨a1, a2, a3, a4, a7, a5, a6, a8⟩ := h1
  obtain ⟨b1, b2, b3, b4, b7, b5, b6, b8⟩ := h2
  exact ⟨b1.trans a1, b2.trans a2, b3.trans a3, b4.trans a4, b7.trans a7, fun i hi => (b5 i hi).trans (a5 i hi), fun i hi => (b6 i hi).trans (a6 i hi), fun i hi => (b8 i hi).trans (a8 i hi)⟩
theorem fr_Qz (t k : Nat) (hk : k < 610) (q : Int32) (p : PS) {K : Nat} (hK : K ≠ k) : RQ (psG p) (psG (pQz t k q p)) K K := by
  have hkc : (nI k).toNatClampNeg = k := nI_clamp (by omega)
  have g3 : ∀ a, a ≠ 1 → a ≠ 2 → a ≠ 13 → psG (pQ3 t (nI k) (pQ2 t q p)) a = psG p a := fun a h1 h2 h13 => by
    unfold pQ3 pQ2
    rw [psG_set, up_other _ _ h2, psG_set, up_other _ _ h1, g_adv, g_Q3a, g_see, psG_set, up_other _ _ h13]
  obtain ⟨s7, s8⟩ := fr_Q6 t k hk (pQ5 t (nI k) (k * 2) (pQ4 t (nI k) (pQ3 t (nI k) (pQ2 t q p))))
  obtain ⟨s5, s6⟩ := fr_Q5 t k hk (pQ4 t (nI k) (pQ3 t (nI k) (pQ2 t q p)))
  have s34 := fr_Q4 t k hk (pQ3 t (nI k) (pQ2 t q p)) K hK
  have s2 : psG (pQ3 t (nI k) (pQ2 t q p)) 2 K = psG p 2 K := by
    unfold pQ3 pQ2
    rw [psG_set, up_same, hkc, upd_other _ _ hK, psG_set, up_other _ _ (by decide), g_adv, g_Q3a, g_see, psG_set, up_other _ _ (by decide)]
  refine ⟨?_, ?_, ?_, ?_, ?_, fun i hi => ?_, fun i hi => ?_, fun i hi => ?_⟩
  · rw [g_Qz1, hkc, upd_other _ _ hK]
  · unfold pQz
    rw [g_Q6 _ _ _ (by decide) (by decide), g_Q5 _ _ _ _ (by decide) (by decide), g_Q4 _ _ _ (by decide) (by decide), s2]
  · unfold pQz
    rw [g_Q6 _ _ _ (by decide) (by decide), g_Q5 _ _ _ _ (by decide) (by decide), s34.1, g3 3 (by decide) (by decide) (by decide)]
  · unfold pQz
    rw [g_Q6 _ _ _ (by decide) (by decide), g_Q5 _ _ _ _ (by decide) (by decide), s34.2, g3 4 (by decide) (by decide) (by decide)]
  · unfold pQz
    rw [s7 K hK, g_Q5 _ _ _ _ (by decide) (by decide), g_Q4 _ _ _ (by decide) (by decide), g3 7 (by decide) (by decide) (by decide)]
  · unfold pQz
    rw [g_Q6 _ _ _ (by decide) (by decide), s5 _ (by omega) (by omega), g_Q4 _ _ _ (by decide) (by decide), g3 5 (by decide) (by decide) (by decide)]
  · unfold pQz
    rw [g_Q6 _ _ _ (by decide) (by decide), s6 _ (by omega), g_Q4 _ _ _ (by decide) (by decide), g3 6 (by decide) (by decide) (by decide)]
  · unfold pQz
    rw [s8 _ (by omega), g_Q5 _ _ _ _ (by decide) (by decide), g_Q4 _ _ _ (by decide) (by decide), g3 8 (by decide) (by decide) (by decide)]
-- a question's row
def QR (g : GT) (K : Nat) (d : QD) : Prop := g 1 K = 1 ∧ g 2 K = d.1 ∧ g 3 K = d.2.1.1 ∧ g 4 K = d.2.1.2 ∧ WR g (K * 2) d.2.2.1 ∧ WB g (K * 2 + 1) d.2.2.1 d.2.2.2.1 ∧ JR g K d.2.2.2.2.1 (d.2.2.2.2.2.2.2.1, d.2.2.2.2.2.2.2.2)
theorem QR.same {g g' : GT} {K K' : Nat} {d : QD} (h : QR g K d) (hs : RQ g g' K K') : QR g' K' d := by
  obtain ⟨h1, h2, h3, h4, ⟨w1, w2, w3, w4⟩, hb, j1, j2, j3, j4, j5⟩ := h
  obtain ⟨s1, s2, s3, s4, s7, s5, s6, s8⟩ := hs
  have t6 : ∀ i, i < 24 → g' 6 (K' * 2 * 12 + i) = g 6 (K * 2 * 12 + i) := fun i hi => by
    rw [show K' * 2 * 12 + i = K' * 24 + i by omega, show K * 2 * 12 + i = K * 24 + i by omega]; exact s6 i hi
  have t6b : ∀ i, i < 12 → g' 6 ((K' * 2 + 1) * 12 + i) = g 6 ((K * 2 + 1) * 12 + i) := fun i hi => by
    rw [show (K' * 2 + 1) * 12 + i = K' * 24 + (12 + i) by omega, show (K * 2 + 1) * 12 + i = K * 24 + (12 + i) by omega]; exact s6 _ (by omega)
  have t8 : ∀ i a, i < 6 → a < 4 → g' 8 ((K' * 6 + i) * 4 + a) = g 8 ((K * 6 + i) * 4 + a) := fun i a hi ha => by
    rw [show (K' * 6 + i) * 4 + a = K' * 24 + (i * 4 + a) by omega, show (K * 6 + i) * 4 + a = K * 24 + (i * 4 + a) by omega]; exact s8 _ (by omega)
  refine ⟨s1.trans h1, s2.trans h2, s3.trans h3, s4.trans h4, ⟨(s5 0 (by decide)).trans w1, w2, w3, fun j hj => (t6 j (by omega)).trans (w4 j hj)⟩, ?_, s7.trans j1, j2, fun i e hd => ?_, (t8 _ 2 (by omega) (by decide)).trans j4, (t8 _ 3 (by omega) (by decide)).trans j5⟩
  · rcases hb with ⟨b1, b2⟩ | ⟨b1, b2, b3, b4⟩
    · exact Or.inl ⟨(s5 1 (by decide)).trans b1, b2⟩
    · exact Or.inr ⟨(s5 1 (by decide)).trans b1, b2, b3, fun j hj => (t6b j (by omega)).trans (b4 j hj)⟩
  · have hi : i < d.2.2.2.2.1.length := by
      rcases Nat.lt_or_ge i d.2.2.2.2.1.length with c | c
      · exact c
      · rw [List.getElem?_eq_none c] at hd; cases hd
    obtain ⟨d1, d2, d3, d4⟩ := j3 i e hd
    exact ⟨(t8 i 0 (by omega) (by decide)).trans d1, (t8 i 1 (by omega) (by decide)).trans d2, (t8 i 2 (by omega) (by decide)).trans d3, (t8 i 3 (by omega) (by decide)).trans d4⟩
theorem C_Qz (t k j : Nat) (hk : k < 610) (q : Int32) {p : PS} {d : QD} {n' : Nat} (h : p.2.1 = none) (hs : ((kMust (psG p 0) t p.1).bind fun mu => kQ2 true (psG p 0) t j mu.1 mu.2) = some (j, d, n')) : QR (psG (pQz t k q p)) k d := by
  have hkc : (nI k).toNatClampNeg = k := nI_clamp (by omega)
  obtain ⟨mu, e1, hs⟩ := bind_ex hs
  unfold kQ2 at hs
  obtain ⟨sp, e2, hs⟩ := bind_ex hs
  obtain ⟨wa, e3, hs⟩ := bind_ex hs
  obtain ⟨wb, e4, hs⟩ := bind_ex hs
  unfold kQ3 at hs
  obtain ⟨m, e5, hs⟩ := bind_ex hs
  obtain ⟨js, e6, hs⟩ := bind_ex hs
  unfold kQ4 at hs
  obtain ⟨r, e7, hs⟩ := bind_ex hs
  obtain ⟨m2, e8, hs⟩ := bind_ex hs
  cases hs
  have c2 := C_Q3 t k hk q h e1
  have r3 := RK_Q3 t (nI k) q h
  rw [e1] at r3
  have g30 : psG (pQ3 t (nI k) (pQ2 t q p)) 0 = psG p 0 := by
    unfold pQ3 pQ2
    rw [psG_set, up_other _ _ (by decide), psG_set, up_other _ _ (by decide), g_adv, g_Q3a, g_see, psG_set, up_other _ _ (by decide)]
  have c1 := g_Qz1 t k q p
  unfold pQz at c1 ⊢
  generalize pQ3 t (nI k) (pQ2 t q p) = p3 at c1 c2 r3 g30 ⊢
  obtain ⟨c3, c4⟩ := C_Q4 t k hk r3.1 (r := sp.1) (n' := sp.2) (by rw [g30, r3.2]; exact e2)
  have r4 := RK_Q4 t (nI k) r3.1
  rw [g30, r3.2, e2] at r4
  have g40 : psG (pQ4 t (nI k) p3) 0 = psG p 0 := by rw [g_Q4 _ _ _ (by decide) (by decide)]; exact g30
  have g42 : psG (pQ4 t (nI k) p3) 2 = psG p3 2 := g_Q4 _ _ _ (by decide) (by decide)
  generalize pQ4 t (nI k) p3 = p4 at c1 c3 c4 r4 g40 g42 ⊢
  obtain ⟨c5, c6, -, -⟩ := C_Q5 t k hk r4.1 (wa := wa.1) (n1 := wa.2) (wb := wb.1) (n2 := wb.2) (by rw [g40, r4.2]; exact e3) (by rw [g40]; exact e4)
  have r5 := RK_Q5 t (k * 2) (nI k) r4.1
  rw [g40, r4.2, show ((kWords (psG p 0) t sp.2).bind fun wa => (kWb (psG p 0) t wa.1 wa.2).bind fun wb => some (wa, wb)) = some (wa, wb) from by rw [e3]; show ((kWb (psG p 0) t wa.1 wa.2).bind _) = _; rw [e4]; rfl] at r5
  have g5o : ∀ a, a ≠ 5 → a ≠ 6 → psG (pQ5 t (nI k) (k * 2) p4) a = psG p4 a := fun a h5 h6 => g_Q5 _ _ _ _ h5 h6
  generalize pQ5 t (nI k) (k * 2) p4 = p5 at c1 c5 c6 r5 g5o ⊢
  have g50 : psG p5 0 = psG p 0 := by rw [g5o 0 (by decide) (by decide)]; exact g40
  have r6 := RK_take t 58 r5.1
  rw [g50, r5.2, e5] at r6
  have g60 : psG (pSet 7 (nI k) 0 (pTake t 58 p5)) 0 = psG p 0 := by rw [psG_set, up_other _ _ (by decide), g_take]; exact g50
  obtain ⟨c7, -, -⟩ := C_QL t k hk (psG p 0) 6 0 [] (pSet 7 (nI k) 0 (pTake t 58 p5)) js r (siv_set r6.1) g60 rfl (by decide) rfl (by rw [psG_set, up_same, hkc, upd_same]; exact nI_0.symm) (fun i d hd => by cases hd) (by
    rw [show (pSet 7 (nI k) 0 (pTake t 58 p5)).1 = m from siv_1 r6.2]
    show ((kJumps true (psG p 0) t 5 m []).bind _) = _
    rw [e6]
    show ((kJump true (psG p 0) t js.2).bind _) = _
    rw [e7]; rfl)
  have g6o : ∀ a, a ≠ 7 → a ≠ 8 → psG (pQ6 t k p5) a = psG p5 a := fun a h7 h8 => g_Q6 _ _ _ h7 h8
  have e67 : psG (pQ6 t k p5) = psG (pQL t k 6 0 (pSet 7 (nI k) 0 (pTake t 58 p5))) := rfl
  refine ⟨by rw [c1, hkc, upd_same]; exact vnar1, ?_, ?_, ?_, ⟨?_, c5.2.1, c5.2.2.1, fun j hj => ?_⟩, ?_, ?_⟩
  · rw [g6o 2 (by decide) (by decide), g5o 2 (by decide) (by decide), g42, c2, upd_same]
  · rw [g6o 3 (by decide) (by decide), g5o 3 (by decide) (by decide), c3, upd_same]
  · rw [g6o 4 (by decide) (by decide), g5o 4 (by decide) (by decide), c4, upd_same]
  · rw [g6o 5 (by decide) (by decide)]; exact c5.1
  · rw [g6o 6 (by decide) (by decide)]; exact c5.2.2.2 j hj
  · rcases c6 with ⟨b1, b2⟩ | ⟨b1, b2, b3, b4⟩
    · exact Or.inl ⟨by rw [g6o 5 (by decide) (by decide)]; exact b1, b2⟩
    · exact Or.inr ⟨by rw [g6o 5 (by decide) (by decide)]; exact b1, b2, b3, fun j hj => by rw [g6o 6 (by decide) (by decide)]; exact b4 j hj⟩
  · rw [e67]; exact c7
