-- what the reference writes of a question: must, span, jumps
theorem C_Q3 (t k : Nat) (hk : k < 610) (q : Int32) {p : PS} {mu : Int32 × Nat} (h : p.2.1 = none) (hm : kMust (psG p 0) t p.1 = some mu) : psG (pQ3 t (nI k) (pQ2 t q p)) 2 = upd (psG p 2) k mu.1 := by
  have hkc : (nI k).toNatClampNeg = k := nI_clamp (by omega)
  have hg0 : psG (pSet 13 q (vp_nar .boolean 1) p) 0 = psG p 0 := by rw [psG_set, up_other _ _ (by decide)]
  have hc : pC t (pQ2 t q p) = tp (psG p 0) t (sN (psG p 0) t p.1) := by
    show tp (psG (pSet 13 q (vp_nar .boolean 1) p) 0) t (sN (psG (pSet 13 q (vp_nar .boolean 1) p) 0) t p.1) = _
    rw [hg0]
  unfold pQ3
  rw [psG_set, up_same, hkc, psG_set, up_other _ _ (by decide), g_adv, g_Q3a, hc]
  have e2 : psG (pQ2 t q p) 2 = psG p 2 := by unfold pQ2; rw [g_see, psG_set, up_other _ _ (by decide)]
  rw [e2]
  unfold kMust at hm
  by_cases z : tp (psG p 0) t (sN (psG p 0) t p.1) = 33
  · rw [if_pos z] at hm
    cases hm
    rw [if_pos z, vnar1]
  · rw [if_neg z] at hm
    obtain ⟨m, -, e3⟩ := bind_ex hm
    cases e3
    rw [if_neg z, vnar0]
theorem kSpan_ex {g0 : Nat → Int32} {t n n' : Nat} {r : Int32 × Int32} (h : kSpan true g0 t n = some (r, n')) : ∃ v1 m1 m2 v2, kNum true g0 t 0 9999 n = some (v1, m1) ∧ kTake g0 t 45 m1 = some m2 ∧ kNum true g0 t (nI v1) 9999 m2 = some (v2, n') ∧ r = (nI v1, nI v2) := by
  unfold kSpan at h
  obtain ⟨a, h1, h⟩ := bind_ex h
  obtain ⟨m, h2, h⟩ := bind_ex h
  obtain ⟨b, h3, h⟩ := bind_ex h
  cases h
  exact ⟨a.1, a.2, m, b.1, h1, h2, h3, rfl⟩
theorem C_span (t j : Nat) (i i' : Int32) (j' : Nat) (hj : j ≠ 0) {p : PS} {r : Int32 × Int32} {n' : Nat} (h : p.2.1 = none) (hs : kSpan true (psG p 0) t p.1 = some (r, n')) : psG (pSet j' i' (pVal t (psG (pTake t 45 (pSet j i (pVal t 0 9999 p) (pNum t 0 9999 p))) j i.toNatClampNeg) 9999 (pTake t 45 (pSet j i (pVal t 0 9999 p) (pNum t 0 9999 p)))) (pNum t (psG (pTake t 45 (pSet j i (pVal t 0 9999 p) (pNum t 0 9999 p))) j i.toNatClampNeg) 9999 (pTake t 45 (pSet j i (pVal t 0 9999 p) (pNum t 0 9999 p))))) = va_up (va_up (psG p) j (upd (psG p j) i.toNatClampNeg r.1)) j' (upd (va_up (psG p) j (upd (psG p j) i.toNatClampNeg r.1) j') i'.toNatClampNeg r.2) := by
  obtain ⟨v1, m1, m2, v2, e1, e2, e3, rfl⟩ := kSpan_ex hs
  have h1 := RK_num t 0 9999 h
  rw [e1] at h1
  have hv : pVal t 0 9999 p = nI v1 := val_num h e1
  generalize hp7 : pSet j i (pVal t 0 9999 p) (pNum t 0 9999 p) = p7
  have h7 : p7.2.1 = none := by rw [← hp7]; exact h1.1
  have h71 : p7.1 = m1 := by rw [← hp7]; exact h1.2
  have g7 : psG p7 = va_up (psG p) j (upd (psG p j) i.toNatClampNeg (nI v1)) := by rw [← hp7, psG_set, pNum_g, hv]
  have g70 : psG p7 0 = psG p 0 := by rw [g7, up_other _ _ hj.symm]
  have g7j : psG p7 j i.toNatClampNeg = nI v1 := by rw [g7, up_same, upd_same]
  have h8 := RK_take t 45 h7
  rw [g70, h71, e2] at h8
  rw [show psG (pTake t 45 p7) j i.toNatClampNeg = nI v1 from g7j, psG_set, pNum_g, g_take, g7]
  have hv2 : pVal t (nI v1) 9999 (pTake t 45 p7) = nI v2 := val_num (m := n') h8.1 (by rw [g_take, g70, h8.2]; exact e3)
  rw [hv2]
theorem C_Q4 (t k : Nat) (hk : k < 610) {p : PS} {r : Int32 × Int32} {n' : Nat} (h : p.2.1 = none) (hs : kSpan true (psG p 0) t p.1 = some (r, n')) : psG (pQ4 t (nI k) p) 3 = upd (psG p 3) k r.1 ∧ psG (pQ4 t (nI k) p) 4 = upd (psG p 4) k r.2 := by
  have hkc : (nI k).toNatClampNeg = k := nI_clamp (by omega)
  have e := C_span t 3 (nI k) (nI k) 4 (by decide) h hs
  have e1 : psG (pQ4 t (nI k) p) = _ := e
  rw [e1, hkc]
  exact ⟨by rw [up_other _ _ (by decide), up_same], by rw [up_same, up_other _ _ (by decide)]⟩
def JC (g : GT) (J : Nat) (d : JD) : Prop := g 8 J = d.1 ∧ g 8 (J + 1) = d.2.1 ∧ g 8 (J + 2) = d.2.2.1 ∧ g 8 (J + 3) = d.2.2.2
theorem nI_J {J a : Nat} (hJ : J + 4 ≤ 14640) (ha : a < 4) : (nI J + nI a : Int32).toNatClampNeg = J + a := by
  rw [nI_add]; exact nI_clamp (by omega)
theorem C_Js (t J : Nat) (hJ : J + 4 ≤ 14640) {p : PS} {r : Int32 × Int32} {n' : Nat} (h : p.2.1 = none) (hs : kSpan true (psG p 0) t p.1 = some (r, n')) : psG (pJs t (nI J) p) 8 = upd (upd (psG p 8) J r.1) (J + 1) r.2 := by
  have hkc : (nI J).toNatClampNeg = J := nI_clamp (by omega)
  have hk1 : (nI J + 1 : Int32).toNatClampNeg = J + 1 := nI_J (a := 1) hJ (by decide)
  have e := C_span t 8 (nI J) (nI J + 1) 8 (by decide) h hs
  have e1 : psG (pJs t (nI J) p) = _ := e
  rw [e1, hkc, hk1, up_same, up_same]
theorem C_Jt (t J : Nat) (hJ : J + 4 ≤ 14640) {p : PS} {r : Int32 × Int32} {n' : Nat} (h : p.2.1 = none) (hs : kJump true (psG p 0) t p.1 = some (r, n')) : psG (pJt t (nI J) p) 8 (J + 2) = r.1 ∧ psG (pJt t (nI J) p) 8 (J + 3) = r.2 ∧ ∀ x, x ≠ J + 2 → x ≠ J + 3 → psG (pJt t (nI J) p) 8 x = psG p 8 x := by
  have k2 : (nI J + 2 : Int32).toNatClampNeg = J + 2 := nI_J (a := 2) hJ (by decide)
  have k3 : (nI J + 3 : Int32).toNatClampNeg = J + 3 := nI_J (a := 3) hJ (by decide)
  unfold kJump at hs
  obtain ⟨m, e1, hs⟩ := bind_ex hs
  obtain ⟨a, e2, hs⟩ := bind_ex hs
  obtain ⟨b, e3, hs⟩ := bind_ex hs
  cases hs
  have h4 := RK_take t 62 h
  rw [e1] at h4
  have h5 := RK_num t 0 60 h4.1
  rw [show psG (pTake t 62 p) 0 = psG p 0 from rfl, h4.2, show id m = m from rfl, e2] at h5
  have hv : pVal t 0 60 (pTake t 62 p) = nI a.1 := val_num (m := a.2) h4.1 (by rw [show psG (pTake t 62 p) 0 = psG p 0 from rfl, h4.2]; exact e2)
  unfold pJt
  dsimp only
  generalize hp6 : pSet 8 (nI J + 3) 0 (pSet 8 (nI J + 2) (pVal t 0 60 (pTake t 62 p)) (pNum t 0 60 (pTake t 62 p))) = p6
  have h7 : p6.2.1 = none := by rw [← hp6]; exact h5.1
  have h71 : p6.1 = a.2 := by rw [← hp6]; exact h5.2
  have g6 : psG p6 8 = upd (upd (psG p 8) (J + 2) (nI a.1)) (J + 3) 0 := by rw [← hp6, psG_set, up_same, psG_set, up_same, pNum_g, g_take, k2, k3, hv]
  have g60 : psG p6 0 = psG p 0 := by rw [← hp6, psG_set, up_other _ _ (by decide), psG_set, up_other _ _ (by decide), pNum_g]; rfl
  rw [if_pos h7, c_see', g60, h71]
  unfold kPts at e3
  by_cases z : tp (psG p 0) t (sN (psG p 0) t a.2) = 43
  · rw [if_pos z] at e3 ⊢
    obtain ⟨v, e4, e5⟩ := bind_ex e3
    cases e5
    have hv3 : pVal t 0 999 (pAdv (pSee t p6)) = nI v.1 := val_num (m := v.2) h7 (by
      rw [show psG (pAdv (pSee t p6)) 0 = psG p 0 from g60, show (pAdv (pSee t p6)).1 = sN (psG p 0) t a.2 + 1 from by show sN (psG p6 0) t p6.1 + 1 = _; rw [g60, h71]]
      exact e4)
    rw [psG_set, up_same, pNum_g, g_adv, g_see, g6, k3, hv3]
    exact ⟨by rw [upd_other _ _ (by omega), upd_other _ _ (by omega), upd_same], upd_same _ _ _, fun x x1 x2 => by rw [upd_other _ _ x2, upd_other _ _ x2, upd_other _ _ x1]⟩
  · rw [if_neg z] at e3 ⊢
    cases e3
    rw [g_see, g6]
    exact ⟨by rw [upd_other _ _ (by omega), upd_same], upd_same _ _ _, fun x x1 x2 => by rw [upd_other _ _ x2, upd_other _ _ x1]⟩
def JR (g : GT) (k : Nat) (js : List JD) (r : Int32 × Int32) : Prop := g 7 k = nI (js.length + 1) ∧ js.length ≤ 5 ∧ (∀ i d, js[i]? = some d → JC g ((k * 6 + i) * 4) d) ∧ g 8 ((k * 6 + js.length) * 4 + 2) = r.1 ∧ g 8 ((k * 6 + js.length) * 4 + 3) = r.2
theorem C_last (t k i : Nat) (hk : k < 610) (hi : i ≤ 5) {p : PS} {r : Int32 × Int32} {n' : Nat} (h : p.2.1 = none) (hb : pJb t i p = false) (hs : kJump true (psG p 0) t (sN (psG p 0) t p.1) = some (r, n')) : psG (pJump t i (nI ((k * 6 + i) * 4)) p) 8 ((k * 6 + i) * 4 + 2) = r.1 ∧ psG (pJump t i (nI ((k * 6 + i) * 4)) p) 8 ((k * 6 + i) * 4 + 3) = r.2 ∧ ∀ x, (x < (k * 6 + i) * 4 ∨ (k * 6 + i) * 4 + 4 ≤ x) → psG (pJump t i (nI ((k * 6 + i) * 4)) p) 8 x = psG p 8 x := by
  generalize hJ : (k * 6 + i) * 4 = J
  have hJ4 : J + 4 ≤ 14640 := by omega
  unfold pJump
  rw [hb, if_neg (by decide)]
  have hg : psG (pSet 8 (nI J) (-1) (pSee t p)) 0 = psG p 0 := by rw [psG_set, up_other _ _ (by decide)]; rfl
  obtain ⟨a1, a2, a3⟩ := C_Jt t J hJ4 (p := pSet 8 (nI J) (-1) (pSee t p)) h (by rw [hg]; exact hs)
  refine ⟨a1, a2, fun x hx => ?_⟩
  rw [a3 x (by omega) (by omega), psG_set, up_same, nI_clamp (by omega), upd_other _ _ (by omega)]
  rfl
theorem C_spanJ (t k i : Nat) (hk : k < 610) (hi : i < 5) {p : PS} {s r : Int32 × Int32} {n1 n2 : Nat} (h : p.2.1 = none) (hb : pJb t i p = true) (h1 : kSpan true (psG p 0) t (sN (psG p 0) t p.1) = some (s, n1)) (h2 : kJump true (psG p 0) t n1 = some (r, n2)) : JC (psG (pJump t i (nI ((k * 6 + i) * 4)) p)) ((k * 6 + i) * 4) (s.1, s.2, r.1, r.2) ∧ ∀ x, (x < (k * 6 + i) * 4 ∨ (k * 6 + i) * 4 + 4 ≤ x) → psG (pJump t i (nI ((k * 6 + i) * 4)) p) 8 x = psG p 8 x := by
  generalize hJ : (k * 6 + i) * 4 = J
  have hJ4 : J + 4 ≤ 14640 := by omega
  unfold pJump
  rw [hb, if_pos rfl]
  have hg : psG (pSet 8 (nI J) (-1) (pSee t p)) 0 = psG p 0 := by rw [psG_set, up_other _ _ (by decide)]; rfl
  have e1 := C_Js t J hJ4 (p := pSet 8 (nI J) (-1) (pSee t p)) h (by rw [hg]; exact h1)
  have hr := RK_Js t (nI J) (p := pSet 8 (nI J) (-1) (pSee t p)) h
  rw [hg, show (pSet 8 (nI J) (-1) (pSee t p)).1 = sN (psG p 0) t p.1 from rfl, h1] at hr
  have hg2 : psG (pJs t (nI J) (pSet 8 (nI J) (-1) (pSee t p))) 0 = psG p 0 := by rw [pJs_g t _ _ (by decide)]; exact hg
  obtain ⟨a1, a2, a3⟩ := C_Jt t J hJ4 (p := pJs t (nI J) (pSet 8 (nI J) (-1) (pSee t p))) hr.1 (by rw [hg2, hr.2]; exact h2)
  have g8 : psG (pSet 8 (nI J) (-1) (pSee t p)) 8 = upd (psG p 8) J (-1) := by rw [psG_set, up_same, nI_clamp (by omega)]; rfl
  refine ⟨⟨?_, ?_, a1, a2⟩, fun x hx => ?_⟩
  · rw [a3 J (by omega) (by omega), e1, upd_other _ _ (by omega), upd_same]
  · rw [a3 (J + 1) (by omega) (by omega), e1, upd_same]
  · rw [a3 x (by omega) (by omega), e1, upd_other _ _ (by omega), upd_other _ _ (by omega), g8, upd_other _ _ (by omega)]
theorem snoc_get {α : Type} {xs : List α} {x d : α} {i : Nat} (h : (xs ++ [x])[i]? = some d) : (i < xs.length ∧ xs[i]? = some d) ∨ (i = xs.length ∧ d = x) := by
  rcases Nat.lt_trichotomy i xs.length with c | c | c
  · rw [List.getElem?_append_left c] at h
    exact Or.inl ⟨c, h⟩
  · rw [c, List.getElem?_append_right (Nat.le_refl _), Nat.sub_self] at h
    exact Or.inr ⟨c, (Option.some.inj h).symm⟩
  · rw [List.getElem?_append_right (by omega)] at h
    obtain ⟨m, hm⟩ : ∃ m, i - xs.length = m + 1 := ⟨i - xs.length - 1, by omega⟩
    rw [hm] at h
    cases h
theorem C_QL (t k : Nat) (hk : k < 610) (g0 : Nat → Int32) : ∀ (j i : Nat) (acc : List JD) (p : PS) (js : List JD × Nat) (r : (Int32 × Int32) × Nat), p.2.1 = none → psG p 0 = g0 → j + i = 6 → i ≤ 5 → acc.length = i → psG p 7 k = nI i → (∀ i' d, acc[i']? = some d → JC (psG p) ((k * 6 + i') * 4) d) → ((kJumps true g0 t (5 - i) p.1 acc).bind fun js => (kJump true g0 t js.2).bind fun r => some (js, r)) = some (js, r) → JR (psG (pQL t k j i p)) k js.1 r.1 ∧ (∀ x, x ≠ k → psG (pQL t k j i p) 7 x = psG p 7 x) ∧ (∀ x, (x < k * 24 ∨ k * 24 + 24 ≤ x) → psG (pQL t k j i p) 8 x = psG p 8 x) := by
  intro j
  induction j with
  | zero => intro i acc p js r h hg hj hi; omega
  | succ j ih =>
    intro i acc p js r h hg hj hi hal h7 hac hs
    have hkc : (nI k).toNatClampNeg = k := nI_clamp (by omega)
    have hc : pC t (pSee t p) = tp g0 t (sN g0 t p.1) := by rw [c_see', hg]
    have gs7 : psG (pQLs t k i p) 7 = upd (psG p 7) k (nI (i + 1)) := by
      unfold pQLs
      rw [psG_set, up_same, hkc, pJump_g t i _ p (by decide), h7, nI_1]
    have gs8 : psG (pQLs t k i p) 8 = psG (pJump t i (nI ((k * 6 + i) * 4)) p) 8 := by
      unfold pQLs
      rw [psG_set, up_other _ _ (by decide)]
    have lastcase : pJb t i p = false → js.1 = acc → kJump true g0 t (sN g0 t p.1) = some r → JR (psG (pQL t k (j + 1) i p)) k js.1 r.1 ∧ (∀ x, x ≠ k → psG (pQL t k (j + 1) i p) 7 x = psG p 7 x) ∧ (∀ x, (x < k * 24 ∨ k * 24 + 24 ≤ x) → psG (pQL t k (j + 1) i p) 8 x = psG p 8 x) := by
      intro hb e1 e2
      have ep : pQL t k (j + 1) i p = pQLs t k i p := by rw [pQL, if_pos h, hb, if_neg (by decide)]
      obtain ⟨a1, a2, a3⟩ := C_last t k i hk hi h hb (r := r.1) (n' := r.2) (by rw [hg]; exact e2)
      rw [ep, e1]
      refine ⟨⟨by rw [gs7, upd_same, hal], by omega, fun i' d hd => ?_, by rw [gs8, hal]; exact a1, by rw [gs8, hal]; exact a2⟩, fun x hx => by rw [gs7, upd_other _ _ hx], fun x hx => by rw [gs8]; exact a3 x (by omega)⟩
      have hi' : i' < acc.length := by
        rcases Nat.lt_or_ge i' acc.length with c | c
        · exact c
        · rw [List.getElem?_eq_none c] at hd; cases hd
      obtain ⟨b1, b2, b3, b4⟩ := hac i' d hd
      refine ⟨?_, ?_, ?_, ?_⟩
      · rw [gs8, a3 _ (by omega)]; exact b1
      · rw [gs8, a3 _ (by omega)]; exact b2
      · rw [gs8, a3 _ (by omega)]; exact b3
      · rw [gs8, a3 _ (by omega)]; exact b4
    by_cases z : dg (tp g0 t (sN g0 t p.1)) = 0
    · have hb : pJb t i p = false := by unfold pJb; rw [hc]; exact if_pos z
      have hkj : ∃ n', kJumps true g0 t (5 - i) p.1 acc = some (acc, n') ∧ kJump true g0 t n' = kJump true g0 t (sN g0 t p.1) := by
        cases 5 - i with
        | zero => exact ⟨p.1, rfl, (kJump_sN _ _ _ _).symm⟩
        | succ a => exact ⟨_, if_neg (fun q => q z), rfl⟩
      obtain ⟨n', e1, e2⟩ := hkj
      rw [e1] at hs
      have hs : ((kJump true g0 t n').bind fun r => some ((acc, n'), r)) = some (js, r) := hs
      obtain ⟨r', e3, e4⟩ := bind_ex hs
      cases e4
      exact lastcase hb rfl (by rw [← e2]; exact e3)
    · by_cases y : i < 5
      · have hb : pJb t i p = true := by unfold pJb; rw [hc, if_neg z]; exact decide_eq_true y
        have e1 : kJumps true g0 t (5 - i) p.1 acc = (kSpan true g0 t (sN g0 t p.1)).bind fun s => (kJump true g0 t s.2).bind fun r => (kTake g0 t 44 r.2).bind fun m => kJumps true g0 t (5 - (i + 1)) m (acc ++ [(s.1.1, s.1.2, r.1.1, r.1.2)]) := by
          rw [show 5 - i = (5 - (i + 1)) + 1 by omega]
          exact if_pos z
        rw [e1] at hs
        obtain ⟨js', e2, e3⟩ := bind_ex hs
        obtain ⟨s, f1, e2⟩ := bind_ex e2
        obtain ⟨r1, f2, e2⟩ := bind_ex e2
        obtain ⟨m, f3, e2⟩ := bind_ex e2
        obtain ⟨a1, a3⟩ := C_spanJ t k i hk y h hb (s := s.1) (r := r1.1) (n1 := s.2) (n2 := r1.2) (by rw [hg]; exact f1) (by rw [hg]; exact f2)
        have ep : pQL t k (j + 1) i p = pQL t k j (i + 1) (pTake t 44 (pQLs t k i p)) := by rw [pQL, if_pos h, hb, if_pos rfl]
        -- the place behind the jump
        generalize hJ : nI ((k * 6 + i) * 4) = J at a1 a3 gs8
        have hgs : psG (pSet 8 J (-1) (pSee t p)) 0 = g0 := by rw [psG_set, up_other _ _ (by decide)]; exact hg
        have hns : (pSet 8 J (-1) (pSee t p)).1 = sN g0 t p.1 := by show sN (psG p 0) t p.1 = _; rw [hg]
        have epj : pJump t i J p = pJt t J (pJs t J (pSet 8 J (-1) (pSee t p))) := by unfold pJump; rw [hb, if_pos rfl]
        have eqs : pQLs t k i p = pSet 7 (nI k) (psG (pJump t i J p) 7 (nI k).toNatClampNeg + 1) (pJump t i J p) := by unfold pQLs; rw [hJ]
        have r3 := RK_Js t J (p := pSet 8 J (-1) (pSee t p)) h
        rw [hgs, hns, f1] at r3
        have r6 := RK_Jt t J r3.1
        rw [pJs_g t J _ (by decide), hgs, r3.2, f2] at r6
        have h10 : (pQLs t k i p).2.1 = none := by rw [eqs, epj]; exact siv_set r6.1
        have h11 : (pQLs t k i p).1 = r1.2 := by rw [eqs, epj]; exact siv_1 r6.2
        have hg9 : psG (pQLs t k i p) 0 = g0 := by
          rw [eqs, psG_set, up_other _ _ (by decide), pJump_g t i J p (by decide)]; exact hg
        have h9 := RK_take t 44 h10
        rw [hg9, h11, f3] at h9
        have gt7 : psG (pTake t 44 (pQLs t k i p)) 7 = upd (psG p 7) k (nI (i + 1)) := gs7
        have gt8 : psG (pTake t 44 (pQLs t k i p)) 8 = psG (pJump t i J p) 8 := gs8
        obtain ⟨b1, b2, b3⟩ := ih (i + 1) (acc ++ [(s.1.1, s.1.2, r1.1.1, r1.1.2)]) (pTake t 44 (pQLs t k i p)) js r h9.1 hg9 (by omega) (by omega) (by rw [List.length_append, hal]; rfl) (by rw [gt7, upd_same]) (fun i' d hd => by
          rcases snoc_get hd with ⟨c1, c2⟩ | ⟨c1, c2⟩
          · obtain ⟨d1, d2, d3, d4⟩ := hac i' d c2
            refine ⟨?_, ?_, ?_, ?_⟩
            · rw [gt8, a3 _ (by omega)]; exact d1
            · rw [gt8, a3 _ (by omega)]; exact d2
            · rw [gt8, a3 _ (by omega)]; exact d3
            · rw [gt8, a3 _ (by omega)]; exact d4
          · rw [c1, c2, hal]
            obtain ⟨d1, d2, d3, d4⟩ := a1
            exact ⟨by rw [gt8]; exact d1, by rw [gt8]; exact d2, by rw [gt8]; exact d3, by rw [gt8]; exact d4⟩) (by
          rw [h9.2, show id m = m from rfl]
          show ((kJumps true g0 t (5 - (i + 1)) m (acc ++ [(s.1.1, s.1.2, r1.1.1, r1.1.2)])).bind _) = _
          rw [e2]
          exact e3)
        rw [ep]
        refine ⟨b1, fun x hx => ?_, fun x hx => ?_⟩
        · rw [b2 x hx, gt7, upd_other _ _ hx]
        · rw [b3 x hx, gt8, a3 x (by omega)]
      · have hi5 : i = 5 := by omega
        subst hi5
        have hb : pJb t 5 p = false := by unfold pJb; rw [hc, if_neg z]; rfl
        have hs : ((kJump true g0 t p.1).bind fun r => some ((acc, p.1), r)) = some (js, r) := hs
        obtain ⟨r', e3, e4⟩ := bind_ex hs
        cases e4
        exact lastcase hb rfl (by rw [kJump_sN]; exact e3)
