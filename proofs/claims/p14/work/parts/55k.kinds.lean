-- what the reference writes of a kind: terms, conditions
def TC (g : GT) (s : Nat) (d : TD) : Prop := g 12 s = d.1 ∧ g 12 (s + 1) = d.2.1 ∧ g 12 (s + 2) = d.2.2
theorem nI_s {s a : Nat} (hs : s + 3 ≤ 8400) (ha : a < 3) : (nI s + nI a : Int32).toNatClampNeg = s + a := by
  rw [nI_add]; exact nI_clamp (by omega)
theorem C_Tb (t s : Nat) (hs : s + 3 ≤ 8400) (c ab : Int32) (hab : c = 112 ↔ ab = 0) {p : PS} {d : TD} {n' : Nat} (h : p.2.1 = none) (hk : kRel true (psG p 0) t ab p.1 = some (d, n')) : d.1 = ab ∧ psG (pTb t (nI s) c p) 12 (s + 1) = d.2.1 ∧ psG (pTb t (nI s) c p) 12 (s + 2) = d.2.2 ∧ ∀ x, x ≠ s + 1 → x ≠ s + 2 → psG (pTb t (nI s) c p) 12 x = psG p 12 x := by
  have k1 : (nI s + 1 : Int32).toNatClampNeg = s + 1 := nI_s (a := 1) hs (by decide)
  have k2 : (nI s + 2 : Int32).toNatClampNeg = s + 2 := nI_s (a := 2) hs (by decide)
  unfold kRel at hk
  by_cases z : tp (psG p 0) t (sN (psG p 0) t p.1) = 60 ∨ tp (psG p 0) t (sN (psG p 0) t p.1) = 62 ∨ (tp (psG p 0) t (sN (psG p 0) t p.1) = 61 ∧ ¬ ab = 0)
  · rw [if_pos z] at hk
    obtain ⟨v, e1, e2⟩ := bind_ex hk
    cases e2
    have e : pT4 t c p = pSee t p := by
      unfold pT4
      rw [c_see']
      refine if_pos ?_
      rcases z with z | z | z
      · exact Or.inl z
      · exact Or.inr (Or.inl z)
      · exact Or.inr (Or.inr ⟨z.1, fun q => z.2 (hab.mp q)⟩)
    have hg : psG (pSet 12 (nI s + 1) (pC t (pSee t p)) (pAdv (pSee t p))) 0 = psG p 0 := by rw [psG_set, up_other _ _ (by decide)]; rfl
    have hv : pVal t 0 9999 (pSet 12 (nI s + 1) (pC t (pSee t p)) (pAdv (pSee t p))) = nI v.1 := val_num (m := v.2) h (by
      rw [hg, show (pSet 12 (nI s + 1) (pC t (pSee t p)) (pAdv (pSee t p))).1 = sN (psG p 0) t p.1 + 1 from rfl]; exact e1)
    unfold pTb
    rw [if_pos h, e, if_pos (show (pSee t p).2.1 = none from h)]
    unfold pT5
    rw [psG_set, up_same, pNum_g, psG_set, up_same, hv, k1, k2, c_see']
    refine ⟨rfl, by rw [upd_other _ _ (by omega), upd_same], by rw [upd_same], fun x x1 x2 => by rw [upd_other _ _ x2, upd_other _ _ x1]; rfl⟩
  · rw [if_neg z] at hk
    cases hk
theorem C_T (t s : Nat) (hs : s + 3 ≤ 8400) {p : PS} {d : TD} {n' : Nat} (h : p.2.1 = none) (hk : kTerm true (psG p 0) t p.1 = some (d, n')) : TC (psG (pT t (nI s) p)) s d ∧ ∀ x, (x < s ∨ s + 3 ≤ x) → psG (pT t (nI s) p) 12 x = psG p 12 x := by
  have k0 : (nI s).toNatClampNeg = s := nI_clamp (by omega)
  unfold kTerm at hk
  by_cases z : tp (psG p 0) t (sN (psG p 0) t p.1) = 112
  · rw [if_pos z] at hk
    have e : pT1 t p = pSee t p := by unfold pT1; rw [c_see']; exact if_pos (Or.inr z)
    have e2 : pT2 t (nI s) 112 (pSee t p) = pSet 12 (nI s) 0 (pAdv (pSee t p)) := if_neg (by decide +kernel)
    have ep : pT t (nI s) p = pTb t (nI s) 112 (pSet 12 (nI s) 0 (pAdv (pSee t p))) := by
      unfold pT
      rw [e, if_pos (show (pSee t p).2.1 = none from h), c_see', z, e2]
    have g0 : psG (pSet 12 (nI s) 0 (pAdv (pSee t p))) 0 = psG p 0 := by rw [psG_set, up_other _ _ (by decide)]; rfl
    have g12 : psG (pSet 12 (nI s) 0 (pAdv (pSee t p))) 12 = upd (psG p 12) s 0 := by rw [psG_set, up_same, k0]; rfl
    obtain ⟨b0, b1, b2, b3⟩ := C_Tb t s hs 112 0 ⟨fun _ => rfl, fun _ => rfl⟩ (p := pSet 12 (nI s) 0 (pAdv (pSee t p))) (siv_set h) (by rw [g0]; exact hk)
    rw [ep]
    refine ⟨⟨by rw [b3 s (by omega) (by omega), g12, upd_same, b0], b1, b2⟩, fun x hx => by rw [b3 x (by omega) (by omega), g12, upd_other _ _ (by omega)]⟩
  · rw [if_neg z] at hk
    obtain ⟨m, e1, hk1⟩ := bind_ex hk
    obtain ⟨v, e3, hk2⟩ := bind_ex hk1
    clear hk hk1
    unfold kTake at e1
    rw [sN_idem] at e1
    by_cases y : tp (psG p 0) t (sN (psG p 0) t p.1) = 113
    · rw [if_pos y] at e1
      cases e1
      have e : pT1 t p = pSee t p := by unfold pT1; rw [c_see']; exact if_pos (Or.inl y)
      have e2 : pT2 t (nI s) 113 (pSee t p) = pSet 12 (nI s) (pVal t 1 60 (pAdv (pSee t p))) (pNum t 1 60 (pAdv (pSee t p))) := if_pos rfl
      have ep : pT t (nI s) p = pTb t (nI s) 113 (pSet 12 (nI s) (pVal t 1 60 (pAdv (pSee t p))) (pNum t 1 60 (pAdv (pSee t p)))) := by
        unfold pT
        rw [e, if_pos (show (pSee t p).2.1 = none from h), c_see', y, e2]
      have h1 := RK_num t 1 60 (p := pAdv (pSee t p)) h
      rw [show psG (pAdv (pSee t p)) 0 = psG p 0 from rfl, show (pAdv (pSee t p)).1 = sN (psG p 0) t p.1 + 1 from rfl, e3] at h1
      have hv : pVal t 1 60 (pAdv (pSee t p)) = nI v.1 := val_num (m := v.2) h e3
      have hb := kNum_lo e3
      generalize hq : pSet 12 (nI s) (pVal t 1 60 (pAdv (pSee t p))) (pNum t 1 60 (pAdv (pSee t p))) = q at ep
      have q0 : psG q 0 = psG p 0 := by rw [← hq, psG_set, up_other _ _ (by decide), pNum_g]; rfl
      have q12 : psG q 12 = upd (psG p 12) s (nI v.1) := by rw [← hq, psG_set, up_same, k0, pNum_g, hv]; rfl
      have q1 : q.2.1 = none := by rw [← hq]; exact siv_set h1.1
      have q2 : q.1 = v.2 := by rw [← hq]; exact siv_1 h1.2
      obtain ⟨b0, b1, b2, b3⟩ := C_Tb t s hs 113 (nI v.1) ⟨fun q => absurd q (by decide +kernel), fun q => absurd q hb⟩ q1 (by rw [q0, q2]; exact hk2)
      rw [ep]
      refine ⟨⟨by rw [b3 s (by omega) (by omega), q12, upd_same, b0], b1, b2⟩, fun x hx => by rw [b3 x (by omega) (by omega), q12, upd_other _ _ (by omega)]⟩
    · rw [if_neg y] at e1
      cases e1
theorem nI_t {c m : Nat} : nI c + 2 + 3 * nI m = nI (c + 2 + 3 * m) := by
  rw [show (2 : Int32) = nI 2 from rfl, show (3 : Int32) = nI 3 from rfl, pk_mul, nI_add, nI_add]
theorem C_CL (t c : Nat) (hc : c + 14 ≤ 8400) (g0 : Nat → Int32) : ∀ (j m : Nat) (acc : List TD) (p : PS) (ts : List TD × Nat), p.2.1 = none → psG p 0 = g0 → j + m = 4 → m ≤ 3 → acc.length = m → (∀ i d, acc[i]? = some d → TC (psG p) (c + 2 + 3 * i) d) → ((kTerm true g0 t p.1).bind fun r => kTerms true g0 t (3 - m) r.2 (acc ++ [r.1])) = some ts → (pCL t (nI c) j m p).1 = ts.1.length ∧ ts.1.length ≤ 4 ∧ (∀ i d, ts.1[i]? = some d → TC (psG (pCL t (nI c) j m p).2) (c + 2 + 3 * i) d) ∧ ∀ x, (x < c + 2 ∨ c + 14 ≤ x) → psG (pCL t (nI c) j m p).2 12 x = psG p 12 x := by
  intro j
  induction j with
  | zero => intro m acc p ts h hg hj hm; omega
  | succ j ih =>
    intro m acc p ts h hg hj hm hal hac hs
    obtain ⟨r, e1, e2⟩ := bind_ex hs
    have h1 := RK_T t (nI c + 2 + 3 * nI m) h
    rw [hg, e1] at h1
    obtain ⟨a1, a2⟩ := C_T t (c + 2 + 3 * m) (by omega) h (d := r.1) (n' := r.2) (by rw [hg]; exact e1)
    rw [nI_t] at h1
    have e0 : pCL t (nI c) (j + 1) m p = if (pT t (nI (c + 2 + 3 * m)) p).2.1 = none ∧ m + 1 < 4 then (if pC t (pSee t (pT t (nI (c + 2 + 3 * m)) p)) = 38 then pCL t (nI c) j (m + 1) (pAdv (pSee t (pT t (nI (c + 2 + 3 * m)) p))) else (m + 1, pSee t (pT t (nI (c + 2 + 3 * m)) p))) else (m + 1, pT t (nI (c + 2 + 3 * m)) p) := by
      rw [pCL, if_pos h, nI_t]
    have hgq : psG (pT t (nI (c + 2 + 3 * m)) p) 0 = g0 := by rw [pT_g t _ p (by decide)]; exact hg
    generalize hq : pT t (nI (c + 2 + 3 * m)) p = q at *
    have h2 : q.2.1 = none := h1.1
    have h3 : q.1 = r.2 := h1.2
    have hacq : ∀ i d, (acc ++ [r.1])[i]? = some d → TC (psG q) (c + 2 + 3 * i) d := by
      intro i d hd
      rcases snoc_get hd with ⟨c1, c2⟩ | ⟨c1, c2⟩
      · obtain ⟨d1, d2, d3⟩ := hac i d c2
        exact ⟨by rw [a2 _ (by omega)]; exact d1, by rw [a2 _ (by omega)]; exact d2, by rw [a2 _ (by omega)]; exact d3⟩
      · rw [c1, c2, hal]; exact a1
    have hlen : (acc ++ [r.1]).length = m + 1 := by rw [List.length_append, hal]; rfl
    rw [e0]
    by_cases y : m + 1 < 4
    · rw [if_pos ⟨h2, y⟩, c_see', hgq, h3]
      rw [show 3 - m = (3 - (m + 1)) + 1 by omega, kTerms] at e2
      by_cases z : tp g0 t (sN g0 t r.2) = 38
      · rw [if_pos z] at e2 ⊢
        obtain ⟨b1, b2, b3, b4⟩ := ih (m + 1) (acc ++ [r.1]) (pAdv (pSee t q)) ts h2 hgq (by omega) (by omega) hlen hacq (by
          rw [show (pAdv (pSee t q)).1 = sN g0 t r.2 + 1 from by show sN (psG q 0) t q.1 + 1 = _; rw [hgq, h3]]
          exact e2)
        exact ⟨b1, b2, b3, fun x hx => by rw [b4 x hx]; exact a2 x (by omega)⟩
      · rw [if_neg z] at e2 ⊢
        cases e2
        exact ⟨hlen.symm, (by show (acc ++ [r.1]).length ≤ 4; omega), hacq, fun x hx => a2 x (by omega)⟩
    · rw [if_neg (fun z => y z.2)]
      rw [show 3 - m = 0 by omega] at e2
      cases e2
      exact ⟨hlen.symm, (by show (acc ++ [r.1]).length ≤ 4; omega), hacq, fun x hx => a2 x (by omega)⟩
def CR (g : GT) (c : Nat) (d : CD) : Prop := g 12 c = d.2 ∧ g 12 (c + 1) = nI d.1.length ∧ d.1.length ≤ 4 ∧ ∀ i e, d.1[i]? = some e → TC g (c + 2 + 3 * i) e
theorem C_CR (t c : Nat) (hc : c + 14 ≤ 8400) {p : PS} {d : CD} {n' : Nat} (h : p.2.1 = none) (hk : kCond true (psG p 0) t p.1 = some (d, n')) : CR (psG (pCR t (nI c) p)) c d ∧ ∀ x, (x < c ∨ c + 14 ≤ x) → psG (pCR t (nI c) p) 12 x = psG p 12 x := by
  have e0 : kCond true (psG p 0) t p.1 = ((kTerm true (psG p 0) t p.1).bind fun r => kTerms true (psG p 0) t 3 r.2 ([] ++ [r.1])).bind fun s => kCend true (psG p 0) t s.1 s.2 := by
    unfold kCond; rw [Option.bind_assoc]; rfl
  rw [e0] at hk
  obtain ⟨ts, e1, hk⟩ := bind_ex hk
  unfold kCend at hk
  obtain ⟨m, e2, hk⟩ := bind_ex hk
  obtain ⟨v, e3, hk⟩ := bind_ex hk
  obtain ⟨m2, e4, hk⟩ := bind_ex hk
  cases hk
  have h0 := RK_CL t (nI c) (psG p 0) 4 0 [] p h rfl rfl (by decide)
  rw [e1] at h0
  obtain ⟨a1, a2, a3, a4⟩ := C_CL t c hc (psG p 0) 4 0 [] p ts h rfl rfl (by decide) rfl (fun i d hd => by cases hd) e1
  have hg1 : psG (pCL t (nI c) 4 0 p).2 0 = psG p 0 := pCL_g t (nI c) (by decide) 4 0 p
  have k1 : (nI c + 1 : Int32).toNatClampNeg = c + 1 := by rw [nI_1]; exact nI_clamp (by omega)
  have k0 : (nI c).toNatClampNeg = c := nI_clamp (by omega)
  unfold pCR pCf pCe
  generalize pCL t (nI c) 4 0 p = r at a1 a3 a4 h0 hg1 ⊢
  have hg2 : psG (pSet 12 (nI c + 1) (nI r.1) r.2) 0 = psG p 0 := by rw [psG_set, up_other _ _ (by decide)]; exact hg1
  have h3 := RK_take t 58 (p := pSet 12 (nI c + 1) (nI r.1) r.2) (siv_set h0.1)
  rw [hg2, show (pSet 12 (nI c + 1) (nI r.1) r.2).1 = ts.2 from siv_1 h0.2, e2] at h3
  have hv : pVal t 0 9 (pTake t 58 (pSet 12 (nI c + 1) (nI r.1) r.2)) = nI v.1 := val_num (m := v.2) h3.1 (by rw [g_take, hg2, h3.2]; exact e3)
  have gF : psG (pTake t 41 (pSet 12 (nI c) (pVal t 0 9 (pTake t 58 (pSet 12 (nI c + 1) (nI r.1) r.2))) (pNum t 0 9 (pTake t 58 (pSet 12 (nI c + 1) (nI r.1) r.2))))) 12 = upd (upd (psG r.2 12) (c + 1) (nI ts.1.length)) c (nI v.1) := by
    rw [g_take, psG_set, up_same, pNum_g, g_take, psG_set, up_same, k0, k1, hv, a1]
  refine ⟨⟨by rw [gF, upd_same], by rw [gF, upd_other _ _ (by omega), upd_same], a2, fun i e hd => ?_⟩, fun x hx => ?_⟩
  · obtain ⟨d1, d2, d3⟩ := a3 i e hd
    exact ⟨by rw [gF, upd_other _ _ (by omega), upd_other _ _ (by omega)]; exact d1, by rw [gF, upd_other _ _ (by omega), upd_other _ _ (by omega)]; exact d2, by rw [gF, upd_other _ _ (by omega), upd_other _ _ (by omega)]; exact d3⟩
  · rw [gF, upd_other _ _ (by omega), upd_other _ _ (by omega)]
    exact a4 x (by omega)
theorem CR.same {g g' : GT} {c : Nat} {d : CD} (h : CR g c d) (hs : ∀ x, c ≤ x → x < c + 14 → g' 12 x = g 12 x) : CR g' c d := by
  obtain ⟨h1, h2, h3, h4⟩ := h
  refine ⟨by rw [hs _ (by omega) (by omega)]; exact h1, by rw [hs _ (by omega) (by omega)]; exact h2, h3, fun i e hd => ?_⟩
  have hi : i < d.1.length := by
    rcases Nat.lt_or_ge i d.1.length with c | c
    · exact c
    · rw [List.getElem?_eq_none c] at hd; cases hd
  obtain ⟨d1, d2, d3⟩ := h4 i e hd
  exact ⟨by rw [hs _ (by omega) (by omega)]; exact d1, by rw [hs _ (by omega) (by omega)]; exact d2, by rw [hs _ (by omega) (by omega)]; exact d3⟩
theorem C_KL (t k : Nat) (hk : k < 100) (g0 : Nat → Int32) : ∀ (j i : Nat) (acc : List CD) (p : PS) (cs : List CD × Nat), p.2.1 = none → psG p 0 = g0 → j + i = 7 → i ≤ 6 → acc.length = i → psG p 11 k = nI i → (∀ i' d, acc[i']? = some d → CR (psG p) ((k * 6 + i') * 14) d) → kConds true g0 t (6 - i) p.1 acc = some cs → psG (pKL t k j i p) 11 k = nI cs.1.length ∧ cs.1.length ≤ 6 ∧ (∀ i' d, cs.1[i']? = some d → CR (psG (pKL t k j i p)) ((k * 6 + i') * 14) d) ∧ (∀ x, x ≠ k → psG (pKL t k j i p) 11 x = psG p 11 x) ∧ ∀ x, (x < k * 84 ∨ k * 84 + 84 ≤ x) → psG (pKL t k j i p) 12 x = psG p 12 x := by
  intro j
  induction j with
  | zero => intro i acc p cs h hg hj hi; omega
  | succ j ih =>
    intro i acc p cs h hg hj hi hal h11 hac hs
    have hkc : (nI k).toNatClampNeg = k := nI_clamp (by omega)
    rw [pKL]
    by_cases y : i < 6
    · rw [if_pos ⟨h, y⟩, c_see', hg]
      rw [show 6 - i = (6 - (i + 1)) + 1 by omega, kConds] at hs
      by_cases z : tp g0 t (sN g0 t p.1) = 40
      · rw [if_pos z] at hs ⊢
        obtain ⟨r, e1, e2⟩ := bind_ex hs
        have hA0 : psG (pAdv (pSee t p)) 0 = g0 := hg
        have hA1 : (pAdv (pSee t p)).1 = sN g0 t p.1 + 1 := by show sN (psG p 0) t p.1 + 1 = _; rw [hg]
        have h1 := RK_CR t (nI ((k * 6 + i) * 14)) (p := pAdv (pSee t p)) h
        rw [hA0, hA1, e1] at h1
        obtain ⟨a1, a2⟩ := C_CR t ((k * 6 + i) * 14) (by omega) (p := pAdv (pSee t p)) (d := r.1) (n' := r.2) h (by rw [hA0, hA1]; exact e1)
        have g11 : psG (pKs t k i (pAdv (pSee t p))) 11 = upd (psG p 11) k (nI (i + 1)) := by
          unfold pKs
          rw [psG_set, up_same, hkc, pCR_g t _ _ (by decide), g_adv, g_see, h11, nI_1]
        have g12 : psG (pKs t k i (pAdv (pSee t p))) 12 = psG (pCR t (nI ((k * 6 + i) * 14)) (pAdv (pSee t p))) 12 := by
          unfold pKs
          rw [psG_set, up_other _ _ (by decide)]
        have gz : psG (pKs t k i (pAdv (pSee t p))) 0 = g0 := by
          unfold pKs
          rw [psG_set, up_other _ _ (by decide), pCR_g t _ _ (by decide)]; exact hg
        obtain ⟨b1, b2, b3, b4, b5⟩ := ih (i + 1) (acc ++ [r.1]) (pKs t k i (pAdv (pSee t p))) cs (siv_set h1.1) gz (by omega) (by omega) (by rw [List.length_append, hal]; rfl) (by rw [g11, upd_same]) (fun i' d hd => by
          rcases snoc_get hd with ⟨c1, c2⟩ | ⟨c1, c2⟩
          · exact (hac i' d c2).same (fun x x1 x2 => by rw [g12, a2 x (by omega)]; rfl)
          · rw [c1, c2, hal]
            exact a1.same (fun x _ _ => by rw [g12])) (by
          rw [show (pKs t k i (pAdv (pSee t p))).1 = r.2 from siv_1 h1.2]
          exact e2)
        refine ⟨b1, b2, b3, fun x hx => by rw [b4 x hx, g11, upd_other _ _ hx], fun x hx => ?_⟩
        rw [b5 x hx, g12, a2 x (by omega)]; rfl
      · rw [if_neg z] at hs ⊢
        cases hs
        exact ⟨by rw [hal]; exact h11, (by show acc.length ≤ 6; omega), hac, fun _ _ => rfl, fun _ _ => rfl⟩
    · rw [if_neg (fun z => y z.2)]
      rw [show 6 - i = 0 by omega] at hs
      cases hs
      exact ⟨by rw [hal]; exact h11, (by show acc.length ≤ 6; omega), hac, fun _ _ => rfl, fun _ _ => rfl⟩
