-- what the reference writes of a question: its words
theorem wL_ge (g0 : Nat → Int32) (t : Nat) : ∀ (k m i : Nat), i ≤ wL g0 t k m i ∧ wL g0 t k m i ≤ i + k := by
  intro k
  induction k with
  | zero => intro m i; exact ⟨Nat.le_refl _, Nat.le_refl _⟩
  | succ k ih =>
    intro m i
    unfold wL
    split
    · have := ih m (i + 1); omega
    · omega
theorem kWend_ex {g0 : Nat → Int32} {t s i : Nat} {w : WD} {n' : Nat} (h : kWend g0 t s i = some (w, n')) : w.1 = i ∧ (∀ j, w.2 j = g0 (s + j)) ∧ 1 ≤ i := by
  unfold kWend at h
  split at h
  · cases h
  · rename_i z
    cases h
    exact ⟨rfl, fun _ => rfl, by omega⟩
theorem nI_w {k m : Nat} (hk : k < 1220) (hm : m ≤ 12) : (nI k * 12 + nI m : Int32).toNatClampNeg = k * 12 + m := by
  rw [show (12 : Int32) = nI 12 from rfl, pk_mul, nI_add]
  exact nI_clamp (by omega)
theorem C_WL (t s k : Nat) (hk : k < 1220) (g0 : Nat → Int32) : ∀ (j m : Nat) (p : PS) (w : WD) (n' : Nat), p.2.1 = none → psG p 0 = g0 → p.1 = s + m → j + m = 13 → m ≤ 12 → kWend g0 t s (wL g0 t (12 - m) s m) = some (w, n') → psG (pWL t (nI k) j m p) 5 = upd (psG p 5) k (nI w.1) ∧ (∀ x, (x < k * 12 + m ∨ k * 12 + w.1 ≤ x) → psG (pWL t (nI k) j m p) 6 x = psG p 6 x) ∧ ∀ i, m ≤ i → i < w.1 → psG (pWL t (nI k) j m p) 6 (k * 12 + i) = w.2 i := by
  intro j
  induction j with
  | zero => intro m p w n' h hg hn hj hm; omega
  | succ j ih =>
    intro m p w n' h hg hn hj hm hw
    have hc : pC t p = tp g0 t (s + m) := by show tp (psG p 0) t p.1 = _; rw [hg, hn]
    have hkc : (nI k).toNatClampNeg = k := nI_clamp (by omega)
    obtain ⟨w1, w2, w3⟩ := kWend_ex hw
    by_cases z : tp g0 t (s + m) = 34
    · have e1 : pWL t (nI k) (j + 1) m p = pWE (nI k) m p := by unfold pWL; rw [hc]; exact if_neg (fun q => q.2 z)
      have hlt : s + m < t := tp_lt (g0 := g0) (by rw [z]; decide +kernel)
      have e34 : g0 (s + m) = 34 := by rw [← z]; exact (if_pos hlt).symm
      have hwm : wL g0 t (12 - m) s m = m := by
        cases 12 - m with
        | zero => rfl
        | succ i => exact if_neg (fun q => q.2 (by rw [e34]; exact wbV_34))
      rw [hwm] at w1 w3
      have ep : pWE (nI k) m p = pSet 5 (nI k) (nI m) (pAdv p) := by unfold pWE; simp only [if_neg (show ¬ m = 0 by omega), if_pos h]
      rw [e1, ep, psG_set, w1]
      refine ⟨by rw [up_same, hkc]; rfl, fun x _ => by rw [up_other _ _ (by decide)]; rfl, fun i h1 h2 => by omega⟩
    · by_cases y : inV (tp g0 t (s + m)) 32 126 = 0 ∨ m = 12
      · exfalso
        have hwm : wL g0 t (12 - m) s m = m := by
          rcases y with y | y
          · cases 12 - m with
            | zero => rfl
            | succ i =>
              refine if_neg (fun q => q.2 ?_)
              rw [show tp g0 t (s + m) = g0 (s + m) from if_pos q.1] at y z
              exact (if_neg z).trans y
          · subst y; rfl
        rw [hwm] at hw
        unfold kWend at hw
        split at hw
        · cases hw
        · rename_i q
          have q1 : s + m < t := Classical.byContradiction (fun a => q (Or.inr (Or.inl a)))
          have q2 : g0 (s + m) = 34 := Classical.byContradiction (fun a => q (Or.inr (Or.inr a)))
          exact z (by rw [← q2]; exact if_pos q1)
      · have y1 : ¬ inV (tp g0 t (s + m)) 32 126 = 0 := fun q => y (Or.inl q)
        have y2 : ¬ m = 12 := fun q => y (Or.inr q)
        obtain ⟨hlt, et⟩ := tp_in y1
        have hwm : wL g0 t (12 - m) s m = wL g0 t (12 - (m + 1)) s (m + 1) := by
          rw [show 12 - m = (12 - (m + 1)) + 1 by omega]
          refine if_pos ⟨hlt, fun q => ?_⟩
          rw [et] at y1 z
          exact y1 ((if_neg z).symm.trans q)
        have hge := (wL_ge g0 t (12 - (m + 1)) s (m + 1)).1
        rw [hwm] at hw w1
        have e1 : pWL t (nI k) (j + 1) m p = pWL t (nI k) j (m + 1) (pAdv (pSet 6 (nI k * 12 + nI m) (tp g0 t (s + m)) p)) := by rw [pWL, hc, if_pos ⟨h, z⟩, if_neg y]
        have hg1 : psG (pAdv (pSet 6 (nI k * 12 + nI m) (tp g0 t (s + m)) p)) = va_up (psG p) 6 (upd (psG p 6) (k * 12 + m) (tp g0 t (s + m))) := by rw [g_adv, psG_set, nI_w hk hm]
        obtain ⟨i1, i2, i3⟩ := ih (m + 1) (pAdv (pSet 6 (nI k * 12 + nI m) (tp g0 t (s + m)) p)) w n' h (by rw [hg1, up_other _ _ (by decide)]; exact hg) (by show p.1 + 1 = _; omega) (by omega) (by omega) hw
        rw [e1]
        rw [hg1] at i1 i2
        refine ⟨by rw [i1, up_other _ _ (by decide)], fun x hx => ?_, fun i h1 h2 => ?_⟩
        · rw [i2 x (by omega), up_same, upd_other _ _ (by omega)]
        · by_cases c : i = m
          · rw [c, i2 (k * 12 + m) (by omega), up_same, upd_same, et, w2]
          · exact i3 i (by omega) h2
theorem C_Words (t k : Nat) (hk : k < 1220) {p : PS} {w : WD} {n' : Nat} (h : p.2.1 = none) (hw : kWords (psG p 0) t p.1 = some (w, n')) : psG (pWords t (nI k) p) 5 = upd (psG p 5) k (nI w.1) ∧ (∀ x, (x < k * 12 ∨ k * 12 + 12 ≤ x) → psG (pWords t (nI k) p) 6 x = psG p 6 x) ∧ (∀ i, i < w.1 → psG (pWords t (nI k) p) 6 (k * 12 + i) = w.2 i) ∧ 1 ≤ w.1 ∧ w.1 ≤ 12 := by
  unfold kWords at hw
  obtain ⟨m, e1, e2⟩ := bind_ex hw
  have h1 := RK_take t 34 h
  rw [e1] at h1
  obtain ⟨w1, w2, w3⟩ := kWend_ex e2
  have hge := wL_ge (psG p 0) t 12 m 0
  obtain ⟨c1, c2, c3⟩ := C_WL t m k hk (psG p 0) 13 0 (pTake t 34 p) w n' h1.1 rfl h1.2 rfl (by decide) e2
  unfold pWords
  refine ⟨c1, fun x hx => c2 x (by omega), fun i hi => c3 i (Nat.zero_le _) hi, by omega, by omega⟩
def WR (g : GT) (k : Nat) (w : WD) : Prop := g 5 k = nI w.1 ∧ 1 ≤ w.1 ∧ w.1 ≤ 12 ∧ ∀ j, j < w.1 → g 6 (k * 12 + j) = w.2 j
def WB (g : GT) (k : Nat) (wa wb : WD) : Prop := (g 5 k = 0 ∧ wb = wa) ∨ WR g k wb
theorem nI_d1 {k : Nat} (hk : k < 610) : (2 * nI k + 1 : Int32).toNatClampNeg = k * 2 + 1 := by
  rw [show (2 : Int32) = nI 2 from rfl, pk_mul, nI_1, nI_clamp (by omega)]
  omega
theorem C_Q5 (t k : Nat) (hk : k < 610) {p : PS} {wa wb : WD} {n1 n2 : Nat} (h : p.2.1 = none) (h1 : kWords (psG p 0) t p.1 = some (wa, n1)) (h2 : kWb (psG p 0) t wa n1 = some (wb, n2)) : WR (psG (pQ5 t (nI k) (k * 2) p)) (k * 2) wa ∧ WB (psG (pQ5 t (nI k) (k * 2) p)) (k * 2 + 1) wa wb ∧ (∀ x, x ≠ k * 2 → x ≠ k * 2 + 1 → psG (pQ5 t (nI k) (k * 2) p) 5 x = psG p 5 x) ∧ (∀ x, (x < k * 24 ∨ k * 24 + 24 ≤ x) → psG (pQ5 t (nI k) (k * 2) p) 6 x = psG p 6 x) := by
  obtain ⟨a1, a2, a3, a4, a5⟩ := C_Words t (k * 2) (by omega) h h1
  have hr := RK_Words t (nI (k * 2)) h
  rw [h1] at hr
  unfold pQ5
  dsimp only
  generalize hp : pSet 5 (2 * nI k + 1) 0 (pWords t (nI (k * 2)) p) = p11
  have g5 : psG p11 5 = upd (upd (psG p 5) (k * 2) (nI wa.1)) (k * 2 + 1) 0 := by rw [← hp, psG_set, up_same, nI_d1 hk, a1]
  have g6 : psG p11 6 = psG (pWords t (nI (k * 2)) p) 6 := by rw [← hp, psG_set, up_other _ _ (by decide)]
  have g0 : psG p11 0 = psG p 0 := by rw [← hp, psG_set, up_other _ _ (by decide), g_Words _ _ _ (by decide) (by decide)]
  have q1 : p11.2.1 = none := by rw [← hp]; exact hr.1
  have q2 : p11.1 = n1 := by rw [← hp]; exact hr.2
  rw [if_pos q1, c_see', g0, q2]
  unfold kWb at h2
  by_cases z : tp (psG p 0) t (sN (psG p 0) t n1) = 34
  · rw [if_pos z] at h2 ⊢
    have e1 : (pSee t p11).1 = sN (psG p 0) t n1 := by show sN (psG p11 0) t p11.1 = _; rw [g0, q2]
    obtain ⟨b1, b2, b3, b4, b5⟩ := C_Words t (k * 2 + 1) (by omega) (p := pSee t p11) q1 (by rw [g_see, g0, e1]; exact h2)
    rw [g_see] at b1 b2
    refine ⟨⟨?_, a4, a5, fun j hj => ?_⟩, Or.inr ⟨?_, b4, b5, b3⟩, fun x x1 x2 => ?_, fun x hx => ?_⟩
    · rw [b1, g5, upd_other _ _ (by omega), upd_other _ _ (by omega), upd_same]
    · rw [b2 _ (by omega), g6]; exact a3 j hj
    · rw [b1, upd_same]
    · rw [b1, g5, upd_other _ _ x2, upd_other _ _ x2, upd_other _ _ x1]
    · rw [b2 x (by omega), g6]; exact a2 x (by omega)
  · rw [if_neg z] at h2 ⊢
    cases h2
    rw [g_see]
    refine ⟨⟨?_, a4, a5, fun j hj => ?_⟩, Or.inl ⟨?_, rfl⟩, fun x x1 x2 => ?_, fun x hx => ?_⟩
    · rw [g5, upd_other _ _ (by omega), upd_same]
    · rw [g6]; exact a3 j hj
    · rw [g5, upd_same]
    · rw [g5, upd_other _ _ x2, upd_other _ _ x1]
    · rw [g6]; exact a2 x (by omega)
