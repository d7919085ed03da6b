-- the reference's read: questions of the editions
theorem cpQ_1 (x1 x2 : Int32) (q : Nat) (g : GT) : cpQ x1 x2 q g 1 = upd (g 1) ((x2 * 61) + nI q : Int32).toNatClampNeg (vp_nar .boolean (g 1 ((x1 * 61) + nI q : Int32).toNatClampNeg)) := by
  unfold cpQ
  rw [cnt_frame (body := cpD _ _) (a := 1) (fun i g => up_other _ _ (by decide)), cnt_frame (body := cpC _ _) (a := 1) (fun i g => up_other _ _ (by decide)), cnt_frame (body := cpB _ _) (a := 1) (fun i g => up_other _ _ (by decide))]
  unfold cpA
  rw [up_other _ _ (by decide), up_other _ _ (by decide), up_other _ _ (by decide), up_other _ _ (by decide), up_same]
theorem nI_61 {a m : Nat} (ha : a ≤ 9) (hm : m < 61) : ((nI a * 61) + nI m : Int32).toNatClampNeg = a * 61 + m := by
  rw [show (61 : Int32) = nI 61 from rfl, pk_mul, nI_add]
  exact nI_clamp (by omega)
theorem cp1 {a b : Nat} (ha : a ≤ 9) (hb : b ≤ 9) : ∀ (j i : Nat) (g : GT), j + i = 61 → ∀ x, cnt (cpQ (nI a) (nI b)) j i g 1 x = if b * 61 + i ≤ x ∧ x < b * 61 + 61 then vp_nar .boolean (g 1 (a * 61 + (x - b * 61))) else g 1 x := by
  intro j
  induction j with
  | zero => intro i g h x; rw [if_neg (by omega)]; rfl
  | succ j ih =>
    intro i g h x
    show cnt (cpQ (nI a) (nI b)) j (i + 1) (cpQ (nI a) (nI b) i g) 1 x = _
    rw [ih (i + 1) _ (by omega), cpQ_1, nI_61 hb (by omega), nI_61 ha (by omega)]
    by_cases c1 : x = b * 61 + i
    · rw [if_neg (by omega), if_pos (by omega), c1, upd_same, show a * 61 + (b * 61 + i - b * 61) = a * 61 + i by omega]
    · by_cases c2 : b * 61 + (i + 1) ≤ x ∧ x < b * 61 + 61
      · rw [if_pos c2, if_pos (by omega), upd_other _ _ (by omega)]
      · rw [if_neg c2, if_neg (by omega), upd_other _ _ c1]
theorem rdG_1 {c e : Nat} (hc : c ≤ e) (he : e ≤ 8) (g : GT) (x : Nat) : rdG c e g 1 x = if (e + 1) * 61 ≤ x ∧ x < (e + 1) * 61 + 61 then vp_nar .boolean (g 1 (c * 61 + (x - (e + 1) * 61))) else g 1 x := by
  rw [rdG_o c e g (by decide) (by decide)]
  unfold cp
  rw [cnt_frame (body := cpK _ _) (a := 1) (fun i g => cpK_o _ _ i g (by decide)), cp1 (by omega) (by omega) 61 0 _ rfl x, Nat.add_zero]
def F1 (into : Nat) (g g' : GT) : Prop := ∀ x, ¬ (into * 61 ≤ x ∧ x < into * 61 + 61) → g' 1 x = g 1 x
theorem F1_Q {t into : Nat} (hi : into ≤ 9) (p : PS) : F1 into (psG p) (psG (pQ t into p)) := by
  have h1 : psG (pQ1 t 1 60 13 p) = psG p := by
    unfold pQ1
    split
    · rw [g_fail, pNum_g]
    · exact pNum_g
  obtain ⟨m, em, hm1, hm2⟩ := pVal_n (t := t) (A := 1) (B := 60) (p := p) (by decide) (by decide)
  have em : pVal t 1 60 p = nI m := em
  unfold pQ
  split
  · rw [em, nI_clamp (show m < 2 ^ 31 by omega)]
    intro x hx
    rw [g_Qz1, nI_clamp (show into * 61 + m < 2 ^ 31 by omega), upd_other _ _ (by omega), h1]
  · rw [h1]; exact fun _ _ => rfl
theorem F1_K (t into : Nat) (p : PS) : F1 into (psG p) (psG (pK t into p)) := by
  have h1 : psG (pQ1 t 1 9 14 p) = psG p := by
    unfold pQ1
    split
    · rw [g_fail, pNum_g]
    · exact pNum_g
  unfold pK
  split
  · intro x _
    rw [g_Kz _ _ _ _ (by decide) (by decide) (by decide) (by decide) (by decide), h1]
  · rw [h1]; exact fun _ _ => rfl
theorem F1_RL {t into : Nat} (hi : into ≤ 9) : ∀ (j : Nat) (p : PS), F1 into (psG p) (psG (pRL t into j p)) := by
  intro j
  induction j with
  | zero => intro p x _; rfl
  | succ j ih =>
    intro p
    unfold pRL
    split
    · split
      · exact fun _ _ => rfl
      · intro x hx
        rw [ih _ x hx]
        have h2 : psG (pAdv (pR2 t (pSee t p))) = psG p := by
          rw [g_adv]
          unfold pR2
          split
          · rfl
          · rfl
        unfold pR3
        split
        · split
          · have := F1_Q (t := t) hi (pAdv (pR2 t (pSee t p))) x hx
            rw [h2] at this
            exact this
          · have := F1_K t into (pAdv (pR2 t (pSee t p))) x hx
            rw [h2] at this
            exact this
        · rw [h2]
    · exact fun _ _ => rfl
theorem rd_frame1 {t c e : Nat} {d : Int32} {g : GT} (hc : c ≤ e) (he : e ≤ 8) : ∀ j q, j ≤ e → q < 61 → psG (rdP t c e d g) 1 (j * 61 + q) = g 1 (j * 61 + q) := by
  have h := F1_RL (t := t) (into := e + 1) (by omega) 402 (0, none, d, rdG c e g)
  unfold rdP
  generalize pRL t (e + 1) 402 (0, none, d, rdG c e g) = PP at h ⊢
  have e9 : ∀ G : GT, psG ((0, none, d, G) : PS) = G := fun _ => rfl
  rw [e9] at h
  intro j q hj hq
  rw [h (j * 61 + q) (by omega), rdG_1 hc he, if_neg (by omega)]
theorem rd_tape1 {t c e : Nat} {d : Int32} {g : GT} (hc : c ≤ e) (he : e ≤ 8) (ht : t ≤ 400) (hb : ∀ n, ¬ g 0 n < 0) : ∀ R, kTape false (g 0) t = some R → ∀ q, q < 61 → psG (rdP t c e d g) 1 ((e + 1) * 61 + q) = if (R.1 q).isSome = true then 1 else vp_nar .boolean (g 1 (c * 61 + q)) := by
  have g0 := rdG_0 c e g
  have h := RL t (e + 1) (rdG c e g) ht (by omega) (by rw [g0]; exact hb) 400 402 (fun _ => none, fun _ => none) (0, none, d, rdG c e g) rfl ⟨fun p q => (nomatch q), Nat.zero_le _, fun _ => Nat.zero_le _⟩ (by show t ≤ 0 + 400; omega) (by decide) (rdG_RG g)
  rw [← kTape_st]
  rw [g0] at h
  unfold rdP
  generalize hPP : pRL t (e + 1) 402 (0, none, d, rdG c e g) = PP at h ⊢
  intro R e1 q hq
  obtain ⟨-, h2⟩ := h.1 R e1
  rcases h2.2.1 q hq with ⟨q1, q2, q3⟩ | ⟨d9, q1, q2, q3⟩
  · rw [q3, q1, if_neg (fun z => (nomatch z)), rdG_1 hc he, if_pos (by omega), show c * 61 + ((e + 1) * 61 + q - (e + 1) * 61) = c * 61 + q by omega]
  · rw [q3, q1, if_pos (show (some d9 : Option QD).isSome = true from rfl)]
theorem qL_sz {α : Type} {g1 : Nat → Int32} {c : Nat} {f : Nat → Option α} (hc : c ≤ 9) (h : ∀ j, 1 ≤ j → j < 61 → g1 (c * 61 + j) = if (f j).isSome = true then 1 else 0) : ∀ (k q : Nat) (s : Int32), 1 ≤ q → q + k ≤ 61 → qL g1 (nI c) k q s = szL f k q s := by
  intro k
  induction k with
  | zero => intro q s h1 h2; rfl
  | succ k ih =>
    intro q s h1 h2
    show qL g1 (nI c) k (q + 1) (if g1 ((nI c * 61) + nI q : Int32).toNatClampNeg = 0 then s else s + 1) = szL f k (q + 1) (if (f q).isNone = true then s else s + 1)
    rw [nI_61 hc (by omega), h q h1 (by omega)]
    cases e : f q with
    | none =>
      have : (if ((if (none : Option α).isSome = true then (1 : Int32) else 0)) = 0 then s else s + 1) = s := by rw [if_neg (show ¬ (none : Option α).isSome = true from fun z => (nomatch z))]; exact if_pos rfl
      rw [this]
      exact ih (q + 1) _ (by omega) (by omega)
    | some a =>
      have : (if ((if (some a : Option α).isSome = true then (1 : Int32) else 0)) = 0 then s else s + 1) = s + 1 := by rw [if_pos (show (some a : Option α).isSome = true from rfl)]; exact if_neg (by decide)
      rw [this]
      exact ih (q + 1) _ (by omega) (by omega)
