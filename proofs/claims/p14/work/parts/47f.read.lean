-- the reference's read: kinds of the editions
theorem cnt_frame {body : Nat → GT → GT} {a : Nat} (h : ∀ i g, body i g a = g a) : ∀ (j i : Nat) (g : GT), cnt body j i g a = g a := by
  intro j
  induction j with
  | zero => intro i g; rfl
  | succ j ih => intro i g; show cnt body j (i + 1) (body i g) a = g a; rw [ih, h]
theorem cpQ_o (x1 x2 : Int32) (q : Nat) (g : GT) {a : Nat} (h : a = 0 ∨ 9 ≤ a) : cpQ x1 x2 q g a = g a := by
  have hA : cpA x1 x2 q g a = g a := by
    unfold cpA
    rw [up_other _ _ (by omega), up_other _ _ (by omega), up_other _ _ (by omega), up_other _ _ (by omega), up_other _ _ (by omega)]
  unfold cpQ
  rw [cnt_frame (body := cpD _ _) (a := a) (fun i g => up_other _ _ (by omega)), cnt_frame (body := cpC _ _) (a := a) (fun i g => up_other _ _ (by omega)), cnt_frame (body := cpB _ _) (a := a) (fun i g => up_other _ _ (by omega)), hA]
theorem cpK_o (x1 x2 : Int32) (m : Nat) (g : GT) {a : Nat} (h : a < 9 ∨ 12 < a) : cpK x1 x2 m g a = g a := by
  unfold cpK
  rw [cnt_frame (body := cpF _ _) (a := a) (fun i g => up_other _ _ (by omega))]
  unfold cpE
  rw [up_other _ _ (by omega), up_other _ _ (by omega), up_other _ _ (by omega)]
theorem cpK_9 (x1 x2 : Int32) (m : Nat) (g : GT) : cpK x1 x2 m g 9 = upd (g 9) ((x2 * 10) + nI m : Int32).toNatClampNeg (g 9 ((x1 * 10) + nI m : Int32).toNatClampNeg) := by
  unfold cpK
  rw [cnt_frame (body := cpF _ _) (a := 9) (fun i g => up_other _ _ (by decide))]
  unfold cpE
  rw [up_other _ _ (by decide), up_other _ _ (by decide), up_same]
theorem nI_10 {a m : Nat} (ha : a ≤ 9) (hm : m < 10) : ((nI a * 10) + nI m : Int32).toNatClampNeg = a * 10 + m := by
  rw [show (10 : Int32) = nI 10 from rfl, pk_mul, nI_add]
  exact nI_clamp (by omega)
theorem cp9 {a b : Nat} (ha : a ≤ 9) (hb : b ≤ 9) (hab : a ≠ b) : ∀ (j i : Nat) (g : GT), j + i = 10 → ∀ x, cnt (cpK (nI a) (nI b)) j i g 9 x = if b * 10 + i ≤ x ∧ x < b * 10 + 10 then g 9 (a * 10 + (x - b * 10)) else g 9 x := by
  intro j
  induction j with
  | zero => intro i g h x; rw [if_neg (by omega)]; rfl
  | succ j ih =>
    intro i g h x
    show cnt (cpK (nI a) (nI b)) j (i + 1) (cpK (nI a) (nI b) i g) 9 x = _
    rw [ih (i + 1) _ (by omega), cpK_9, nI_10 hb (by omega), nI_10 ha (by omega)]
    by_cases c1 : x = b * 10 + i
    · rw [if_neg (by omega), if_pos (by omega), c1, upd_same, show a * 10 + (b * 10 + i - b * 10) = a * 10 + i by omega]
    · by_cases c2 : b * 10 + (i + 1) ≤ x ∧ x < b * 10 + 10
      · rw [if_pos c2, if_pos (by omega), upd_other _ _ (by omega)]
      · rw [if_neg c2, if_neg (by omega), upd_other _ _ c1]
theorem vnar0 : vp_nar .boolean 0 = 0 := by decide +kernel
theorem rs13_0 : ∀ (j i : Nat) (g : GT), i + j ≤ 61 → ∀ q, (i ≤ q ∧ q < i + j → cnt rs13 j i g 13 q = 0) ∧ (¬ (i ≤ q ∧ q < i + j) → cnt rs13 j i g 13 q = g 13 q) := by
  intro j
  induction j with
  | zero => intro i g h q; exact ⟨fun z => by omega, fun _ => rfl⟩
  | succ j ih =>
    intro i g h q
    have e : rs13 i g 13 q = if q = i then 0 else g 13 q := by
      unfold rs13
      rw [up_same, nI_clamp (by omega), vnar0]
      by_cases c : q = i
      · rw [if_pos c, c, upd_same]
      · rw [if_neg c, upd_other _ _ c]
    obtain ⟨h1, h2⟩ := ih (i + 1) (rs13 i g) (by omega) q
    refine ⟨fun z => ?_, fun z => ?_⟩
    · show cnt rs13 j (i + 1) (rs13 i g) 13 q = 0
      by_cases c : i + 1 ≤ q
      · exact h1 ⟨c, by omega⟩
      · rw [h2 (by omega), e, if_pos (by omega)]
    · show cnt rs13 j (i + 1) (rs13 i g) 13 q = _
      rw [h2 (by omega), e, if_neg (by omega)]
theorem rs14_0 : ∀ (j i : Nat) (g : GT), i + j ≤ 10 → ∀ q, (i ≤ q ∧ q < i + j → cnt rs14 j i g 14 q = 0) ∧ (¬ (i ≤ q ∧ q < i + j) → cnt rs14 j i g 14 q = g 14 q) := by
  intro j
  induction j with
  | zero => intro i g h q; exact ⟨fun z => by omega, fun _ => rfl⟩
  | succ j ih =>
    intro i g h q
    have e : rs14 i g 14 q = if q = i then 0 else g 14 q := by
      unfold rs14
      rw [up_same, nI_clamp (by omega), vnar0]
      by_cases c : q = i
      · rw [if_pos c, c, upd_same]
      · rw [if_neg c, upd_other _ _ c]
    obtain ⟨h1, h2⟩ := ih (i + 1) (rs14 i g) (by omega) q
    refine ⟨fun z => ?_, fun z => ?_⟩
    · show cnt rs14 j (i + 1) (rs14 i g) 14 q = 0
      by_cases c : i + 1 ≤ q
      · exact h1 ⟨c, by omega⟩
      · rw [h2 (by omega), e, if_pos (by omega)]
    · show cnt rs14 j (i + 1) (rs14 i g) 14 q = _
      rw [h2 (by omega), e, if_neg (by omega)]
theorem rdG_o (c e : Nat) (g : GT) {a : Nat} (h13 : a ≠ 13) (h14 : a ≠ 14) : rdG c e g a = cp (nI c) (nI (e + 1)) g a := by
  unfold rdG
  rw [cnt_frame (body := rs14) (a := a) (fun i g => up_other _ _ h14), cnt_frame (body := rs13) (a := a) (fun i g => up_other _ _ h13)]
theorem rdG_0 (c e : Nat) (g : GT) : rdG c e g 0 = g 0 := by
  rw [rdG_o c e g (by decide) (by decide)]
  unfold cp
  rw [cnt_frame (fun i g => cpK_o _ _ i g (by decide)), cnt_frame (fun i g => cpQ_o _ _ i g (by decide))]
theorem rdG_9 {c e : Nat} (hc : c ≤ e) (he : e ≤ 8) (g : GT) (x : Nat) : rdG c e g 9 x = if (e + 1) * 10 ≤ x ∧ x < (e + 1) * 10 + 10 then g 9 (c * 10 + (x - (e + 1) * 10)) else g 9 x := by
  rw [rdG_o c e g (by decide) (by decide)]
  unfold cp
  have h0 : cnt (cpQ (nI c) (nI (e + 1))) 61 0 g 9 = g 9 := cnt_frame (fun i g => cpQ_o _ _ i g (by decide)) 61 0 g
  rw [cp9 (by omega) (by omega) (by omega) 10 0 _ rfl x, h0, Nat.add_zero]
theorem rdG_RG {c e : Nat} (g : GT) : RG (e + 1) (fun _ => none, fun _ => none) (rdG c e g) (rdG c e g) := by
  refine ⟨rfl, fun q hq => Or.inl ⟨rfl, ?_, rfl⟩, fun k hk => Or.inl ⟨rfl, ?_, rfl⟩, fun x _ => rfl, fun x _ => rfl⟩
  · unfold rdG
    rw [cnt_frame (body := rs14) (a := 13) (fun i g => up_other _ _ (by decide))]
    exact (rs13_0 61 0 _ (by decide) q).1 ⟨Nat.zero_le _, by omega⟩
  · unfold rdG
    exact (rs14_0 10 0 _ (by decide) k).1 ⟨Nat.zero_le _, by omega⟩
-- what a text leaves as it was, right or wrong
def F9 (into : Nat) (g g' : GT) : Prop := g' 0 = g 0 ∧ ∀ x, ¬ (into * 10 ≤ x ∧ x < into * 10 + 10) → g' 9 x = g 9 x
theorem F9.rf {into : Nat} {g : GT} : F9 into g g := ⟨rfl, fun _ _ => rfl⟩
theorem F9.tr {into : Nat} {g g' g'' : GT} (h1 : F9 into g g') (h2 : F9 into g' g'') : F9 into g g'' := ⟨h2.1.trans h1.1, fun x hx => (h2.2 x hx).trans (h1.2 x hx)⟩
theorem F9_Q (t into : Nat) (p : PS) : F9 into (psG p) (psG (pQ t into p)) := by
  have h1 : psG (pQ1 t 1 60 13 p) = psG p := by
    unfold pQ1
    split
    · rw [g_fail, pNum_g]
    · exact pNum_g
  unfold pQ
  split
  · exact ⟨by rw [g_Qz _ _ _ _ (by decide) (by decide), h1], fun x _ => by rw [g_Qz _ _ _ _ (by decide) (by decide), h1]⟩
  · rw [h1]; exact F9.rf
theorem F9_K {t into : Nat} (hi : into ≤ 9) (p : PS) : F9 into (psG p) (psG (pK t into p)) := by
  have h1 : psG (pQ1 t 1 9 14 p) = psG p := by
    unfold pQ1
    split
    · rw [g_fail, pNum_g]
    · exact pNum_g
  obtain ⟨m, em, hm1, hm2⟩ := pVal_n (t := t) (A := 1) (B := 9) (p := p) (by decide) (by decide)
  have em : pVal t 1 9 p = nI m := em
  unfold pK
  split
  · rw [em, nI_clamp (show m < 2 ^ 31 by omega)]
    refine ⟨by rw [g_Kz _ _ _ _ (by decide) (by decide) (by decide) (by decide) (by decide), h1], fun x hx => ?_⟩
    rw [g_Kz9, nI_clamp (show into * 10 + m < 2 ^ 31 by omega), upd_other _ _ (by omega), h1]
  · rw [h1]; exact F9.rf
theorem F9_RL {t into : Nat} (hi : into ≤ 9) : ∀ (j : Nat) (p : PS), F9 into (psG p) (psG (pRL t into j p)) := by
  intro j
  induction j with
  | zero => intro p; exact F9.rf
  | succ j ih =>
    intro p
    unfold pRL
    split
    · split
      · exact F9.rf
      · refine F9.tr ?_ (ih _)
        have h2 : psG (pAdv (pR2 t (pSee t p))) = psG p := by
          rw [g_adv]
          unfold pR2
          split
          · rfl
          · rfl
        unfold pR3
        split
        · split
          · have := F9_Q t into (pAdv (pR2 t (pSee t p)))
            rw [h2] at this
            exact this
          · have := F9_K (t := t) hi (pAdv (pR2 t (pSee t p)))
            rw [h2] at this
            exact this
        · rw [h2]; exact F9.rf
    · exact F9.rf
theorem rd_frame {t c e : Nat} {d : Int32} {g : GT} (hc : c ≤ e) (he : e ≤ 8) : psG (rdP t c e d g) 0 = g 0 ∧ ∀ j k, j ≤ e → k < 10 → psG (rdP t c e d g) 9 (j * 10 + k) = g 9 (j * 10 + k) := by
  have h := F9_RL (t := t) (into := e + 1) (by omega) 402 (0, none, d, rdG c e g)
  unfold rdP
  generalize pRL t (e + 1) 402 (0, none, d, rdG c e g) = PP at h ⊢
  have e9 : ∀ G : GT, psG ((0, none, d, G) : PS) = G := fun _ => rfl
  rw [e9] at h
  refine ⟨by rw [h.1]; exact rdG_0 c e g, fun j k hj hk => ?_⟩
  rw [h.2 (j * 10 + k) (by omega), rdG_9 hc he, if_neg (by omega)]
theorem rd_tape {t c e : Nat} {d : Int32} {g : GT} (hc : c ≤ e) (he : e ≤ 8) (ht : t ≤ 400) (hb : ∀ n, ¬ g 0 n < 0) : (∀ R, kTape false (g 0) t = some R → (rdP t c e d g).2.1 = none ∧ ∀ k, k < 10 → (¬ psG (rdP t c e d g) 9 ((e + 1) * 10 + k) = 0 ↔ ((R.2 k).isSome = true ∨ ¬ g 9 (c * 10 + k) = 0))) ∧ (kTape false (g 0) t = none → ¬ (rdP t c e d g).2.1 = none) := by
  have g0 := rdG_0 c e g
  have h := RL t (e + 1) (rdG c e g) ht (by omega) (by rw [g0]; exact hb) 400 402 (fun _ => none, fun _ => none) (0, none, d, rdG c e g) rfl ⟨fun p q => (nomatch q), Nat.zero_le _, fun _ => Nat.zero_le _⟩ (by show t ≤ 0 + 400; omega) (by decide) (rdG_RG g)
  rw [← kTape_st]
  rw [g0] at h
  unfold rdP
  generalize hPP : pRL t (e + 1) 402 (0, none, d, rdG c e g) = PP at h ⊢
  refine ⟨fun R e1 => ?_, fun e1 => h.2 e1⟩
  obtain ⟨h1, h2⟩ := h.1 R e1
  refine ⟨h1, fun k hk => ?_⟩
  have e9 : rdG c e g 9 ((e + 1) * 10 + k) = g 9 (c * 10 + k) := by
    rw [rdG_9 hc he, if_pos (by omega), show c * 10 + ((e + 1) * 10 + k - (e + 1) * 10) = c * 10 + k by omega]
  rcases h2.2.2.1 k hk with ⟨q1, q2, q3⟩ | ⟨d9, q1, q2, q3, m, q4, q5, q6⟩
  · rw [show psG PP 9 ((e + 1) * 10 + k) = g 9 (c * 10 + k) from q3.trans e9, q1]
    exact ⟨fun z => Or.inr z, fun z => z.elim (fun y => (nomatch y)) id⟩
  · rw [show psG PP 9 ((e + 1) * 10 + k) = d9.1 from q3, q1, q4]
    refine ⟨fun _ => Or.inl rfl, fun _ z => ?_⟩
    rw [← nI_0, nI_eq (by omega) (by decide)] at z
    omega
