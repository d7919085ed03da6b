-- what holds of the arrays always
def Bd (N : Nat) (v : Int32) : Prop := ∃ m : Nat, v = nI m ∧ m ≤ N
def GI (g : GT) : Prop := (∀ j, Bd 12 (g 5 j)) ∧ (∀ j, Bd 6 (g 7 j)) ∧ (∀ j, j % 4 = 2 → Bd 60 (g 8 j)) ∧ (∀ j, Bd 60 (g 9 j)) ∧ (∀ j, Bd 6 (g 11 j)) ∧ (∀ j, (j % 14 = 1 → Bd 4 (g 12 j)) ∧ ((j % 14 = 2 ∨ j % 14 = 5 ∨ j % 14 = 8 ∨ j % 14 = 11) → Bd 60 (g 12 j))) ∧ (∀ j, g 17 j = 0 ∨ g 17 j = 1)
theorem Bd_0 (N : Nat) : Bd N 0 := ⟨0, rfl, Nat.zero_le _⟩
theorem upd_all {P : Int32 → Prop} {f : Nat → Int32} {k : Nat} {v : Int32} (h : ∀ j, P (f j)) (hv : P v) : ∀ j, P (upd f k v j) := by
  intro j
  unfold upd
  split
  · exact hv
  · exact h j
theorem upd_at {P : Nat → Int32 → Prop} {f : Nat → Int32} {k : Nat} {v : Int32} (h : ∀ j, P j (f j)) (hv : P k v) : ∀ j, P j (upd f k v j) := by
  intro j
  unfold upd
  split
  · rename_i e; rw [e]; exact hv
  · exact h j
theorem GI_free {g : GT} {j : Nat} {c : Nat → Int32} (h : GI g) (h5 : j ≠ 5) (h7 : j ≠ 7) (h8 : j ≠ 8) (h9 : j ≠ 9) (h11 : j ≠ 11) (h12 : j ≠ 12) (h17 : j ≠ 17) : GI (va_up g j c) := by
  unfold GI
  rw [up_other g c h5.symm, up_other g c h7.symm, up_other g c h8.symm, up_other g c h9.symm, up_other g c h11.symm, up_other g c h12.symm, up_other g c h17.symm]
  exact h
theorem GI_5 {g : GT} {c : Nat → Int32} (h : GI g) (hc : ∀ j, Bd 12 (c j)) : GI (va_up g 5 c) := by
  obtain ⟨a, b, d, e, f, i, k⟩ := h
  exact ⟨hc, b, d, e, f, i, k⟩
theorem GI_7 {g : GT} {c : Nat → Int32} (h : GI g) (hc : ∀ j, Bd 6 (c j)) : GI (va_up g 7 c) := by
  obtain ⟨a, b, d, e, f, i, k⟩ := h
  exact ⟨a, hc, d, e, f, i, k⟩
theorem GI_8 {g : GT} {c : Nat → Int32} (h : GI g) (hc : ∀ j, j % 4 = 2 → Bd 60 (c j)) : GI (va_up g 8 c) := by
  obtain ⟨a, b, d, e, f, i, k⟩ := h
  exact ⟨a, b, hc, e, f, i, k⟩
theorem GI_9 {g : GT} {c : Nat → Int32} (h : GI g) (hc : ∀ j, Bd 60 (c j)) : GI (va_up g 9 c) := by
  obtain ⟨a, b, d, e, f, i, k⟩ := h
  exact ⟨a, b, d, hc, f, i, k⟩
theorem GI_11 {g : GT} {c : Nat → Int32} (h : GI g) (hc : ∀ j, Bd 6 (c j)) : GI (va_up g 11 c) := by
  obtain ⟨a, b, d, e, f, i, k⟩ := h
  exact ⟨a, b, d, e, hc, i, k⟩
theorem GI_12 {g : GT} {c : Nat → Int32} (h : GI g) (hc : ∀ j, (j % 14 = 1 → Bd 4 (c j)) ∧ ((j % 14 = 2 ∨ j % 14 = 5 ∨ j % 14 = 8 ∨ j % 14 = 11) → Bd 60 (c j))) : GI (va_up g 12 c) := by
  obtain ⟨a, b, d, e, f, i, k⟩ := h
  exact ⟨a, b, d, e, f, hc, k⟩
theorem GI_17 {g : GT} {c : Nat → Int32} (h : GI g) (hc : ∀ j, c j = 0 ∨ c j = 1) : GI (va_up g 17 c) := by
  obtain ⟨a, b, d, e, f, i, k⟩ := h
  exact ⟨a, b, d, e, f, i, hc⟩
-- the parser's steps
theorem GIp_free {j : Nat} {i v : Int32} {p : PS} (h : GI (psG p)) (h5 : j ≠ 5) (h7 : j ≠ 7) (h8 : j ≠ 8) (h9 : j ≠ 9) (h11 : j ≠ 11) (h12 : j ≠ 12) (h17 : j ≠ 17) : GI (psG (pSet j i v p)) := by
  rw [psG_set]; exact GI_free h h5 h7 h8 h9 h11 h12 h17
theorem GIp_5 {i v : Int32} {p : PS} (h : GI (psG p)) (hv : Bd 12 v) : GI (psG (pSet 5 i v p)) := by
  rw [psG_set]; exact GI_5 h (upd_all h.1 hv)
theorem GIp_7 {i v : Int32} {p : PS} (h : GI (psG p)) (hv : Bd 6 v) : GI (psG (pSet 7 i v p)) := by
  rw [psG_set]; exact GI_7 h (upd_all h.2.1 hv)
theorem GIp_8 {i v : Int32} {p : PS} (h : GI (psG p)) (hv : i.toNatClampNeg % 4 = 2 → Bd 60 v) : GI (psG (pSet 8 i v p)) := by
  rw [psG_set]; exact GI_8 h (upd_at (P := fun j v => j % 4 = 2 → Bd 60 v) h.2.2.1 hv)
theorem GIp_9 {i v : Int32} {p : PS} (h : GI (psG p)) (hv : Bd 60 v) : GI (psG (pSet 9 i v p)) := by
  rw [psG_set]; exact GI_9 h (upd_all h.2.2.2.1 hv)
theorem GIp_11 {i v : Int32} {p : PS} (h : GI (psG p)) (hv : Bd 6 v) : GI (psG (pSet 11 i v p)) := by
  rw [psG_set]; exact GI_11 h (upd_all h.2.2.2.2.1 hv)
theorem GIp_12 {i v : Int32} {p : PS} (h : GI (psG p)) (hv : (i.toNatClampNeg % 14 = 1 → Bd 4 v) ∧ ((i.toNatClampNeg % 14 = 2 ∨ i.toNatClampNeg % 14 = 5 ∨ i.toNatClampNeg % 14 = 8 ∨ i.toNatClampNeg % 14 = 11) → Bd 60 v)) : GI (psG (pSet 12 i v p)) := by
  rw [psG_set]; exact GI_12 h (upd_at (P := fun j v => (j % 14 = 1 → Bd 4 v) ∧ ((j % 14 = 2 ∨ j % 14 = 5 ∨ j % 14 = 8 ∨ j % 14 = 11) → Bd 60 v)) h.2.2.2.2.2.1 hv)
theorem Bd_val {t A B : Nat} {p : PS} (hab : A ≤ B) (hB : B < 2 ^ 31) : Bd B (pVal t (nI A) (nI B) p) := by
  obtain ⟨m, e, -, h⟩ := pVal_n (t := t) (p := p) hab hB
  exact ⟨m, e, h⟩
theorem GI_num {t : Nat} {a b : Int32} {p : PS} (h : GI (psG p)) : GI (psG (pNum t a b p)) := by rw [pNum_g]; exact h
theorem GI_Words {t : Nat} {k : Int32} {p : PS} (h : GI (psG p)) : GI (psG (pWords t k p)) := by
  have hE : ∀ m (p : PS), m ≤ 12 → GI (psG p) → GI (psG (pWE k m p)) := by
    intro m p hm h
    unfold pWE
    dsimp only
    refine GIp_5 ?_ ⟨m, rfl, hm⟩
    split
    · split
      · exact h
      · exact h
    · split
      · exact h
      · exact h
  have hL : ∀ j m (p : PS), j + m = 13 → GI (psG p) → GI (psG (pWL t k j m p)) := by
    intro j
    induction j with
    | zero => intro m p _ h; exact h
    | succ j ih =>
      intro m p hj h
      unfold pWL
      split
      · split
        · exact h
        · exact ih (m + 1) _ (by omega) (GIp_free h (by decide) (by decide) (by decide) (by decide) (by decide) (by decide) (by decide))
      · exact hE m p (by omega) h
  exact hL 13 0 _ rfl h
theorem GI_Jump {t i a : Nat} {p : PS} (ha : a * 4 + 3 < 2 ^ 31) (h : GI (psG p)) : GI (psG (pJump t i (nI (a * 4)) p)) := by
  have c0 : (nI (a * 4)).toNatClampNeg % 4 = 0 := by rw [nI_clamp (by omega)]; omega
  have c1 : (nI (a * 4) + 1).toNatClampNeg % 4 = 1 := by rw [nI_1, nI_clamp (by omega)]; omega
  have c3 : (nI (a * 4) + 3).toNatClampNeg % 4 = 3 := by rw [show (3 : Int32) = nI 3 from rfl, nI_add, nI_clamp (by omega)]; omega
  generalize nI (a * 4) = J at c0 c1 c3 ⊢
  have hs : ∀ p : PS, GI (psG p) → GI (psG (pJs t J p)) := by
    intro p h
    unfold pJs
    refine GIp_8 (GI_num ?_) (fun z => by omega)
    exact GIp_8 (GI_num h) (fun z => by omega)
  have ht : ∀ p : PS, GI (psG p) → GI (psG (pJt t J p)) := by
    intro p h
    have h6 : GI (psG (pSet 8 (J + 3) 0 (pSet 8 (J + 2) (pVal t 0 60 (pTake t 62 p)) (pNum t 0 60 (pTake t 62 p))))) := GIp_8 (GIp_8 (GI_num h) (fun _ => Bd_val (A := 0) (B := 60) (by decide) (by decide))) (fun z => by omega)
    unfold pJt
    dsimp only
    split
    · split
      · exact GIp_8 (GI_num h6) (fun z => by omega)
      · exact h6
    · exact h6
  unfold pJump
  split
  · exact ht _ (hs _ (GIp_8 h (fun z => by omega)))
  · exact ht _ (GIp_8 h (fun z => by omega))
theorem GI_T {t c m : Nat} {p : PS} (hc : c % 14 = 0) (hm : m < 4) (hb : c + 14 < 2 ^ 31) (h : GI (psG p)) : GI (psG (pT t (nI c + 2 + 3 * nI m) p)) := by
  have e : nI c + 2 + 3 * nI m = nI (c + 2 + 3 * m) := by rw [show (2 : Int32) = nI 2 from rfl, show (3 : Int32) = nI 3 from rfl, pk_mul, nI_add, nI_add]
  have c0 : (nI (c + 2 + 3 * m)).toNatClampNeg = c + 2 + 3 * m := nI_clamp (by omega)
  have c1 : (nI (c + 2 + 3 * m) + 1).toNatClampNeg = c + 2 + 3 * m + 1 := by rw [nI_1, nI_clamp (by omega)]
  have c2 : (nI (c + 2 + 3 * m) + 2).toNatClampNeg = c + 2 + 3 * m + 2 := by rw [show (2 : Int32) = nI 2 from rfl, nI_add, nI_clamp (by omega)]
  rw [e]
  generalize nI (c + 2 + 3 * m) = S at c0 c1 c2 ⊢
  have h1 : GI (psG (pT1 t p)) := by
    unfold pT1
    split
    · exact h
    · exact h
  have h2 : ∀ x, GI (psG (pT2 t S x (pT1 t p))) := by
    intro x
    unfold pT2
    split
    · exact GIp_12 (GI_num h1) ⟨fun z => by rw [c0] at z; omega, fun _ => Bd_val (A := 1) (B := 60) (by decide) (by decide)⟩
    · exact GIp_12 h1 ⟨fun z => by rw [c0] at z; omega, fun _ => Bd_0 _⟩
  have h4 : ∀ x (p : PS), GI (psG p) → GI (psG (pT4 t x p)) := by
    intro x p h
    unfold pT4
    split
    · exact h
    · exact h
  unfold pT
  split
  · unfold pTb
    split
    · split
      · unfold pT5
        refine GIp_12 (GI_num (GIp_12 (h4 _ _ (h2 _)) ⟨fun z => by rw [c1] at z; omega, fun z => by rw [c1] at z; omega⟩)) ⟨fun z => by rw [c2] at z; omega, fun z => by rw [c2] at z; omega⟩
      · exact h4 _ _ (h2 _)
    · exact h2 _
  · exact h1
theorem GI_CR {t c : Nat} {p : PS} (hc : c % 14 = 0) (hb : c + 14 < 2 ^ 31) (h : GI (psG p)) : GI (psG (pCR t (nI c) p)) := by
  have hL : ∀ j m (p : PS), j + m = 4 → GI (psG p) → GI (psG (pCL t (nI c) j m p).2) ∧ (pCL t (nI c) j m p).1 ≤ 4 := by
    intro j
    induction j with
    | zero => intro m p hj h; exact ⟨h, by show m ≤ 4; omega⟩
    | succ j ih =>
      intro m p hj h
      have hT := GI_T (t := t) hc (show m < 4 by omega) hb h
      unfold pCL
      split
      · split
        · split
          · exact ih _ _ (by omega) hT
          · exact ⟨hT, by show m + 1 ≤ 4; omega⟩
        · exact ⟨hT, by show m + 1 ≤ 4; omega⟩
      · exact ⟨h, by show m ≤ 4; omega⟩
  obtain ⟨hg, hn⟩ := hL 4 0 p rfl h
  have c0 : (nI c).toNatClampNeg = c := nI_clamp (by omega)
  have c1 : (nI c + 1).toNatClampNeg = c + 1 := by rw [nI_1, nI_clamp (by omega)]
  unfold pCR pCf pCe
  refine GIp_12 (GI_num ?_) ⟨fun z => by rw [c0] at z; omega, fun z => by rw [c0] at z; omega⟩
  exact GIp_12 hg ⟨fun _ => ⟨_, rfl, hn⟩, fun z => by rw [c1] at z; omega⟩
theorem GI_Q1 {t j : Nat} {a b : Int32} {p : PS} (h : GI (psG p)) : GI (psG (pQ1 t a b j p)) := by
  unfold pQ1
  split
  · exact GI_num (p := p) h
  · exact GI_num h
theorem GI_QL {t k : Nat} (hk : k < 610) : ∀ j i (p : PS), j + i = 6 → GI (psG p) → psG p 7 (nI k).toNatClampNeg = nI i → GI (psG (pQL t k j i p)) := by
  intro j
  induction j with
  | zero => intro i p _ h _; exact h
  | succ j ih =>
    intro i p hj h hv
    have e : (k * 6 + i) * 4 = (k * 6 + i) * 4 := rfl
    have hJ : GI (psG (pJump t i (nI ((k * 6 + i) * 4)) p)) := GI_Jump (by omega) h
    have hv2 : psG (pJump t i (nI ((k * 6 + i) * 4)) p) 7 (nI k).toNatClampNeg = nI i := by rw [pJump_g t i _ p (by decide)]; exact hv
    have hS : GI (psG (pQLs t k i p)) := GIp_7 hJ (by rw [hv2, nI_1]; exact ⟨i + 1, rfl, by omega⟩)
    have hv3 : psG (pQLs t k i p) 7 (nI k).toNatClampNeg = nI (i + 1) := by
      unfold pQLs
      rw [psG_set, up_same, show ∀ (f : Nat → Int32) (a : Nat) (v : Int32), upd f a v a = v from fun f a v => if_pos rfl, hv2, nI_1]
    unfold pQL
    split
    · split
      · exact ih _ _ (by omega) hS hv3
      · exact hS
    · exact h
theorem GI_Q {t into : Nat} {p : PS} (hi : into ≤ 9) (h : GI (psG p)) : GI (psG (pQ t into p)) := by
  obtain ⟨q, eq, hq1, hq2⟩ := pVal_n (t := t) (A := 1) (B := 60) (p := p) (by decide) (by decide)
  replace eq : pVal t 1 60 p = nI q := eq
  unfold pQ
  rw [eq, nI_clamp (by omega)]
  split
  · have h1 : GI (psG (pQ1 t 1 60 13 p)) := GI_Q1 h
    generalize pQ1 t 1 60 13 p = p1 at h1 ⊢
    have hk : into * 61 + q < 610 := by omega
    generalize into * 61 + q = k at hk ⊢
    unfold pQz
    have h2 : GI (psG (pQ2 t (nI q) p1)) := GIp_free h1 (by decide) (by decide) (by decide) (by decide) (by decide) (by decide) (by decide)
    generalize pQ2 t (nI q) p1 = p2 at h2 ⊢
    have h3 : GI (psG (pQ3 t (nI k) p2)) := by
      unfold pQ3
      refine GIp_free (GIp_free ?_ (by decide) (by decide) (by decide) (by decide) (by decide) (by decide) (by decide)) (by decide) (by decide) (by decide) (by decide) (by decide) (by decide) (by decide)
      show GI (psG (pQ3a t p2))
      unfold pQ3a
      split
      · exact h2
      · exact h2
    generalize pQ3 t (nI k) p2 = p3 at h3 ⊢
    have h4 : GI (psG (pQ4 t (nI k) p3)) := by
      unfold pQ4
      refine GIp_free (GI_num ?_) (by decide) (by decide) (by decide) (by decide) (by decide) (by decide) (by decide)
      exact GIp_free (GI_num h3) (by decide) (by decide) (by decide) (by decide) (by decide) (by decide) (by decide)
    generalize pQ4 t (nI k) p3 = p4 at h4 ⊢
    have h5 : GI (psG (pQ5 t (nI k) (k * 2) p4)) := by
      have h6 : GI (psG (pSet 5 (2 * nI k + 1) 0 (pWords t (nI (k * 2)) p4))) := GIp_5 (GI_Words h4) (Bd_0 _)
      unfold pQ5
      dsimp only
      split
      · split
        · exact GI_Words h6
        · exact h6
      · exact h6
    generalize pQ5 t (nI k) (k * 2) p4 = p5 at h5 ⊢
    unfold pQ6
    show GI (psG (pQL t k 6 0 (pSet 7 (nI k) 0 (pTake t 58 p5))))
    refine GI_QL hk 6 0 _ rfl (GIp_7 h5 (Bd_0 _)) ?_
    rw [psG_set, up_same]
    exact if_pos rfl
  · exact GI_Q1 h
theorem GI_KL {t k : Nat} (hk : k < 100) : ∀ j i (p : PS), j + i = 7 → GI (psG p) → psG p 11 (nI k).toNatClampNeg = nI i → GI (psG (pKL t k j i p)) := by
  intro j
  induction j with
  | zero => intro i p _ h _; exact h
  | succ j ih =>
    intro i p hj h hv
    have hC : GI (psG (pCR t (nI ((k * 6 + i) * 14)) (pAdv (pSee t p)))) := GI_CR (by omega) (by omega) h
    have hv2 : psG (pCR t (nI ((k * 6 + i) * 14)) (pAdv (pSee t p))) 11 (nI k).toNatClampNeg = nI i := by rw [pCR_g t _ _ (by decide)]; exact hv
    have hv3 : psG (pKs t k i (pAdv (pSee t p))) 11 (nI k).toNatClampNeg = nI (i + 1) := by
      unfold pKs
      rw [psG_set, up_same, show ∀ (f : Nat → Int32) (a : Nat) (v : Int32), upd f a v a = v from fun f a v => if_pos rfl, hv2, nI_1]
    unfold pKL
    split
    · rename_i z
      split
      · refine ih _ _ (by omega) (GIp_11 hC ?_) hv3
        rw [hv2, nI_1]; exact ⟨i + 1, rfl, by omega⟩
      · exact h
    · exact h
theorem GI_K {t into : Nat} {p : PS} (hi : into ≤ 9) (h : GI (psG p)) : GI (psG (pK t into p)) := by
  obtain ⟨q, eq, hq1, hq2⟩ := pVal_n (t := t) (A := 1) (B := 9) (p := p) (by decide) (by decide)
  replace eq : pVal t 1 9 p = nI q := eq
  unfold pK
  rw [eq, nI_clamp (by omega)]
  split
  · have h1 : GI (psG (pQ1 t 1 9 14 p)) := GI_Q1 h
    generalize pQ1 t 1 9 14 p = p1 at h1 ⊢
    have hk : into * 10 + q < 100 := by omega
    generalize into * 10 + q = k at hk ⊢
    unfold pKz
    have h2 : GI (psG (pK1 t (nI q) p1)) := GIp_free (p := p1) h1 (by decide) (by decide) (by decide) (by decide) (by decide) (by decide) (by decide)
    generalize pK1 t (nI q) p1 = p2 at h2 ⊢
    have h3 : GI (psG (pK2 t k p2)) := GIp_9 (GI_num h2) (Bd_val (A := 1) (B := 60) (by decide) (by decide))
    generalize pK2 t k p2 = p3 at h3 ⊢
    have h4 : GI (psG (pK3 t k p3)) := GIp_11 (GIp_free (GI_num h3) (by decide) (by decide) (by decide) (by decide) (by decide) (by decide) (by decide)) (Bd_0 _)
    show GI (psG (pKL t k 7 0 (pK3 t k p3)))
    refine GI_KL hk 7 0 _ rfl h4 ?_
    unfold pK3
    rw [psG_set, up_same]
    exact if_pos rfl
  · exact GI_Q1 h
theorem GI_RL {t into : Nat} (hi : into ≤ 9) : ∀ j (p : PS), GI (psG p) → GI (psG (pRL t into j p)) := by
  intro j
  induction j with
  | zero => intro p h; exact h
  | succ j ih =>
    intro p h
    have h2 : GI (psG (pAdv (pR2 t (pSee t p)))) := by
      show GI (psG (pR2 t (pSee t p)))
      unfold pR2
      split
      · exact h
      · exact h
    unfold pRL
    split
    · split
      · exact h
      · refine ih _ ?_
        generalize pAdv (pR2 t (pSee t p)) = p3 at h2 ⊢
        unfold pR3
        split
        · split
          · exact GI_Q hi h2
          · exact GI_K hi h2
        · exact h2
    · exact h
theorem cnt_inv {α : Type} {P : α → Prop} {body : Nat → α → α} (hb : ∀ i a, P a → P (body i a)) : ∀ j i a, P a → P (cnt body j i a) := by
  intro j
  induction j with
  | zero => intro i a h; exact h
  | succ j ih => intro i a h; exact ih _ _ (hb i a h)
theorem cnt_invB {α : Type} {P : α → Prop} {body : Nat → α → α} (N : Nat) (hb : ∀ i a, i < N → P a → P (body i a)) : ∀ j i a, j + i = N → P a → P (cnt body j i a) := by
  intro j
  induction j with
  | zero => intro i a _ h; exact h
  | succ j ih => intro i a hj h; exact ih _ _ (by omega) (hb i a (by omega) h)
