-- a priority, both sides
theorem te_hd {g : GT} {s : Nat} {e : TD} (h : TC g s e) (hok : okT e) {p : Int32} {la : Nat → Int32} (hp : 0 ≤ p) (hl : ∀ q, 1 ≤ q → q < 61 → la q = g 16 q ∧ (la q = -1 ∨ 0 ≤ la q)) : hdV p g s = teV p la e := by
  obtain ⟨t1, t2, t3⟩ := h
  obtain ⟨hr, m, em, hm⟩ := hok
  have pos : ¬ e.1 = 0 → 1 ≤ m ∧ e.1.toNatClampNeg = m := fun c => by
    rw [em, nI_clamp (by omega)]
    refine ⟨?_, rfl⟩
    rcases Nat.eq_zero_or_pos m with q | q
    · exact absurd (by rw [em, q]; exact nI_0) c
    · exact q
  have ey : hdY p g s = teY p la e := by
    unfold hdY teY
    rw [t1]
    by_cases c : e.1 = 0
    · rw [if_pos c, if_pos c]
    · rw [if_neg c, if_neg c, (pos c).2]
      exact (hl m (pos c).1 (by omega)).1.symm
  have hy : (teY p la e = -1 ∧ ¬ e.1 = 0) ∨ 0 ≤ teY p la e := by
    unfold teY
    by_cases c : e.1 = 0
    · rw [if_pos c]; exact Or.inr hp
    · rw [if_neg c, (pos c).2]
      rcases (hl m (pos c).1 (by omega)).2 with q | q
      · exact Or.inl ⟨q, c⟩
      · exact Or.inr q
  unfold hdV teV
  rw [ey, t1, t2, t3]
  rcases hy with ⟨h1, h2⟩ | h1
  · have ne : ¬ e.1 ≤ 0 := by
      rw [em]
      exact fun z => absurd ((nI_leI (a := m) (b := 0) (by omega) (by decide)).mp z) (by have := (pos h2).1; omega)
    rw [if_pos ⟨ne, by rw [h1]; decide +kernel⟩, if_pos h1]
  · rw [if_neg (fun q => q.2 h1), if_neg (show ¬ teY p la e = -1 from fun q => by rw [q] at h1; exact absurd h1 (by decide +kernel))]
    unfold hdR
    rcases hr with hr | hr | hr
    · rw [hr, if_neg (show ¬ (60 : Int32) = 61 by decide), if_pos rfl, if_pos rfl]
    · rw [hr, if_neg (show ¬ (62 : Int32) = 61 by decide), if_neg (show ¬ (62 : Int32) = 60 by decide), if_neg (show ¬ (62 : Int32) = 60 by decide), if_pos rfl]
    · rw [hr, if_pos rfl, if_neg (show ¬ (61 : Int32) = 60 by decide), if_neg (show ¬ (61 : Int32) = 62 by decide)]
theorem co_eq {g : GT} {c : Nat} {d : CD} (h : CR g c d) (hok : ∀ e ∈ d.1, okT e) {p : Int32} {la : Nat → Int32} (hp : 0 ≤ p) (hl : ∀ q, 1 ≤ q → q < 61 → la q = g 16 q ∧ (la q = -1 ∨ 0 ≤ la q)) : ∀ j u x, j + u = 5 → u ≤ d.1.length → (x = 0 ∨ x = 1) → coL p g c j u x = if x = 0 then 0 else coV p la (d.1.drop u) := by
  obtain ⟨-, h1, h2, h3⟩ := h
  intro j
  induction j with
  | zero => intro u x hj hu; omega
  | succ j ih =>
    intro u x hj hu hx
    unfold coL
    have e7 : g 12 (c + 1) ≤ nI u ↔ d.1.length ≤ u := by
      rw [h1]; exact nI_leI (by omega) (by omega)
    by_cases z : d.1.length ≤ u
    · rw [if_pos (e7.mpr z), List.drop_eq_nil_of_le z]
      rcases hx with rfl | rfl
      · rfl
      · rfl
    · have hlt : u < d.1.length := by omega
      rw [if_neg (fun q => z (e7.mp q)), te_hd (h3 u d.1[u] (List.getElem?_eq_getElem hlt)) (hok _ (List.getElem_mem hlt)) hp hl]
      have hx2 : (if x = 0 then 0 else if teV p la d.1[u] = 0 then 0 else 1) = (0 : Int32) ∨ (if x = 0 then 0 else if teV p la d.1[u] = 0 then 0 else 1) = (1 : Int32) := by
        split
        · exact Or.inl rfl
        · split
          · exact Or.inl rfl
          · exact Or.inr rfl
      rw [ih (u + 1) _ (by omega) (by omega) hx2, List.drop_eq_getElem_cons hlt]
      rcases hx with rfl | rfl
      · rw [if_pos rfl, if_pos rfl, if_pos rfl]
      · rw [if_neg (show ¬ (1 : Int32) = 0 by decide), if_neg (show ¬ (1 : Int32) = 0 by decide)]
        show _ = if teV p la d.1[u] = 0 then 0 else coV p la (d.1.drop (u + 1))
        by_cases c9 : teV p la d.1[u] = 0
        · rw [if_pos c9, if_pos c9, if_pos rfl]
        · rw [if_neg c9, if_neg c9, if_neg (show ¬ (1 : Int32) = 0 by decide)]
theorem pr_eq {g : GT} {K : Nat} {d : KD} (h : KR g K d) (hok : okK d) {p : Int32} {la : Nat → Int32} (hp : 0 ≤ p) (hl : ∀ q, 1 ≤ q → q < 61 → la q = g 16 q ∧ (la q = -1 ∨ 0 ≤ la q)) : ∀ j i, j + i = 7 → i ≤ d.2.2.length → prL p g K j i = pvL p la d.2.1 (d.2.2.drop i) := by
  obtain ⟨-, h1, h2, h3, h4⟩ := h
  intro j
  induction j with
  | zero => intro i hj hi; omega
  | succ j ih =>
    intro i hj hi
    unfold prL
    have e7 : g 11 K ≤ nI i ↔ d.2.2.length ≤ i := by
      rw [h2]; exact nI_leI (by omega) (by omega)
    by_cases z : d.2.2.length ≤ i
    · rw [if_pos (e7.mpr z), List.drop_eq_nil_of_le z]
      exact h1
    · have hlt : i < d.2.2.length := by omega
      have hc := h4 i d.2.2[i] (List.getElem?_eq_getElem hlt)
      rw [if_neg (fun q => z (e7.mp q)), co_eq hc (hok _ (List.getElem_mem hlt)) hp hl 5 0 1 rfl (Nat.zero_le _) (Or.inr rfl), if_neg (show ¬ (1 : Int32) = 0 by decide), List.drop_eq_getElem_cons hlt]
      show _ = if coV p la (d.2.2[i]).1 = 0 then pvL p la d.2.1 (d.2.2.drop (i + 1)) else (d.2.2[i]).2
      rw [show (d.2.2[i]).1.drop 0 = (d.2.2[i]).1 from rfl]
      by_cases c9 : coV p la (d.2.2[i]).1 = 0
      · rw [if_pos c9, if_pos c9]
        exact ih (i + 1) (by omega) (by omega)
      · rw [if_neg c9, if_neg c9]
        exact hc.1
