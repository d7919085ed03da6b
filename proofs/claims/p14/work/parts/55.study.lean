-- what an edition learns of itself
def szL {α : Type} (fq : Nat → Option α) : Nat → Nat → Int32 → Int32
  | 0, _, s => s
  | k + 1, c, s => szL fq k (c + 1) (if (fq c).isNone = true then s else s + 1)
theorem szL_none {α : Type} {fq : Nat → Option α} {k c : Nat} {s : Int32} (h : fq c = none) : szL fq (k + 1) c s = szL fq k (c + 1) s := by
  show szL fq k (c + 1) (if (fq c).isNone = true then s else s + 1) = _
  rw [h]; rfl
theorem szL_some {α : Type} {fq : Nat → Option α} {k c : Nat} {s : Int32} (h : ¬ fq c = none) : szL fq (k + 1) c s = szL fq k (c + 1) (s + 1) := by
  show szL fq k (c + 1) (if (fq c).isNone = true then s else s + 1) = _
  cases e : fq c with
  | none => exact absurd e h
  | some a => rfl
theorem szL_eq {α β : Type} {f : Nat → Option α} {g : Nat → Option β} : ∀ (k c : Nat) (s : Int32), (∀ j, c ≤ j → j < c + k → (f j).isNone = (g j).isNone) → szL f k c s = szL g k c s := by
  intro k
  induction k with
  | zero => intro c s h; rfl
  | succ k ih =>
    intro c s h
    show szL f k (c + 1) _ = szL g k (c + 1) _
    rw [h c (Nat.le_refl _) (by omega)]
    exact ih (c + 1) _ (fun j h1 h2 => h j (by omega) (by omega))
set_option maxHeartbeats 1000000 in
theorem d_study (T : ST) (e qa ka : Nat) (es : Int32) (e1 e2 e3 : Int64) (fq fk : Nat → Option Nat) (P : va_W) (h1 : (qa, (.inl (T.2.2.2.1 3, 61, .inr (.inr (.inr (.inr fq)))) : va_E)) ∈ P) (h2 : (ka, (.inl (T.2.2.2.1 4, 10, .inr (.inr (.inr (.inr fk)))) : va_E)) ∈ P) (hQ : allQ T.2.2.2.1 P fq) (hK : allK T.2.2.2.1 P fk) (Post : va_W → Prop)
    (hq : ∀ (w : Nat) (lf : Nat → Int64) (e1 e2 e3 : Int64), Post ([(w, .inl (T.2.2.2.1 1, 61, .inr (.inl lf))), (e, .inr (3, [.ref qa, .ref ka, .int (szL fq 60 1 es), .long e1, .long e2, .long e3]))] ++ P)) :
    uV T y_Ed_study (Cond.code y_Ed_study b_Ed_study 6 none) 5 1 61 [.ref e] ([(e, .inr (3, [.ref qa, .ref ka, .int es, .long e1, .long e2, .long e3]))] ++ P) Post := by
  obtain ⟨i2, hqa⟩ := List.getElem?_of_mem h1
  obtain ⟨i3, hka⟩ := List.getElem?_of_mem h2
  refine e_Ed_study T Post P e qa ka es e1 e2 e3 fq fk (fun _ => 0) ?_
  rintro C rfl X
  generalize hES : szL fq 60 1 es = ES0 at hq
  have l101 : ∀ k c w (lf : Nat → Int64) es e1 e2 e3 x2, k + c = 61 → szL fq k c es = ES0 → zc_Ed_study C Post 1 61 101 [(0, .ref e), (1, .ref w), (2, .long x2), (4, .int (nI c))] [] ([(w, .inl (C.1.2.2.2.1 1, 61, .inr (.inl lf))), (e, .inr (3, [.ref qa, .ref ka, .int es, .long e1, .long e2, .long e3]))] ++ P) := by
    intro k
    induction k with
    | zero =>
      intro c w lf es e1 e2 e3 x2 hk hs9
      have z : (60 : Int32) < nI c := (nI_ltI (a := 60) (b := c) (by decide) (by omega)).mpr (by omega)
      exact k_Ed_study_101 X Post (P_139 := fun _ _ => True) w x2 (nI c) P e qa ka es e1 e2 e3 fq fk lf i2 i3 1 61 hqa hka (fun _ => ⟨by decide, by decide⟩) (fun _ => by have e9 : es = ES0 := hs9; rw [e9]; exact hq w lf e1 e2 e3) (fun n => absurd z n) (fun n => absurd z n) (fun n => absurd z n) (fun n => absurd z n) (fun n => absurd z n) (fun n => absurd z n)
    | succ k ih =>
      intro c w lf es e1 e2 e3 x2 hk hs9
      have z : ¬ (60 : Int32) < nI c := fun n => absurd ((nI_ltI (a := 60) (b := c) (by decide) (by omega)).mp n) (by omega)
      have hv : vp_in (nI c) 61 := vi_n (by omega) (by decide)
      have hcl : (nI c).toNatClampNeg = c := nI_clamp (by omega)
      have s183 : ∀ es e1 e2 e3, szL fq k (c + 1) es = ES0 → zc_Ed_study C Post 1 61 183 [(0, .ref e), (1, .ref w), (2, .long x2), (4, .int (nI c))] [] ([(w, .inl (C.1.2.2.2.1 1, 61, .inr (.inl lf))), (e, .inr (3, [.ref qa, .ref ka, .int es, .long e1, .long e2, .long e3]))] ++ P) := by
        intro es e1 e2 e3 hs8
        refine k_Ed_study_183 X Post w x2 (nI c) P e qa ka es e1 e2 e3 fq fk lf i2 i3 1 61 hqa hka ?_
        rw [nI_1]; exact ih (c + 1) w lf es e1 e2 e3 x2 (by omega) hs8
      have s179 : ∀ y0 y1 es e1 e2 e3, szL fq k (c + 1) es = ES0 → zc_Ed_study C Post 1 61 179 [(0, .ref e), (1, .ref w), (2, .long x2), (4, .int (nI c))] [.long y0, .long y1, .ref e] ([(w, .inl (C.1.2.2.2.1 1, 61, .inr (.inl lf))), (e, .inr (3, [.ref qa, .ref ka, .int es, .long e1, .long e2, .long e3]))] ++ P) := fun y0 y1 es e1 e2 e3 hs8 => k_Ed_study_179 X Post w x2 (nI c) y0 y1 P e qa ka es e1 e2 e3 fq fk lf i2 i3 1 61 hqa hka (s183 _ _ _ _ hs8)
      have s153 : ∀ y0 y1 es e1 e2 e3, szL fq k (c + 1) es = ES0 → zc_Ed_study C Post 1 61 153 [(0, .ref e), (1, .ref w), (2, .long x2), (4, .int (nI c))] [.long y0, .long y1, .ref e] ([(w, .inl (C.1.2.2.2.1 1, 61, .inr (.inl lf))), (e, .inr (3, [.ref qa, .ref ka, .int es, .long e1, .long e2, .long e3]))] ++ P) := by
        intro y0 y1 es e1 e2 e3 hs8
        refine k_Ed_study_153 X Post (P_165 := fun _ _ => True) w x2 (nI c) y0 y1 P e qa ka es e1 e2 e3 fq fk lf i2 i3 1 61 hqa hka ⟨by decide, by decide⟩ (d_hasMember _ _ _ _ (fun _ _ => trivial)) ?_
        intro y u _
        exact k_Ed_study_168 X Post w x2 (nI c) y e2 P e qa ka es _ e2 e3 fq fk lf i2 i3 1 61 hqa hka (fun _ => s179 _ _ _ _ _ _ hs8) (fun _ => s179 _ _ _ _ _ _ hs8)
      refine k_Ed_study_101 X Post (P_139 := fun _ _ => True) w x2 (nI c) P e qa ka es e1 e2 e3 fq fk lf i2 i3 1 61 hqa hka (fun n => absurd n z) (fun n => absurd n z) (fun _ => hv) (fun _ z9 => s183 _ _ _ _ (by rw [hcl] at z9; rw [← szL_none z9]; exact hs9)) (fun _ _ => hv) (fun _ _ => ⟨by decide, by decide⟩) (fun _ _ => d_hasMember _ _ _ _ (fun _ _ => trivial)) ?_
      intro _ z9 y u _
      rw [hcl] at z9
      have hs7 : szL fq k (c + 1) (es + 1) = ES0 := by rw [← szL_some z9]; exact hs9
      exact k_Ed_study_142 X Post w x2 (nI c) y e1 P e qa ka _ e1 e2 e3 fq fk lf i2 i3 1 61 hqa hka (fun _ => s153 _ _ _ _ _ _ hs7) (fun _ => s153 _ _ _ _ _ _ hs7)
  have l10 : ∀ k c w (lf : Nat → Int64) es e1 e2 e3 x2, k + c = 10 → szL fq 60 1 es = ES0 → zc_Ed_study C Post 1 61 10 [(0, .ref e), (1, .ref w), (2, .long x2), (4, .int (nI c))] [] ([(w, .inl (C.1.2.2.2.1 1, 61, .inr (.inl lf))), (e, .inr (3, [.ref qa, .ref ka, .int es, .long e1, .long e2, .long e3]))] ++ P) := by
    intro k
    induction k with
    | zero =>
      intro c w lf es e1 e2 e3 x2 hk hs9
      have z : (9 : Int32) < nI c := (nI_ltI (a := 9) (b := c) (by decide) (by omega)).mpr (by omega)
      exact k_Ed_study_10 X Post (P_42 := fun _ _ => True) w x2 (nI c) P e qa ka es e1 e2 e3 fq fk lf i2 i3 1 61 hqa hka (fun _ => l101 60 1 w lf es e1 e2 e3 x2 rfl hs9) (fun n => absurd z n) (fun n => absurd z n) (fun n => absurd z n) (fun n => absurd z n) (fun n => absurd z n) (fun n => absurd z n) (fun n => absurd z n)
    | succ k ih =>
      intro c w lf es e1 e2 e3 x2 hk hs9
      have z : ¬ (9 : Int32) < nI c := fun n => absurd ((nI_ltI (a := 9) (b := c) (by decide) (by omega)).mp n) (by omega)
      have hv : vp_in (nI c) 10 := vi_n (by omega) (by decide)
      have s92 : ∀ x2 x5 es e1 e2 e3, szL fq 60 1 es = ES0 → zc_Ed_study C Post 1 61 92 [(0, .ref e), (1, .ref w), (2, .long x2), (4, .int (nI c)), (5, .int x5)] [] ([(w, .inl (C.1.2.2.2.1 1, 61, .inr (.inl lf))), (e, .inr (3, [.ref qa, .ref ka, .int es, .long e1, .long e2, .long e3]))] ++ P) := by
        intro x2 x5 es e1 e2 e3 hs8
        refine k_Ed_study_92 X Post w x2 (nI c) x5 P e qa ka es e1 e2 e3 fq fk lf i2 i3 1 61 hqa hka ?_
        rw [nI_1]; exact ih (c + 1) w lf es e1 e2 e3 x2 (by omega) hs8
      have s88 : ∀ x2 x5 y0 y1, zc_Ed_study C Post 1 61 88 [(0, .ref e), (1, .ref w), (2, .long x2), (4, .int (nI c)), (5, .int x5)] [.long y0, .long y1, .ref e] ([(w, .inl (C.1.2.2.2.1 1, 61, .inr (.inl lf))), (e, .inr (3, [.ref qa, .ref ka, .int es, .long e1, .long e2, .long e3]))] ++ P) := fun x2 x5 y0 y1 => k_Ed_study_88 X Post w x2 (nI c) x5 y0 y1 P e qa ka es e1 e2 e3 fq fk lf i2 i3 1 61 hqa hka (s92 _ _ _ _ _ _ hs9)
      have s45 : ∀ y, (y = 0 ∨ ∃ j, y = nI j ∧ 1 ≤ j ∧ j ≤ 60) → zc_Ed_study C Post 1 61 45 [(0, .ref e), (1, .ref w), (2, .long x2), (4, .int (nI c))] [.int y] ([(w, .inl (C.1.2.2.2.1 1, 61, .inr (.inl lf))), (e, .inr (3, [.ref qa, .ref ka, .int es, .long e1, .long e2, .long e3]))] ++ P) := by
        intro y hy
        have hvy : ¬ y = 0 → vp_in y 61 := by
          intro n
          rcases hy with h | ⟨j, rfl, g1, g2⟩
          · exact absurd h n
          · exact vi_n (by omega) (by decide)
        refine k_Ed_study_45 X Post (P_74 := fun _ _ => True) w x2 (nI c) y P e qa ka es e1 e2 e3 fq fk lf i2 i3 1 61 hqa hka (fun _ => s92 _ _ _ _ _ _ hs9) hvy hvy (fun _ => ⟨by decide, by decide⟩) (fun _ => d_hasMember _ _ _ _ (fun _ _ => trivial)) ?_
        intro _ r u _
        exact k_Ed_study_77 X Post w _ (nI c) y r e3 P e qa ka es e1 e2 e3 fq fk lf i2 i3 1 61 hqa hka (fun _ => s88 _ _ _ _) (fun _ => s88 _ _ _ _)
      have hed : edQ C.1.2.2.2.1 ([(w, .inl (C.1.2.2.2.1 1, 61, .inr (.inl lf))), (e, .inr (3, [.ref qa, .ref ka, .int es, .long e1, .long e2, .long e3]))] ++ P) e fq := ⟨qa, ka, es, e1, e2, e3, List.mem_cons_of_mem _ List.mem_cons_self, List.mem_cons_of_mem _ (List.mem_cons_of_mem _ h1)⟩
      refine k_Ed_study_10 X Post (P_42 := fun y u => (y = 0 ∨ ∃ j, y = nI j ∧ 1 ≤ j ∧ j ≤ 60 ∧ ¬ fq j = none) ∧ u = [(w, .inl (C.1.2.2.2.1 1, 61, .inr (.inl lf))), (e, .inr (3, [.ref qa, .ref ka, .int es, .long e1, .long e2, .long e3]))] ++ P) w x2 (nI c) P e qa ka es e1 e2 e3 fq fk lf i2 i3 1 61 hqa hka (fun n => absurd n z) (fun _ => hv) (fun _ _ => hv) (fun _ n => ?_) (fun _ _ _ _ _ _ _ _ _ => ⟨by decide, by decide⟩) (fun _ _ _ _ _ _ _ _ _ => d_asNext _ e _ _ fq hed _ (fun y hy => ⟨hy, rfl⟩)) ?_ (fun _ _ => s45 0 (Or.inl rfl))
      · cases ea : fk (nI c).toNatClampNeg with
        | none => exact absurd ea n
        | some a =>
          obtain ⟨y1, y2, y3, xs, w9, g1, -⟩ := hK _ a ea
          obtain ⟨i, hi⟩ := List.getElem?_of_mem g1
          exact ⟨a, i, y1, y2, y3, rfl, hi⟩
      · rintro _ _ _ _ _ _ _ _ _ y u ⟨hy, rfl⟩
        refine s45 y ?_
        rcases hy with h | ⟨j, g1, g2, g3, -⟩
        · exact Or.inl h
        · exact Or.inr ⟨j, g1, g2, g3⟩
  have hsub : Sub P ([(e, .inr (3, [.ref qa, .ref ka, .int es, .long e1, .long e2, .long e3]))] ++ P) := Sub.cons
  refine k_Ed_study_0 X Post (P_1 := fun y u => ∃ w lf, y = some w ∧ u = [(w, .inl (C.1.2.2.2.1 1, 61, .inr (.inl lf)))] ++ ([(e, .inr (3, [.ref qa, .ref ka, .int es, .long e1, .long e2, .long e3]))] ++ P)) P e qa ka es e1 e2 e3 fq fk (fun _ => 0) i2 i3 0 0 hqa hka ⟨by decide, by decide⟩ (d_waysByJumps _ e _ fq ⟨qa, ka, es, e1, e2, e3, List.mem_cons_self, List.mem_cons_of_mem _ h1⟩ (hQ.mono hsub) _ (fun w lf => ⟨w, lf, rfl, rfl⟩)) ?_
  rintro y u ⟨w, lf, rfl, rfl⟩
  exact k_Ed_study_4 X Post w P e qa ka es e1 e2 e3 fq fk lf i2 i3 1 61 hqa hka (l10 9 1 w lf es e1 e2 e3 0 rfl hES)
