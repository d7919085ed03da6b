-- the class's state against the reference's
def RL8 (S : ES) (Z : ZT) : Prop := Z.1 = nI S.2.1 ∧ Z.2.1 = nI S.2.2.1 ∧ Z.2.2.1 = S.2.2.2.1 ∧ Z.2.2.2 0 = S.2.2.2.2 ∧ (∀ n, ¬ S.2.2.2.2 n < 0) ∧ S.2.1 ≤ 8 ∧ S.2.2.1 ≤ S.2.1 ∧ ∀ j, j ≤ S.2.1 → ∀ k, 1 ≤ k → k < 10 → (((S.1 j).2 k).isSome = true ↔ ¬ Z.2.2.2 9 (j * 10 + k) = 0)
theorem TI_any {Z : ZT} {t : Nat} {f : FT} {g : GT} (h : TI Z t f g) : TI (f 3, f 4, f 9, g) t f g := ⟨⟨h.1.1, rfl, rfl, rfl, fun _ _ => rfl⟩, h.2⟩
theorem sgL_nn (b : Int64) : ∀ (j t : Nat) (h : Nat → Int32), (∀ n, ¬ h n < 0) → ∀ n, ¬ sgL b j t h n < 0 := by
  intro j
  induction j with
  | zero => intro t h hh; exact hh
  | succ j ih =>
    intro t h hh
    refine ih (t + 1) _ (fun n => ?_)
    unfold upd
    split
    · exact and255 _
    · exact hh n
theorem lgc_self (x : Int64) : lg_cmp x x = 0 := by simp [lg_cmp]
theorem sgV {n : Nat} (h1 : 1 ≤ n) (h2 : n ≤ 8) : ¬ inV (nI n) 1 8 = 0 := by
  unfold inV
  rw [if_neg (show ¬ nI n < 1 from nI_nlt (a := n) (b := 1) h1 (by omega)), if_neg (show ¬ (8 : Int32) < nI n from nI_nlt (a := 8) (b := n) h2 (by decide))]
  decide
theorem sgY0 {n t : Nat} (h1 : 1 ≤ n) (h2 : n ≤ 8) (h3 : t + n ≤ 400) : sgY (nI n) t = 0 := by
  unfold sgY
  rw [if_neg (sgV h1 h2), if_pos (show nI t + nI n ≤ 400 by rw [nI_add]; exact nI_le (b := 400) h3 (by decide))]
theorem sgY2 {n t : Nat} (h1 : 1 ≤ n) (h2 : n ≤ 8) (h3 : ¬ t + n ≤ 400) (ht : t ≤ 400) : sgY (nI n) t = 2 := by
  unfold sgY
  rw [if_neg (sgV h1 h2), if_neg (show ¬ nI t + nI n ≤ 400 by rw [nI_add]; exact fun q => h3 ((nI_leI (b := 400) (by omega) (by decide)).mp q))]
theorem inV_out {v a b : Int32} (h : v < a ∨ ¬ v ≤ b) : inV v a b = 0 := by
  unfold inV
  rcases h with h | h
  · rw [if_pos h]
  · by_cases q : v < a
    · rw [if_pos q]
    · rw [if_neg q, if_pos (by rw [Int32.not_le] at h; exact h)]
theorem sgY1 {v : Int32} {t : Nat} (h : v < 1 ∨ ¬ v ≤ 8) : sgY v t = 1 := by
  unfold sgY
  rw [if_pos (inV_out h)]
def RL9 (S : ES) (Z : ZT) : Prop := RL8 S Z ∧ ∀ j, j ≤ S.2.1 → ∀ q, 1 ≤ q → q < 61 → Z.2.2.2 1 (j * 61 + q) = if ((S.1 j).1 q).isSome = true then 1 else 0
-- the calls that change what is held
theorem c_sign9 (T : ST) (b : Int64) (v : Int32) (t : Nat) (Z : ZT) (S : ES) (f : FT) (g : GT) (hT : TI Z t f g) (hR : RL9 S Z) (Post : Int32 → FT → GT → Prop) (hq0 : ∀ n, v = nI n → 1 ≤ n → n ≤ 8 → t + n ≤ 400 → ∀ r f' g' Z', TI Z' (t + n) f' g' → RL9 (S.1, S.2.1, S.2.2.1, S.2.2.2.1, sgL b n t S.2.2.2.2) Z' → Post r f' g') (hq1 : ¬ sgY v t = 0 → ∀ r f' g' Z', TI Z' t f' g' → RL9 S Z' → Post r f' g') : mI T y_Mo_sign (Cond.code y_Mo_sign b_Mo_sign 5 (some .int)) 1 [.ref (ad T 0), .long b, .int v] f g Post := by
  refine c_sign T b v t f g hT.1.1 hT.2.1 Post ?_
  have g0 : g 0 = S.2.2.2.2 := (hT.1.2.2.2.2 0 (by decide)).trans hR.1.2.2.2.1
  split
  · intro m e1 e2 e3 e4
    have hT2 : TI Z t f g := hT
    refine hq0 m e1 e2 e3 e4 _ _ _ (Z.1, Z.2.1, Z.2.2.1, va_up g 0 (sgL b m t (g 0))) ⟨⟨rfl, hT.1.2.1, hT.1.2.2.1, hT.1.2.2.2.1, fun _ _ => rfl⟩, e4, hT.2.2.1, hT.2.2.2.1, hT.2.2.2.2.1, hT.2.2.2.2.2.1, hT.2.2.2.2.2.2.1, GI_free hT.2.2.2.2.2.2.2 (by decide) (by decide) (by decide) (by decide) (by decide) (by decide) (by decide)⟩ ?_
    obtain ⟨⟨r1, r2, r3, r4, r5, r6, r7, r8⟩, r9⟩ := hR
    refine ⟨⟨r1, r2, r3, ?_, sgL_nn b m t _ r5, r6, r7, fun j hj k h1 h2 => ?_⟩, fun j hj q h1 h2 => ?_⟩
    · show va_up g 0 (sgL b m t (g 0)) 0 = _; rw [up_same, g0]
    · show _ ↔ ¬ va_up g 0 (sgL b m t (g 0)) 9 (j * 10 + k) = 0
      rw [up_other _ _ (by decide), hT.1.2.2.2.2 9 (by decide)]
      exact r8 j hj k h1 h2
    · show va_up g 0 (sgL b m t (g 0)) 1 (j * 61 + q) = _
      rw [up_other _ _ (by decide), hT.1.2.2.2.2 1 (by decide)]
      exact r9 j hj q h1 h2
  · rename_i z
    exact hq1 z _ _ _ Z (TI_0 hT _) hR
theorem c_read9 (T : ST) (t : Nat) (Z : ZT) (S : ES) (f : FT) (g : GT) (hT : TI Z t f g) (hR : RL9 S Z) (Post : Int32 → FT → GT → Prop) (hqn : kTape false S.2.2.2.2 t = none → ∀ r f' g' Z', TI Z' 0 f' g' → RL9 (clS S) Z' → f' 0 = 1 → Post r f' g') (hq8 : ∀ R, kTape false S.2.2.2.2 t = some R → S.2.1 = 8 → ∀ r f' g' Z', TI Z' 0 f' g' → RL9 (clS S) Z' → f' 0 = 2 → Post r f' g') (hqs : ∀ R, kTape false S.2.2.2.2 t = some R → S.2.1 < 8 → ∀ f' g' Z', TI Z' 0 f' g' → RL9 (rdS S R) Z' → f' 0 = 0 → Post (szL (mgR (S.1 S.2.2.1) R).1 60 1 0) f' g') : mI T y_Mo_read (Cond.code y_Mo_read b_Mo_read 2 (some .int)) 6 [.ref (ad T 0)] f g Post := by
  obtain ⟨⟨h1, hz3, hz4, hz9, hzg⟩, ht, h3b, h4b, h9, h10, h12, hg⟩ := id hT
  obtain ⟨⟨r1, r2, r3, r4, r5, r6, r7, r8⟩, r9⟩ := hR
  have h3 : f 3 = nI S.2.1 := hz3.trans r1
  have h4 : f 4 = nI S.2.2.1 := hz4.trans r2
  have g0 : g 0 = S.2.2.2.2 := (hzg 0 (by decide)).trans r4
  have g9 : ∀ j, j ≤ S.2.1 → ∀ k, 1 ≤ k → k < 10 → (((S.1 j).2 k).isSome = true ↔ ¬ g 9 (j * 10 + k) = 0) := fun j hj k q1 q2 => by rw [hzg 9 (by decide)]; exact r8 j hj k q1 q2
  have g1 : ∀ j, j ≤ S.2.1 → ∀ q, 1 ≤ q → q < 61 → g 1 (j * 61 + q) = if ((S.1 j).1 q).isSome = true then 1 else 0 := fun j hj q q1 q2 => by rw [hzg 1 (by decide)]; exact r9 j hj q q1 q2
  have hG := GI_rdP (t := t) (d := f 7) (show S.2.2.1 ≤ 8 by omega) r6 hg
  obtain ⟨fr0, fr9⟩ := rd_frame (t := t) (d := f 7) (g := g) r7 r6
  obtain ⟨tp1, tp2⟩ := rd_tape (t := t) (d := f 7) (g := g) r7 r6 ht (by rw [g0]; exact r5)
  have fr1 := rd_frame1 (t := t) (d := f 7) (g := g) r7 r6
  have tq1 := rd_tape1 (t := t) (d := f 7) (g := g) r7 r6 ht (by rw [g0]; exact r5)
  refine c_read T f g t S.2.2.1 S.2.1 h1 ht h3 r6 h4 (by omega) _ ?_
  rw [g0] at tp1 tp2 tq1
  have old : ∀ (x y : Int32), x = nI S.2.1 → y = nI S.2.2.1 → RL9 (clS S) (x, y, 0, psG (rdP t S.2.2.1 S.2.1 (f 7) g)) := by
    intro x y hx hy
    refine ⟨⟨hx, hy, rfl, fr0.trans g0, r5, r6, r7, fun j hj k q1 q2 => ?_⟩, fun j hj q q1 q2 => ?_⟩
    · show _ ↔ ¬ psG (rdP t S.2.2.1 S.2.1 (f 7) g) 9 (j * 10 + k) = 0
      rw [fr9 j k hj q2]
      exact g9 j hj k q1 q2
    · show psG (rdP t S.2.2.1 S.2.1 (f 7) g) 1 (j * 61 + q) = _
      rw [fr1 j q hj q2]
      exact g1 j hj q q1 q2
  unfold rdQ
  split
  · rename_i w
    obtain ⟨R, hR⟩ : ∃ R, kTape false S.2.2.2.2 t = some R := by
      cases e : kTape false S.2.2.2.2 t with
      | none => exact absurd w (tp2 e)
      | some R => exact ⟨R, rfl⟩
    split
    · rename_i e8
      exact hq8 R hR e8 _ _ _ (nI S.2.1, nI S.2.2.1, 0, psG (rdP t S.2.2.1 S.2.1 (f 7) g)) ⟨⟨nI_0.symm, h3, h4, rfl, fun _ _ => rfl⟩, by decide, ⟨S.2.1, h3, r6⟩, ⟨S.2.2.1, h4, by omega⟩, Bd_0 9, h10, h12, hG⟩ (old _ _ rfl rfl) rfl
    · rename_i e8
      have qa : ∀ q, 1 ≤ q → q < 61 → psG (rdP t S.2.2.1 S.2.1 (f 7) g) 1 ((S.2.1 + 1) * 61 + q) = if ((mgR (S.1 S.2.2.1) R).1 q).isSome = true then 1 else 0 := by
        intro q q1 q2
        rw [tq1 R hR q q2]
        by_cases hz : (R.1 q).isSome = true
        · have hm : ((mgR (S.1 S.2.2.1) R).1 q).isSome = true := by
            unfold mgR
            dsimp only
            cases e : R.1 q with
            | none => rw [e] at hz; cases hz
            | some d => rfl
          rw [if_pos hz, if_pos hm]
        · have hm : (mgR (S.1 S.2.2.1) R).1 q = (S.1 S.2.2.1).1 q := by
            unfold mgR
            dsimp only
            cases e : R.1 q with
            | none => rfl
            | some d => rw [e] at hz; exact absurd rfl hz
          rw [if_neg hz, g1 _ r7 q q1 q2, hm]
          split
          · exact vnar1
          · exact vnar0
      rw [qL_sz (f := (mgR (S.1 S.2.2.1) R).1) (by omega) qa 60 1 0 (by decide) (by decide)]
      refine hqs R hR (by omega) _ _ (nI (S.2.1 + 1), nI (S.2.1 + 1), 0, psG (rdP t S.2.2.1 S.2.1 (f 7) g)) ⟨⟨nI_0.symm, rfl, rfl, rfl, fun _ _ => rfl⟩, by decide, ⟨S.2.1 + 1, rfl, by omega⟩, ⟨S.2.1 + 1, rfl, by omega⟩, Bd_0 9, h10, h12, hG⟩ ⟨⟨rfl, rfl, rfl, fr0.trans g0, r5, by show S.2.1 + 1 ≤ 8; omega, Nat.le_refl _, fun j hj k q1 q2 => ?_⟩, fun j hj q q1 q2 => ?_⟩ rfl
      · show ((va_up S.1 (S.2.1 + 1) (mgR (S.1 S.2.2.1) R) j).2 k).isSome = true ↔ ¬ psG (rdP t S.2.2.1 S.2.1 (f 7) g) 9 (j * 10 + k) = 0
        by_cases c : j = S.2.1 + 1
        · rw [c, up_same, (tp1 R hR).2 k q2]
          unfold mgR
          dsimp only
          cases e : R.2 k with
          | none => exact ⟨fun z => Or.inr ((g9 _ r7 k q1 q2).mp z), fun z => z.elim (fun y => (nomatch y)) (fun y => (g9 _ r7 k q1 q2).mpr y)⟩
          | some d => exact ⟨fun _ => Or.inl rfl, fun _ => rfl⟩
        · have hj : j ≤ S.2.1 + 1 := hj
          rw [up_other _ _ c, fr9 j k (by omega) q2]
          exact g9 j (by omega) k q1 q2
      · show psG (rdP t S.2.2.1 S.2.1 (f 7) g) 1 (j * 61 + q) = if ((va_up S.1 (S.2.1 + 1) (mgR (S.1 S.2.2.1) R) j).1 q).isSome = true then 1 else 0
        by_cases c : j = S.2.1 + 1
        · rw [c, up_same]
          exact qa q q1 q2
        · have hj : j ≤ S.2.1 + 1 := hj
          rw [up_other _ _ c, fr1 j q (by omega) q2]
          exact g1 j (by omega) q q1 q2
  · rename_i w
    have hk : kTape false S.2.2.2.2 t = none := by
      cases e : kTape false S.2.2.2.2 t with
      | none => rfl
      | some R => exact absurd (tp1 R e).1 w
    exact hqn hk _ _ _ (nI S.2.1, nI S.2.2.1, 0, psG (rdP t S.2.2.1 S.2.1 (f 7) g)) ⟨⟨nI_0.symm, h3, h4, rfl, fun _ _ => rfl⟩, by decide, ⟨S.2.1, h3, r6⟩, ⟨S.2.2.1, h4, by omega⟩, Bd_0 9, h10, h12, hG⟩ (old _ _ rfl rfl) rfl
theorem c_edition9 (T : ST) (v : Int32) (t : Nat) (Z : ZT) (S : ES) (f : FT) (g : GT) (hT : TI Z t f g) (hR : RL9 S Z) (Post : Int32 → FT → GT → Prop) (hq0 : ∀ j, v = nI j → j < 100 → j ≤ S.2.1 → ∀ f' g' Z', TI Z' t f' g' → RL9 (S.1, S.2.1, j, 0, S.2.2.2.2) Z' → f' 0 = 0 → Post (szL (S.1 j).1 60 1 0) f' g') (hq1 : (v < 0 ∨ ¬ v ≤ nI S.2.1) → ∀ r f' g' Z', TI Z' t f' g' → RL9 S Z' → f' 0 = 1 → Post r f' g') : mI T y_Mo_edition (Cond.code y_Mo_edition b_Mo_edition 2 (some .int)) 1 [.ref (ad T 0), .int v] f g Post := by
  obtain ⟨⟨h1, hz3, hz4, hz9, hzg⟩, ht, h3b, h4b, h9, h10, h12, hg⟩ := id hT
  obtain ⟨⟨r1, r2, r3, r4, r5, r6, r7, r8⟩, r9⟩ := id hR
  have h3 : f 3 = nI S.2.1 := hz3.trans r1
  refine c_edition T v Z t f g hT Post ?_
  split
  · rename_i z
    refine hq1 ?_ _ _ _ Z (TI_0 hT _) hR rfl
    rw [h3] at z
    by_cases y : v < 0
    · exact Or.inl y
    · refine Or.inr (fun y2 => ?_)
      unfold inV at z
      rw [if_neg y, if_neg (Int32.not_lt.mpr y2)] at z
      exact absurd z (by decide +kernel)
  · rename_i z
    have hz := inV_nz z
    rw [h3] at hz
    obtain ⟨j, hj, ej⟩ := nI_of (x := v) (fun q => absurd hz.1 (by rw [Int32.not_le]; exact q))
    subst ej
    have hj2 : j ≤ S.2.1 := (nI_leI hj (by omega)).mp hz.2
    rw [qL_sz (f := (S.1 j).1) (by omega) (fun q q1 q2 => by rw [hzg 1 (by decide)]; exact r9 j hj2 q q1 q2) 60 1 0 (by decide) (by decide)]
    refine hq0 j rfl (by omega) hj2 _ _ (Z.1, nI j, 0, Z.2.2.2) ⟨⟨h1, hz3, rfl, rfl, hzg⟩, ht, h3b, ⟨j, rfl, by omega⟩, Bd_0 9, h10, h12, hg⟩ ⟨⟨r1, rfl, rfl, r4, r5, r6, hj2, r8⟩, r9⟩ rfl
theorem c_first9 (T : ST) (v : Int32) (t : Nat) (Z : ZT) (S : ES) (f : FT) (g : GT) (hT : TI Z t f g) (hR : RL9 S Z) (Post : Int32 → FT → GT → Prop) (hq0 : ∀ j, v = nI j → 1 ≤ j → j ≤ 9 → ((S.1 S.2.2.1).2 j).isSome = true → ∀ r f' g' Z', TI Z' t f' g' → RL9 (S.1, S.2.1, S.2.2.1, v, S.2.2.2.2) Z' → Post r f' g') (hq1 : ((v < 1 ∨ ¬ v ≤ 9) ∨ ∃ j, v = nI j ∧ 1 ≤ j ∧ j ≤ 9 ∧ ((S.1 S.2.2.1).2 j) = none) → ∀ r f' g' Z', TI Z' t f' g' → RL9 S Z' → Post r f' g') : mI T y_Mo_first (Cond.code y_Mo_first b_Mo_first 3 (some .int)) 2 [.ref (ad T 0), .int v] f g Post := by
  obtain ⟨⟨h1, hz3, hz4, hz9, hzg⟩, ht, h3b, h4b, h9, h10, h12, hg⟩ := id hT
  obtain ⟨⟨r1, r2, r3, r4, r5, r6, r7, r8⟩, r9⟩ := id hR
  have h4 : f 4 = nI S.2.2.1 := hz4.trans r2
  have ei : ∀ q, q ≤ 9 → (((f 4) * 10) + nI q : Int32).toNatClampNeg = S.2.2.1 * 10 + q := fun q hq => by
    rw [h4]; exact nI_10 (by omega) (by omega)
  have le0 : ∀ q, g 9 q ≤ 0 ↔ g 9 q = 0 := fun q => by
    obtain ⟨m, em, hm⟩ := hg.2.2.2.1 q
    rw [em, ← nI_0, nI_leI (by omega) (by decide), nI_eq (by omega) (by decide)]
    omega
  refine c_firstW T v Z t f g hT Post (fun z => ?_) (fun q e q1 q2 z => ?_)
  · intro r f' hT'
    refine hq1 ?_ r f' g Z hT' hR
    by_cases y : v < 1 ∨ ¬ v ≤ 9
    · exact Or.inl y
    · right
      have y1 : ¬ v < 1 := fun q => y (Or.inl q)
      have y2 : v ≤ 9 := Classical.byContradiction (fun q => y (Or.inr q))
      obtain ⟨j, e, j1, j2⟩ := x_rng (M := 9) (by decide) y1 y2
      refine ⟨j, e, j1, j2, ?_⟩
      rcases z with z | z
      · unfold inV at z
        rw [if_neg y1, if_neg (Int32.not_lt.mpr y2)] at z
        exact absurd z (by decide +kernel)
      · rw [e, ei j j2, le0, hzg 9 (by decide)] at z
        cases hs : (S.1 S.2.2.1).2 j with
        | none => rfl
        | some d => exact absurd z ((r8 _ r7 j j1 (by omega)).mp (by rw [hs]; rfl))
  · intro r f' g' hT'
    rw [e, ei q q2, le0, hzg 9 (by decide)] at z
    exact hq0 q e q1 q2 ((r8 _ r7 q q1 (by omega)).mpr z) r f' g' _ hT' ⟨⟨r1, r2, rfl, r4, r5, r6, r7, r8⟩, r9⟩
