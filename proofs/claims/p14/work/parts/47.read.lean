-- reading the tape
theorem TX0 (T : ST) (L : Nat) (x : Int32) (g : GT) : s_t T.2.2.2.1 T.2.2.2.2 (va_up (tsX L x) 0 0) g = TX T 0 x g := by
  have h : va_up (tsX L x) 0 0 = tsX 0 x := by
    funext j
    by_cases h : j = 0
    · subst h; rw [up_same]; exact nI_0.symm
    · rw [up_other _ _ h]; unfold tsX; rw [if_neg h, if_neg h]
  rw [h]; rfl
theorem kNum_b {st : Bool} {g0 : Nat → Int32} {L n v m B : Nat} {a : Int32} (h : kNum st g0 L a (nI B) n = some (v, m)) (hB : B < 2 ^ 31) : v ≤ B := by
  unfold kNum at h
  split at h
  · rename_i q
    cases h
    have hv : (nR g0 L n).1 < 10000 := nmL_v g0 L 4 0 (sN g0 L n) 0 rfl (by decide)
    have h2 := (inV_nz q.1.2).2
    rw [nI_leI (by omega) hB] at h2
    exact h2
  · cases h
theorem kQues_congr {st : Bool} {g0 : Nat → Int32} {L n : Nat} {t1 t2 : Nat → Bool} (h : ∀ j, j < 61 → t1 j = t2 j) : kQues st g0 L t1 n = kQues st g0 L t2 n := by
  unfold kQues
  cases e : kNum st g0 L 1 60 n with
  | none => rfl
  | some q =>
    have hb : q.1 ≤ 60 := kNum_b (B := 60) (v := q.1) (m := q.2) e (by decide)
    show (if t1 q.1 = true then none else _) = (if t2 q.1 = true then none else _)
    rw [h q.1 (by omega)]
theorem kKind_congr {st : Bool} {g0 : Nat → Int32} {L n : Nat} {t1 t2 : Nat → Bool} (h : ∀ j, j < 10 → t1 j = t2 j) : kKind st g0 L t1 n = kKind st g0 L t2 n := by
  unfold kKind
  cases e : kNum st g0 L 1 9 n with
  | none => rfl
  | some q =>
    have hb : q.1 ≤ 9 := kNum_b (B := 9) (v := q.1) (m := q.2) e (by decide)
    show (if t1 q.1 = true then none else _) = (if t2 q.1 = true then none else _)
    rw [h q.1 (by omega)]
theorem nI_ne_m1 {m : Nat} (h : m ≤ 400) : ¬ nI m = -1 := by
  intro q
  have h1 : 0 ≤ nI m := nI_pos' (by omega)
  rw [q] at h1
  exact absurd h1 (by decide +kernel)
def rdT (k : Nat → ClassId) (g0 : Nat → Int32) (L : Nat) (v : Int32) (r : Nat → Nat → Option Nat) (P : va_W) : Prop := (v = -1 ∧ ∃ R, kTape false g0 L = some R ∧ RE k r P R) ∨ (¬ v = -1 ∧ kTape false g0 L = none)
set_option maxHeartbeats 1000000 in
theorem d_readTape (T : ST) (hlt : T.1.stackTraces = false) (L : Nat) (x : Int32) (g : GT) (r : Nat → Nat → Option Nat) (P : va_W) (hL : L ≤ 400) (hri : RI T.2.2.2.1 r P) (Post : Int32 → va_W → Prop) (hq : ∀ v x r' P', Sub P P' → RI T.2.2.2.1 r' P' → rdT T.2.2.2.1 (g 0) L v r' P' → Post v (TX T 0 x g ++ (RX T r' ++ P'))) : uI T y_TR_readTape (Cond.codeWith y_TR_readTape b_TR_readTape 3 (some .int) [(11, 60, 63, 55)]) 7 (304 * (L / 7 + 1)) (1824 * (L / 7 + 1)) [.ref (ad T 20)] (TX T L x g ++ (RX T r ++ P)) Post := by
  refine e_TR_readTape T hlt Post (tsX L x) g r P _ _ ?_
  rintro C rfl X
  have s69 : ∀ c s v x r' P', c ≤ 304 * (L / 7 + 1) → s ≤ 1824 * (L / 7 + 1) → Sub P P' → RI C.1.2.2.2.1 r' P' → rdT C.1.2.2.2.1 (g 0) L v r' P' → zc_TR_readTape C Post (304 * (L / 7 + 1)) (1824 * (L / 7 + 1)) c s 69 [(0, .ref (ad C.1 20)), (1, .int v)] [] (TX C.1 L x g ++ (RX C.1 r' ++ P')) := by
    intro c s v x r' P' hc hs h1 h2 h3
    refine k_TR_readTape_69 X Post v (tsX L x) g r' P' _ _ c s ⟨hc, hs⟩ ?_
    rw [TX0]
    exact hq v x r' P' h1 h2 h3
  have s63 : ∀ c s x1 x2 q u, c ≤ 304 * (L / 7 + 1) → s ≤ 1824 * (L / 7 + 1) → kTape false (g 0) L = none → (∃ m r' P', m ≤ L ∧ u.Perm (TX C.1 L (nI m) g ++ (RX C.1 r' ++ P')) ∧ Sub P P' ∧ RI C.1.2.2.2.1 r' P') → zc_TR_readTape C Post (304 * (L / 7 + 1)) (1824 * (L / 7 + 1)) c s 63 [(0, .ref (ad C.1 20)), (1, .int x1), (2, .int x2)] [.ref q] u := by
    rintro c s x1 x2 q u hc hs hk ⟨x, r', P', hx, hp, h1, h2⟩
    refine zW_perm hp ?_
    exact k_TR_readTape_63 X Post x1 x2 q (tsX L (nI x)) g r' P' _ _ c s (s69 c s _ (nI x) r' P' hc hs h1 h2 (Or.inr ⟨nI_ne_m1 (show x ≤ 400 by omega), hk⟩))
  have loop : ∀ k ρ m r' P' R, kTape false (g 0) L = kRows false (g 0) L k m R → RE C.1.2.2.2.1 r' P' R → k + ρ = 400 → 7 * ρ ≤ m → m ≤ L → Sub P P' → RI C.1.2.2.2.1 r' P' → zc_TR_readTape C Post (304 * (L / 7 + 1)) (1824 * (L / 7 + 1)) (304 * ρ) (1824 * ρ) 13 [(0, .ref (ad C.1 20)), (1, .int (-1)), (2, .int (nI ρ))] [] (TX C.1 L (nI m) g ++ (RX C.1 r' ++ P')) := by
    intro k
    induction k with
    | zero => intro ρ m r' P' R _ _ h1 h2 h3; omega
    | succ k ih =>
      intro ρ m r' P' R hkr hre hk hρ hm hsub hri
      have h7 := sN_ge (g 0) L m
      have hm2 := sN_le (g 0) hm
      have h7b := sN_ge (g 0) L (sN (g 0) L m)
      have hm4 := sN_le (g 0) hm2
      have hb : 304 * ρ + 304 ≤ 304 * (L / 7 + 1) := by omega
      have hb2 : 1824 * ρ + 1824 ≤ 1824 * (L / 7 + 1) := by omega
      have h4 : ¬ (400 : Int32) ≤ nI ρ := fun z => absurd ((nI_leI (a := 400) (b := ρ) (by decide) (by omega)).mp z) (by omega)
      have s60 : ∀ m', tp (g 0) L (sN (g 0) L m) = -1 → zc_TR_readTape C Post (304 * (L / 7 + 1)) (1824 * (L / 7 + 1)) (304 * ρ) (1824 * ρ) 60 [(0, .ref (ad C.1 20)), (1, .int (-1)), (2, .int (nI ρ))] [] (TX C.1 L (nI m') g ++ (RX C.1 r' ++ P')) := fun m' z => k_TR_readTape_60 X Post (-1) (nI ρ) (tsX L (nI m')) g r' P' _ _ _ _ (s69 _ _ _ _ r' P' (by omega) (by omega) hsub hri (Or.inl ⟨rfl, R, by rw [hkr]; unfold kRows; rw [if_pos z], hre⟩))
      have s54 : ∀ m' r2 P2 R2, kTape false (g 0) L = kRows false (g 0) L k m' R2 → RE C.1.2.2.2.1 r2 P2 R2 → m + 7 ≤ m' → m' ≤ L → Sub P P2 → RI C.1.2.2.2.1 r2 P2 → zc_TR_readTape C Post (304 * (L / 7 + 1)) (1824 * (L / 7 + 1)) (304 * ρ + 304) (1824 * ρ + 1824) 54 [(0, .ref (ad C.1 20)), (1, .int (-1)), (2, .int (nI ρ))] [] (TX C.1 L (nI m') g ++ (RX C.1 r2 ++ P2)) := by
        intro m' r2 P2 R2 h0 h00 h1 h2 h3 h4
        refine k_TR_readTape_54 X Post (-1) (nI ρ) (tsX L (nI m')) g r2 P2 _ _ _ _ ?_
        rw [nI_1]
        exact zW_wide (by omega) (by omega) (ih (ρ + 1) m' r2 P2 R2 h0 h00 (by omega) (by omega) h2 h3 h4)
      refine k_TR_readTape_13 X Post (P_21 := fun y u => y = tp (g 0) L (sN (g 0) L m) ∧ u = TX C.1 L (nI (sN (g 0) L m)) g) (-1) (nI ρ) (tsX L (nI m)) g r' P' _ _ _ _ (fun z => absurd z h4) (fun _ => ⟨by omega, by omega⟩) (fun _ => d_nextSign _ L m g hL hm _ ⟨rfl, rfl⟩) ?_
      rintro _ y u ⟨rfl, rfl⟩
      refine k_TR_readTape_24 X Post (P_31 := fun y u => (y = 1 ∧ tp (g 0) L (sN (g 0) L (sN (g 0) L m)) = 113 ∧ u = TX C.1 L (nI (sN (g 0) L (sN (g 0) L m) + 1)) g) ∨ (y = 0 ∧ ¬ tp (g 0) L (sN (g 0) L (sN (g 0) L m)) = 113 ∧ u = TX C.1 L (nI (sN (g 0) L (sN (g 0) L m))) g)) (-1) (nI ρ) _ (tsX L (nI (sN (g 0) L m))) g r' P' _ _ _ _ (fun z => s60 _ z) (fun _ => ⟨by omega, by omega⟩) (fun _ => ?_) ?_
      · refine d_took _ 113 L _ g hL hm2 _ ?_
        split
        · rename_i z; exact Or.inl ⟨rfl, z, rfl⟩
        · rename_i z; exact Or.inr ⟨rfl, z, rfl⟩
      have hne : ∀ z : ¬ tp (g 0) L (sN (g 0) L m) = -1, kTape false (g 0) L = (kRow false (g 0) L R (sN (g 0) L m)).bind fun q => kRows false (g 0) L k q.2 q.1 := fun z => by rw [hkr, kRows, if_neg z]
      rintro zn y u (⟨rfl, z, rfl⟩ | ⟨rfl, z, rfl⟩)
      · have hm5 := tk_lt z (by decide +kernel)
        have hk2 : kTape false (g 0) L = ((kQues false (g 0) L (fun j => (r' 0 j).isSome) (sN (g 0) L (sN (g 0) L m) + 1)).bind fun q => some ((va_up R.1 q.1 (some q.2.1), R.2), q.2.2)).bind fun q => kRows false (g 0) L k q.2 q.1 := by
          rw [hne zn, kQues_congr (t2 := fun j => (R.1 j).isSome) (fun j hj => hre.t0 hj), kRow, if_pos z]
        refine k_TR_readTape_34 X Post (P_47 := fun _ => True) (X_47 := fun _ _ => True) (P_38 := fun u => ∃ j d n' a P2, kQues false (g 0) L (fun j => (r' 0 j).isSome) (sN (g 0) L (sN (g 0) L m) + 1) = some (j, d, n') ∧ sN (g 0) L (sN (g 0) L m) + 1 + 11 ≤ n' ∧ n' ≤ L ∧ Sub P' P2 ∧ eQu C.1.2.2.2.1 P2 a d ∧ u = TX C.1 L (nI n') g ++ (RX C.1 (va_up r' 0 (va_up (r' 0) j (some a))) ++ P2)) (X_38 := XK C.1 L g r' P' (kQues false (g 0) L (fun j => (r' 0 j).isSome) (sN (g 0) L (sN (g 0) L m) + 1) = none)) (-1) (nI ρ) 1 (tsX L (nI (sN (g 0) L (sN (g 0) L m) + 1))) g r' P' _ _ _ _ (fun y => absurd y (by decide +kernel)) (fun y => absurd y (by decide +kernel)) (fun y => absurd y (by decide +kernel)) (fun y => absurd y (by decide +kernel)) (fun _ => ⟨by omega, by omega⟩) (fun _ => ?_) ?_ ?_
        · exact d_readQuestion _ X.2.2 L _ g r' P' hL hm5 _ (fun j d n' a P2 h0 h1 h2 h3 h4 h5 => ⟨j, d, n', a, P2, h0, h2, h3, h4, h5, rfl⟩)
        · rintro _ u ⟨j, d, n', a, P2, h0, h1, h2, h3, h4, rfl⟩
          refine k_TR_readTape_41 X Post (-1) (nI ρ) (tsX L (nI n')) g _ P2 _ _ _ _ ?_
          exact zW_wide (by omega) (by omega) (s54 n' _ P2 (va_up R.1 j (some d), R.2) (by rw [hk2, h0]; rfl) ((hre.mono h3).qu j h4) (by omega) h2 (hsub.tr h3) ((hri.mono h3).qu j h4.is))
        · rintro _ E u ⟨h0, rfl, x, P2, hx, hp, hs⟩
          exact ⟨rfl, fun q9 => s63 _ _ _ _ q9 u (by omega) (by omega) (by rw [hk2, h0]; rfl) ⟨x, r', P2, hx, hp, hsub.tr hs, hri.mono hs⟩⟩
      · have hk2 : kTape false (g 0) L = ((kTake (g 0) L 107 (sN (g 0) L (sN (g 0) L m))).bind fun m => (kKind false (g 0) L (fun j => (r' 1 j).isSome) m).bind fun q => some ((R.1, va_up R.2 q.1 (some q.2.1)), q.2.2)).bind fun q => kRows false (g 0) L k q.2 q.1 := by
          rw [hne zn, kRow, if_neg z]
          have e9 : ∀ m, kKind false (g 0) L (fun j => (r' 1 j).isSome) m = kKind false (g 0) L (fun j => (R.2 j).isSome) m := fun m => kKind_congr (fun j hj => hre.t1 hj)
          simp only [e9]
        refine k_TR_readTape_34 X Post (P_47 := fun u => ∃ m', kTake (g 0) L 107 (sN (g 0) L (sN (g 0) L m)) = some m' ∧ u = TX C.1 L (nI m') g) (X_47 := fun E u => kTake (g 0) L 107 (sN (g 0) L (sN (g 0) L m)) = none ∧ E = IAE ∧ ∃ m, m ≤ L ∧ u = TX C.1 L (nI m) g) (P_38 := fun _ => True) (X_38 := fun _ _ => True) (-1) (nI ρ) 0 (tsX L (nI (sN (g 0) L (sN (g 0) L m)))) g r' P' _ _ _ _ (fun _ => ⟨by omega, by omega⟩) (fun _ => ?_) ?_ ?_ (fun y => absurd rfl y) (fun y => absurd rfl y) (fun y => absurd rfl y) (fun y => absurd rfl y)
        · exact d_tak _ X.2.2 107 L _ g hL hm4 _ _ (fun m h => ⟨m, h, rfl⟩) (fun m hm h => ⟨h, rfl, m, hm, rfl⟩)
        · rintro _ u ⟨m3, h1, rfl⟩
          obtain ⟨hm5, hm6⟩ := kTake_lt h1 (by decide +kernel)
          refine k_TR_readTape_50 X Post (P_51 := fun u => ∃ j d n' a P2, kKind false (g 0) L (fun j => (r' 1 j).isSome) m3 = some (j, d, n') ∧ m3 + 6 ≤ n' ∧ n' ≤ L ∧ Sub P' P2 ∧ eKi C.1.2.2.2.1 P2 a d ∧ u = TX C.1 L (nI n') g ++ (RX C.1 (va_up r' 1 (va_up (r' 1) j (some a))) ++ P2)) (X_51 := XK C.1 L g r' P' (kKind false (g 0) L (fun j => (r' 1 j).isSome) m3 = none)) (-1) (nI ρ) (tsX L (nI m3)) g r' P' _ _ _ _ ⟨by omega, by omega⟩ ?_ ?_ ?_
          · exact d_readKind _ X.2.2 L m3 g r' P' hL hm6 _ (fun j d n' a P2 h0 h1 h2 h3 h4 h5 => ⟨j, d, n', a, P2, h0, h2, h3, h4, h5, rfl⟩)
          · rintro u ⟨j, d, n', a, P2, h0, h2, h3, h4, h5, rfl⟩
            exact zW_wide (by omega) (by omega) (s54 n' _ P2 (R.1, va_up R.2 j (some d)) (by rw [hk2, h1]; show ((kKind false (g 0) L (fun j => (r' 1 j).isSome) m3).bind _).bind _ = _; rw [h0]; rfl) ((hre.mono h4).ki j h5) (by omega) h3 (hsub.tr h4) ((hri.mono h4).ki j h5.is))
          · rintro E u ⟨h0, rfl, x, P2, hx, hp, hs⟩
            exact ⟨rfl, fun q9 => s63 _ _ _ _ q9 u (by omega) (by omega) (by rw [hk2, h1]; show ((kKind false (g 0) L (fun j => (r' 1 j).isSome) m3).bind _).bind _ = _; rw [h0]; rfl) ⟨x, r', P2, hx, hp, hsub.tr hs, hri.mono hs⟩⟩
        · rintro _ E u ⟨h1, rfl, x, hx, rfl⟩
          exact ⟨rfl, fun q9 => s63 _ _ _ _ q9 _ (by omega) (by omega) (by rw [hk2, h1]; rfl) ⟨x, r', P', hx, List.Perm.refl _, hsub, hri⟩⟩
  refine k_TR_readTape_0 X Post (P_1 := fun u => ∃ r' : Nat → Nat → Option Nat, (∀ j, j < 61 → r' 0 j = none) ∧ (∀ j, j < 10 → r' 1 j = none) ∧ (∀ i j a, r' i j = some a → r i j = some a) ∧ u = TX C.1 L x g ++ RX C.1 r') (tsX L x) g r P _ _ 0 0 ⟨Nat.zero_le _, Nat.zero_le _⟩ ?_ ?_
  · exact d_forgetRows _ (tsX L x) g r _ (fun r' h1 h2 h => ⟨r', h1, h2, h, rfl⟩)
  rintro u ⟨r', hn0, hn1, hr', rfl⟩
  refine zW_perm (ws' := TX C.1 L x g ++ (RX C.1 r' ++ P)) (by rw [List.append_assoc]) ?_
  refine k_TR_readTape_4 X Post (tsX L x) g r' P _ _ 0 0 ?_
  rw [← nI_0]
  exact loop 400 0 0 r' P (fun _ => none, fun _ => none) rfl ⟨fun j hj => Or.inl ⟨hn0 j hj, rfl⟩, fun j hj => Or.inl ⟨hn1 j hj, rfl⟩⟩ rfl (by decide) (Nat.zero_le _) Sub.rf ⟨fun j a e => hri.1 j a (hr' 0 j a e), fun j a e => hri.2 j a (hr' 1 j a e)⟩
