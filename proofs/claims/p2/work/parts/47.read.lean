-- reading the tape
theorem TX0 (T : ST) (L : Nat) (x : Int32) (g : GT) : s_t T.2.2.2.1 T.2.2.2.2 (va_up (tsX L x) 0 0) g = TX T 0 x g := by
  have h : va_up (tsX L x) 0 0 = tsX 0 x := by
    funext j
    by_cases h : j = 0
    · subst h; rw [up_same]; exact nI_0.symm
    · rw [up_other _ _ h]; unfold tsX; rw [if_neg h, if_neg h]
  rw [h]; rfl
set_option maxHeartbeats 1000000 in
theorem d_readTape (T : ST) (hlt : T.1.stackTraces = false) (L : Nat) (x : Int32) (g : GT) (r : Nat → Nat → Option Nat) (P : va_W) (hL : L ≤ 400) (hri : RI T.2.2.2.1 r P) (Post : Int32 → va_W → Prop) (hq : ∀ v x r' P', Sub P P' → RI T.2.2.2.1 r' P' → Post v (TX T 0 x g ++ (RX T r' ++ P'))) : uI T y_TR_readTape (Cond.codeWith y_TR_readTape b_TR_readTape 3 (some .int) [(11, 60, 63, 55)]) 7 (304 * (L / 7 + 1)) (1824 * (L / 7 + 1)) [.ref (ad T 20)] (TX T L x g ++ (RX T r ++ P)) Post := by
  refine e_TR_readTape T hlt Post (tsX L x) g r P _ _ ?_
  rintro C rfl X
  have s69 : ∀ c s v x r' P', c ≤ 304 * (L / 7 + 1) → s ≤ 1824 * (L / 7 + 1) → Sub P P' → RI C.1.2.2.2.1 r' P' → zc_TR_readTape C Post (304 * (L / 7 + 1)) (1824 * (L / 7 + 1)) c s 69 [(0, .ref (ad C.1 20)), (1, .int v)] [] (TX C.1 L x g ++ (RX C.1 r' ++ P')) := by
    intro c s v x r' P' hc hs h1 h2
    refine k_TR_readTape_69 X Post v (tsX L x) g r' P' _ _ c s ⟨hc, hs⟩ ?_
    rw [TX0]
    exact hq v x r' P' h1 h2
  have s63 : ∀ c s x1 x2 q u, c ≤ 304 * (L / 7 + 1) → s ≤ 1824 * (L / 7 + 1) → (∃ x r' P', u.Perm (TX C.1 L x g ++ (RX C.1 r' ++ P')) ∧ Sub P P' ∧ RI C.1.2.2.2.1 r' P') → zc_TR_readTape C Post (304 * (L / 7 + 1)) (1824 * (L / 7 + 1)) c s 63 [(0, .ref (ad C.1 20)), (1, .int x1), (2, .int x2)] [.ref q] u := by
    rintro c s x1 x2 q u hc hs ⟨x, r', P', hp, h1, h2⟩
    refine zW_perm hp ?_
    exact k_TR_readTape_63 X Post x1 x2 q (tsX L x) g r' P' _ _ c s (s69 c s _ x r' P' hc hs h1 h2)
  have loop : ∀ k ρ m r' P', k + ρ = 400 → 7 * ρ ≤ m → m ≤ L → Sub P P' → RI C.1.2.2.2.1 r' P' → zc_TR_readTape C Post (304 * (L / 7 + 1)) (1824 * (L / 7 + 1)) (304 * ρ) (1824 * ρ) 13 [(0, .ref (ad C.1 20)), (1, .int (-1)), (2, .int (nI ρ))] [] (TX C.1 L (nI m) g ++ (RX C.1 r' ++ P')) := by
    intro k
    induction k with
    | zero => intro ρ m r' P' h1 h2 h3; omega
    | succ k ih =>
      intro ρ m r' P' hk hρ hm hsub hri
      have hb : 304 * ρ + 304 ≤ 304 * (L / 7 + 1) := by omega
      have hb2 : 1824 * ρ + 1824 ≤ 1824 * (L / 7 + 1) := by omega
      have h4 : ¬ (400 : Int32) ≤ nI ρ := fun z => absurd ((nI_leI (a := 400) (b := ρ) (by decide) (by omega)).mp z) (by omega)
      have s60 : ∀ m', zc_TR_readTape C Post (304 * (L / 7 + 1)) (1824 * (L / 7 + 1)) (304 * ρ) (1824 * ρ) 60 [(0, .ref (ad C.1 20)), (1, .int (-1)), (2, .int (nI ρ))] [] (TX C.1 L (nI m') g ++ (RX C.1 r' ++ P')) := fun m' => k_TR_readTape_60 X Post (-1) (nI ρ) (tsX L (nI m')) g r' P' _ _ _ _ (s69 _ _ _ _ r' P' (by omega) (by omega) hsub hri)
      have s54 : ∀ m' r2 P2, m + 7 ≤ m' → m' ≤ L → Sub P P2 → RI C.1.2.2.2.1 r2 P2 → zc_TR_readTape C Post (304 * (L / 7 + 1)) (1824 * (L / 7 + 1)) (304 * ρ + 304) (1824 * ρ + 1824) 54 [(0, .ref (ad C.1 20)), (1, .int (-1)), (2, .int (nI ρ))] [] (TX C.1 L (nI m') g ++ (RX C.1 r2 ++ P2)) := by
        intro m' r2 P2 h1 h2 h3 h4
        refine k_TR_readTape_54 X Post (-1) (nI ρ) (tsX L (nI m')) g r2 P2 _ _ _ _ ?_
        rw [nI_1]
        exact zW_wide (by omega) (by omega) (ih (ρ + 1) m' r2 P2 (by omega) (by omega) h2 h3 h4)
      refine k_TR_readTape_13 X Post (P_21 := fun _ u => ∃ m', m ≤ m' ∧ m' ≤ L ∧ u = TX C.1 L (nI m') g) (-1) (nI ρ) (tsX L (nI m)) g r' P' _ _ _ _ (fun z => absurd z h4) (fun _ => ⟨by omega, by omega⟩) (fun _ => d_nextSign _ L m g hL hm _ ⟨_, sN_ge _ _ _, sN_le _ hm, rfl⟩) ?_
      rintro _ y u ⟨m1, hm1, hm2, rfl⟩
      refine k_TR_readTape_24 X Post (P_31 := fun y u => (y = 1 ∨ y = 0) ∧ ∃ m', m1 ≤ m' ∧ m' ≤ L ∧ u = TX C.1 L (nI m') g) (-1) (nI ρ) y (tsX L (nI m1)) g r' P' _ _ _ _ (fun _ => s60 m1) (fun _ => ⟨by omega, by omega⟩) (fun _ => ?_) ?_
      · refine d_took _ 113 L m1 g hL hm2 _ ?_
        have h1 := sN_ge (g 0) L m1
        split
        · rename_i z; exact ⟨Or.inl rfl, _, by omega, tk_lt z (by decide +kernel), rfl⟩
        · exact ⟨Or.inr rfl, _, h1, sN_le _ hm2, rfl⟩
      rintro _ y u ⟨hy, m2, hm3, hm4, rfl⟩
      refine k_TR_readTape_34 X Post (P_47 := fun u => ∃ m', m2 + 1 ≤ m' ∧ m' ≤ L ∧ u = TX C.1 L (nI m') g) (X_47 := fun E u => E = IAE ∧ ∃ x, u = TX C.1 L x g) (P_38 := fun u => ∃ n' j a P2, m2 + 11 ≤ n' ∧ n' ≤ L ∧ Sub P' P2 ∧ isQu C.1.2.2.2.1 P2 a ∧ u = TX C.1 L (nI n') g ++ (RX C.1 (va_up r' 0 (va_up (r' 0) j (some a))) ++ P2)) (X_38 := XK C.1 L g r' P') (-1) (nI ρ) y (tsX L (nI m2)) g r' P' _ _ _ _ (fun _ => ⟨by omega, by omega⟩) (fun _ => ?_) ?_ ?_ (fun _ => ⟨by omega, by omega⟩) (fun _ => ?_) ?_ ?_
      · exact d_take _ X.2.2 107 L m2 g hL hm4 _ _ (fun h => ⟨_, Nat.succ_le_succ (sN_ge _ _ _), tk_lt h (by decide +kernel), rfl⟩) (fun _ => ⟨rfl, _, rfl⟩)
      · rintro _ u ⟨m3, hm5, hm6, rfl⟩
        refine k_TR_readTape_50 X Post (P_51 := fun u => ∃ n' j a P2, m3 + 6 ≤ n' ∧ n' ≤ L ∧ Sub P' P2 ∧ isKi C.1.2.2.2.1 P2 a ∧ u = TX C.1 L (nI n') g ++ (RX C.1 (va_up r' 1 (va_up (r' 1) j (some a))) ++ P2)) (X_51 := XK C.1 L g r' P') (-1) (nI ρ) (tsX L (nI m3)) g r' P' _ _ _ _ ⟨by omega, by omega⟩ ?_ ?_ ?_
        · exact d_readKind _ X.2.2 L m3 g r' P' hL hm6 _ (fun n' j a P2 h1 h2 h3 h4 => ⟨n', j, a, P2, h1, h2, h3, h4, rfl⟩)
        · rintro u ⟨n', j, a, P2, h1, h2, h3, h4, rfl⟩
          exact zW_wide (by omega) (by omega) (s54 n' _ P2 (by omega) h2 (hsub.tr h3) ((hri.mono h3).ki j h4))
        · rintro E u ⟨rfl, x, P2, hp, hs⟩
          exact ⟨rfl, fun q9 => s63 _ _ _ _ q9 u (by omega) (by omega) ⟨x, r', P2, hp, hsub.tr hs, hri.mono hs⟩⟩
      · rintro _ E u ⟨rfl, x, rfl⟩
        exact ⟨rfl, fun q9 => s63 _ _ _ _ q9 _ (by omega) (by omega) ⟨x, r', P', List.Perm.refl _, hsub, hri⟩⟩
      · exact d_readQuestion _ X.2.2 L m2 g r' P' hL hm4 _ (fun n' j a P2 h1 h2 h3 h4 => ⟨n', j, a, P2, h1, h2, h3, h4, rfl⟩)
      · rintro _ u ⟨n', j, a, P2, h1, h2, h3, h4, rfl⟩
        refine k_TR_readTape_41 X Post (-1) (nI ρ) (tsX L (nI n')) g _ P2 _ _ _ _ ?_
        exact zW_wide (by omega) (by omega) (s54 n' _ P2 (by omega) h2 (hsub.tr h3) ((hri.mono h3).qu j h4))
      · rintro _ E u ⟨rfl, x, P2, hp, hs⟩
        exact ⟨rfl, fun q9 => s63 _ _ _ _ q9 u (by omega) (by omega) ⟨x, r', P2, hp, hsub.tr hs, hri.mono hs⟩⟩
  refine k_TR_readTape_0 X Post (P_1 := fun u => ∃ r' : Nat → Nat → Option Nat, (∀ i j a, r' i j = some a → r i j = some a) ∧ u = TX C.1 L x g ++ RX C.1 r') (tsX L x) g r P _ _ 0 0 ⟨Nat.zero_le _, Nat.zero_le _⟩ ?_ ?_
  · exact d_forgetRows _ (tsX L x) g r _ (fun r' _ _ h => ⟨r', h, rfl⟩)
  rintro u ⟨r', hr', rfl⟩
  refine zW_perm (ws' := TX C.1 L x g ++ (RX C.1 r' ++ P)) (by rw [List.append_assoc]) ?_
  refine k_TR_readTape_4 X Post (tsX L x) g r' P _ _ 0 0 ?_
  rw [← nI_0]
  exact loop 400 0 0 r' P rfl (by decide) (Nat.zero_le _) Sub.rf ⟨fun j a e => hri.1 j a (hr' 0 j a e), fun j a e => hri.2 j a (hr' 1 j a e)⟩
