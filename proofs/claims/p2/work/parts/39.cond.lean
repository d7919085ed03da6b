-- conditions
theorem isAL.recv {k : Nat → ClassId} {q : Nat} {xs : List Nat} {w : va_W} (h : isAL k q xs w) : ∃ (i : Nat) (fs : List Value), w[i]? = some (q, .inr (11, fs)) := by
  rcases h with ⟨-, m, rfl⟩ | ⟨-, -, m, e, f, rfl, -⟩
  · exact ⟨0, _, rfl⟩
  · exact ⟨0, _, rfl⟩
def isCo (k : Nat → ClassId) (P : va_W) (a : Nat) : Prop := ∃ l pr xs w, (a, (.inr (10, [.ref l, .int pr]) : va_E)) ∈ P ∧ isAL k l xs w ∧ Sub w P ∧ xs.length ≤ 4 ∧ ∀ x ∈ xs, isTe P x
theorem isCo.mono {k : Nat → ClassId} {P P' : va_W} {a : Nat} (h : isCo k P a) (hs : Sub P P') : isCo k P' a := by
  obtain ⟨l, pr, xs, w, h1, h2, h3, h4, h5⟩ := h
  exact ⟨l, pr, xs, w, hs _ h1, h2, h3.tr hs, h4, fun x hx => (h5 x hx).mono hs⟩
theorem d_Co (T : ST) (q l : Nat) (y : Int32) (Post : va_W → Prop) (hq : Post [(q, .inr (10, [.ref l, .int y]))]) : uV T y_Co_init (Cond.code y_Co_init b_Co_init 3 none) 0 0 0 [.ref q, .ref l, .int y] [(q, .inr (10, [.null, .int 0]))] Post := by
  refine e_Co_init T Post l y q ?_
  rintro C rfl X
  exact k_Co_init_0 X Post l y q 0 0 ⟨by decide, by decide⟩ hq
-- a throw of a part of the parser, with a list beside it
theorem XT.beside {T : ST} {L : Nat} {g : GT} {P P1 Y : va_W} {E : String} {u : va_W} (h : XT T L g P1 E u) (hs : Sub P P1) : XT T L g P E (Y ++ u) := by
  obtain ⟨e, x, P', h1, h2⟩ := h
  refine ⟨e, x, Y ++ P', ?_, fun q hq => List.mem_append_right _ (h2 q (hs q hq))⟩
  exact (h1.append_left Y).trans (zp3 _ _ _)
theorem XT.behind {T : ST} {L : Nat} {g : GT} {P Y : va_W} {x : Int32} (h : Sub P Y) : XT T L g P IAE (TX T L x g ++ Y) := XT.app h
theorem Sub.app {P w : va_W} : Sub P (w ++ P) := fun _ h => List.mem_append_right _ h
set_option maxHeartbeats 1000000 in
theorem d_readCondition (T : ST) (hlt : T.1.stackTraces = false) (L n : Nat) (g : GT) (P : va_W) (hL : L ≤ 400) (hn : n ≤ L) (Post : Option Nat → va_W → Prop) (hq : ∀ n' a P', n + 5 ≤ n' → n' ≤ L → Sub P P' → isCo T.2.2.2.1 P' a → Post (some a) (TX T L (nI n') g ++ P')) : xR T y_TR_readCondition (Cond.code y_TR_readCondition b_TR_readCondition 3 (some (.object "QuestionText$Condition"))) 5 47 279 [.ref (ad T 20)] (TX T L (nI n) g ++ P) Post (XT T L g P) := by
  refine e_TR_readCondition T hlt Post (XT T L g P) (tsX L (nI n)) g P ?_
  rintro C rfl X
  -- behind the terms
  have s52 : ∀ x1 x2 aw P1 xs m, isAL C.1.2.2.2.1 x1 xs aw → xs.length ≤ 4 → (∀ x ∈ xs, isTe P1 x) → Sub P P1 → n + 2 ≤ m → m ≤ L → zc_TR_readCondition C Post (XT C.1 L g P) 41 247 52 [(0, .ref (ad C.1 20)), (1, .ref x1), (2, .int x2)] [] (TX C.1 L (nI m) g ++ (aw ++ P1)) := by
    intro x1 x2 aw P1 xs m hal hlen hte hsub hm1 hm2
    have hsub2 : Sub P (aw ++ P1) := hsub.tr Sub.app
    refine k_TR_readCondition_52 X Post _ (P_55 := fun u => ∃ m', m + 1 ≤ m' ∧ m' ≤ L ∧ u = TX C.1 L (nI m') g) (X_55 := fun E u => E = IAE ∧ ∃ x, u = TX C.1 L x g) x1 x2 aw (tsX L (nI m)) g P1 41 247 ⟨by decide, by decide⟩ ?_ ?_ ?_
    · exact d_take _ X.2.2 58 L m g hL hm2 _ _ (fun h => ⟨_, Nat.succ_le_succ (sN_ge _ _ _), tk_lt h (by decide +kernel), rfl⟩) (fun _ => ⟨rfl, _, rfl⟩)
    · rintro u ⟨m1, hm3, hm4, rfl⟩
      refine k_TR_readCondition_58 X Post _ (P_62 := fun r u => ∃ m', m1 + 1 ≤ m' ∧ m' ≤ L ∧ u = TX C.1 L (nI m') g) (X_62 := fun E u => E = IAE ∧ ∃ x, u = TX C.1 L x g) x1 x2 aw (tsX L (nI m1)) g P1 _ _ ⟨by decide, by decide⟩ ?_ ?_ ?_
      · exact d_readNumber _ X.2.2 0 9 L m1 g hL hm4 _ _ (fun h => ⟨_, nOK_ge h, nR_le _ hm4, rfl⟩) (fun x _ => ⟨rfl, x, rfl⟩)
      · rintro pr u ⟨m2, hm5, hm6, rfl⟩
        refine k_TR_readCondition_65 X Post _ (P_69 := fun u => ∃ m', m2 + 1 ≤ m' ∧ m' ≤ L ∧ u = TX C.1 L (nI m') g) (X_69 := fun E u => E = IAE ∧ ∃ x, u = TX C.1 L x g) x1 x2 pr aw (tsX L (nI m2)) g P1 _ _ ⟨by decide, by decide⟩ ?_ ?_ ?_
        · exact d_take _ X.2.2 41 L m2 g hL hm6 _ _ (fun h => ⟨_, Nat.succ_le_succ (sN_ge _ _ _), tk_lt h (by decide +kernel), rfl⟩) (fun _ => ⟨rfl, _, rfl⟩)
        · rintro u ⟨m3, hm7, hm8, rfl⟩
          refine k_TR_readCondition_72 X Post _ (P_78 := fun w u => u = [(w, .inr (10, [.ref x1, .int pr]))]) x1 pr aw (tsX L (nI m3)) g P1 _ _ ⟨by decide, by decide⟩ (fun _ => ⟨by decide, by decide⟩) (fun w => d_Co _ w x1 pr _ rfl) ?_
          rintro w u rfl
          refine zW_perm (front_perm _ _ _) ?_
          refine k_TR_readCondition_81 X Post _ x1 pr w [] (tsX L (nI m3)) g ((w, .inr (10, [.ref x1, .int pr])) :: (aw ++ P1)) _ _ ⟨by decide, by decide⟩ ?_
          exact hq m3 w _ (by omega) hm8 (hsub2.tr Sub.cons) ⟨x1, pr, xs, aw, List.mem_cons_self, hal, fun q hq => List.mem_cons_of_mem _ (List.mem_append_left _ hq), hlen, fun x hx => (hte x hx).mono (Sub.app.tr Sub.cons)⟩
        · rintro E u ⟨rfl, x, rfl⟩
          exact XT.app hsub2
      · rintro E u ⟨rfl, x, rfl⟩
        exact XT.app hsub2
    · rintro E u ⟨rfl, x, rfl⟩
      exact XT.app hsub2
  -- the terms, from the second one on
  have loop : ∀ j c x1 aw P1 xs m, j + c = 4 → 1 ≤ c → isAL C.1.2.2.2.1 x1 xs aw → xs.length = c → (∀ x ∈ xs, isTe P1 x) → Sub P P1 → n + 2 ≤ m → m ≤ L → zc_TR_readCondition C Post (XT C.1 L g P) (1 + 10 * c) (3 + 61 * c) 21 [(0, .ref (ad C.1 20)), (1, .ref x1), (2, .int (nI c))] [] (TX C.1 L (nI m) g ++ (aw ++ P1)) := by
    intro j
    induction j with
    | zero =>
      intro c x1 aw P1 xs m hj hc hal hlen hte hsub hm1 hm2
      have h4 : (4 : Int32) ≤ nI c := (nI_leI (a := 4) (b := c) (by decide) (by omega)).mpr (by omega)
      exact k_TR_readCondition_21 X Post _ (P_29 := fun _ _ => True) x1 _ aw (tsX L (nI m)) g P1 _ _ (fun _ => zW_wide (by omega) (by omega) (s52 x1 _ aw P1 xs m hal (by omega) hte hsub hm1 hm2)) (fun z => absurd h4 z) (fun z => absurd h4 z) (fun z => absurd h4 z)
    | succ j ih =>
      intro c x1 aw P1 xs m hj hc hal hlen hte hsub hm1 hm2
      have h4 : ¬ (4 : Int32) ≤ nI c := fun z => absurd ((nI_leI (a := 4) (b := c) (by decide) (by omega)).mp z) (by omega)
      refine k_TR_readCondition_21 X Post _ (P_29 := fun r u => ∃ m', m ≤ m' ∧ m' ≤ L ∧ u = TX C.1 L (nI m') g) x1 _ aw (tsX L (nI m)) g P1 _ _ (fun z => absurd z h4) (fun _ => ⟨by omega, by omega⟩) (fun _ => ?_) ?_
      · refine d_took _ 38 L m g hL hm2 _ ?_
        have h1 := sN_ge (g 0) L m
        split
        · rename_i z; exact ⟨_, by omega, tk_lt z (by decide +kernel), rfl⟩
        · exact ⟨_, h1, sN_le _ hm2, rfl⟩
      rintro _ r u ⟨m1, hm3, hm4, rfl⟩
      refine k_TR_readCondition_32 X Post _ (P_37 := fun r u => ∃ n' a P2, r = some a ∧ m1 + 3 ≤ n' ∧ n' ≤ L ∧ Sub P1 P2 ∧ isTe P2 a ∧ u = TX C.1 L (nI n') g ++ P2) (X_37 := XT C.1 L g P1) x1 _ r aw (tsX L (nI m1)) g P1 _ _ (fun _ => zW_wide (by omega) (by omega) (s52 x1 _ aw P1 xs m1 hal (by omega) hte hsub (by omega) hm4)) (fun _ => ⟨by omega, by omega⟩) (fun _ => ?_) ?_ ?_
      · exact d_readTerm _ X.2.2 L m1 g P1 hL hm4 _ (fun n' a P2 h1 h2 h3 h4 => ⟨n', a, P2, rfl, h1, h2, h3, h4, rfl⟩)
      · rintro _ r u ⟨m2, a, P2, rfl, hm5, hm6, hs2, hta, rfl⟩
        refine zW_perm (zp3 _ _ _) ?_
        obtain ⟨z1, z2, z3, hmem, -⟩ := id hta
        refine k_TR_readCondition_40 X Post _ (P_40 := fun _ u => ∃ w', u.Perm (w' ++ P2) ∧ isAL C.1.2.2.2.1 x1 (xs ++ [a]) w') x1 _ a x1 aw (tsX L (nI m2)) g P2 _ _ ⟨by omega, by omega⟩ ?_ ?_ hal.recv
        · exact d_add_T _ x1 a xs _ aw P2 hmem hal (by omega)
        · rintro r u ⟨w', hp, hal'⟩
          refine zW_perm (hp.append_left _) ?_
          refine k_TR_readCondition_45 X Post _ x1 _ r w' (tsX L (nI m2)) g P2 _ _ ?_
          rw [nI_1]
          refine zW_wide (by omega) (by omega) (ih (c + 1) x1 w' P2 (xs ++ [a]) m2 (by omega) (by omega) hal' (by simp [hlen]) ?_ (hsub.tr hs2) (by omega) hm6)
          intro x hx
          rcases List.mem_append.mp hx with h | h
          · exact (hte x h).mono hs2
          · rw [List.mem_singleton.mp h]; exact hta
      · intro _ E u h
        exact h.beside hsub
  refine k_TR_readCondition_0 X Post _ (P_4 := fun w u => u = [(w, .inr (11, [.int 0, .ref (C.1.2.2.2.1 7), .int 0]))]) (tsX L (nI n)) g P 0 0 ⟨by decide, by decide⟩ (fun _ => ⟨by decide, by decide⟩) (fun w => d_ALinit _ w _ rfl) ?_
  rintro w u rfl
  refine zW_perm (zp3 _ _ _) ?_
  have hal0 : isAL C.1.2.2.2.1 w [] [(w, .inr (11, [.int 0, .ref (C.1.2.2.2.1 7), .int 0]))] := Or.inl ⟨rfl, 0, rfl⟩
  refine k_TR_readCondition_7 X Post _ (P_10 := fun r u => ∃ n' a P2, r = some a ∧ n + 3 ≤ n' ∧ n' ≤ L ∧ Sub P P2 ∧ isTe P2 a ∧ u = TX C.1 L (nI n') g ++ P2) (X_10 := XT C.1 L g P) w _ (tsX L (nI n)) g P _ _ ⟨by decide, by decide⟩ ?_ ?_ ?_
  · exact d_readTerm _ X.2.2 L n g P hL hn _ (fun n' a P2 h1 h2 h3 h4 => ⟨n', a, P2, rfl, h1, h2, h3, h4, rfl⟩)
  · rintro r u ⟨m2, a, P2, rfl, hm5, hm6, hs2, hta, rfl⟩
    refine zW_perm (zp3 _ _ _) ?_
    obtain ⟨z1, z2, z3, hmem, -⟩ := id hta
    refine k_TR_readCondition_13 X Post _ (P_13 := fun _ u => ∃ w', u.Perm (w' ++ P2) ∧ isAL C.1.2.2.2.1 w ([] ++ [a]) w') w a w _ (tsX L (nI m2)) g P2 _ _ ⟨by decide, by decide⟩ ?_ ?_ hal0.recv
    · exact d_add_T _ w a [] _ _ P2 hmem hal0 (by decide)
    · rintro r u ⟨w', hp, hal'⟩
      refine zW_perm (hp.append_left _) ?_
      refine k_TR_readCondition_18 X Post _ w r w' (tsX L (nI m2)) g P2 _ _ ?_
      refine zW_wide (by decide) (by decide) (loop 3 1 w w' P2 _ m2 rfl (by decide) hal' rfl ?_ hs2 (by omega) hm6)
      intro x hx
      rw [List.mem_singleton.mp hx]; exact hta
  · intro E u h
    exact h.beside Sub.rf
