-- conditions, exactly
theorem isAL.recv {k : Nat → ClassId} {q : Nat} {xs : List Nat} {w : va_W} (h : isAL k q xs w) : ∃ (i : Nat) (fs : List Value), w[i]? = some (q, .inr (11, fs)) := by
  rcases h with ⟨-, m, rfl⟩ | ⟨-, -, m, e, f, rfl, -⟩
  · exact ⟨0, _, rfl⟩
  · exact ⟨0, _, rfl⟩
def isCo (k : Nat → ClassId) (P : va_W) (a : Nat) : Prop := ∃ l pr xs w, (a, (.inr (10, [.ref l, .int pr]) : va_E)) ∈ P ∧ isAL k l xs w ∧ Sub w P ∧ xs.length ≤ 4 ∧ ∀ x ∈ xs, isTe P x
def eCo (k : Nat → ClassId) (P : va_W) (a : Nat) (d : CD) : Prop := ∃ l xs w, (a, (.inr (10, [.ref l, .int d.2]) : va_E)) ∈ P ∧ isAL k l xs w ∧ Sub w P ∧ xs.length ≤ 4 ∧ A2 (eTe P) xs d.1
theorem isCo.mono {k : Nat → ClassId} {P P' : va_W} {a : Nat} (h : isCo k P a) (hs : Sub P P') : isCo k P' a := by
  obtain ⟨l, pr, xs, w, h1, h2, h3, h4, h5⟩ := h
  exact ⟨l, pr, xs, w, hs _ h1, h2, h3.tr hs, h4, fun x hx => (h5 x hx).mono hs⟩
theorem eCo.mono {k : Nat → ClassId} {P P' : va_W} {a : Nat} {d : CD} (h : eCo k P a d) (hs : Sub P P') : eCo k P' a d := by
  obtain ⟨l, xs, w, h1, h2, h3, h4, h5⟩ := h
  exact ⟨l, xs, w, hs _ h1, h2, h3.tr hs, h4, h5.mono (fun _ _ q => q.mono hs)⟩
theorem eCo.is {k : Nat → ClassId} {P : va_W} {a : Nat} {d : CD} (h : eCo k P a d) : isCo k P a := by
  obtain ⟨l, xs, w, h1, h2, h3, h4, h5⟩ := h
  exact ⟨l, _, xs, w, h1, h2, h3, h4, h5.all (fun _ _ q => q.is)⟩
theorem d_Co (T : ST) (q l : Nat) (y : Int32) (Post : va_W → Prop) (hq : Post [(q, .inr (10, [.ref l, .int y]))]) : uV T y_Co_init (Cond.code y_Co_init b_Co_init 3 none) 0 0 0 [.ref q, .ref l, .int y] [(q, .inr (10, [.null, .int 0]))] Post := by
  refine e_Co_init T Post l y q ?_
  rintro C rfl X
  exact k_Co_init_0 X Post l y q 0 0 ⟨by decide, by decide⟩ hq
-- a throw of a part of the parser, with a list beside it
theorem XT.beside {T : ST} {L : Nat} {g : GT} {P P1 Y : va_W} {F F1 : Prop} {E : String} {u : va_W} (h : XT T L g P1 F1 E u) (hF : F1 → F) (hs : Sub P P1) : XT T L g P F E (Y ++ u) := by
  obtain ⟨f1, e, x, P', hx, h1, h2⟩ := h
  refine ⟨hF f1, e, x, Y ++ P', hx, ?_, fun q hq => List.mem_append_right _ (h2 q (hs q hq))⟩
  exact (h1.append_left Y).trans (zp3 _ _ _)
theorem Sub.app {P w : va_W} : Sub P (w ++ P) := fun _ h => List.mem_append_right _ h
set_option maxHeartbeats 1000000 in
theorem d_readCondition (T : ST) (hlt : T.1.stackTraces = false) (L n : Nat) (g : GT) (P : va_W) (hL : L ≤ 400) (hn : n ≤ L) (Post : Option Nat → va_W → Prop) (hq : ∀ r n' a P', kCond false (g 0) L n = some (r, n') → n + 5 ≤ n' → n' ≤ L → Sub P P' → eCo T.2.2.2.1 P' a r → Post (some a) (TX T L (nI n') g ++ P')) : xR T y_TR_readCondition (Cond.code y_TR_readCondition b_TR_readCondition 3 (some (.object "QuestionText$Condition"))) 5 47 279 [.ref (ad T 20)] (TX T L (nI n) g ++ P) Post (XT T L g P (kCond false (g 0) L n = none)) := by
  refine e_TR_readCondition T hlt Post _ (tsX L (nI n)) g P ?_
  rintro C rfl X
  -- behind the terms
  have s52 : ∀ x1 x2 aw P1 xs ds m, kCond false (g 0) L n = kCend false (g 0) L ds m → isAL C.1.2.2.2.1 x1 xs aw → xs.length ≤ 4 → A2 (eTe P1) xs ds → Sub P P1 → n + 2 ≤ m → m ≤ L → zc_TR_readCondition C Post (XT C.1 L g P (kCond false (g 0) L n = none)) 41 247 52 [(0, .ref (ad C.1 20)), (1, .ref x1), (2, .int x2)] [] (TX C.1 L (nI m) g ++ (aw ++ P1)) := by
    intro x1 x2 aw P1 xs ds m hk hal hlen hte hsub hm1 hm2
    have hsub2 : Sub P (aw ++ P1) := hsub.tr Sub.app
    refine k_TR_readCondition_52 X Post _ (P_55 := fun u => ∃ m', kTake (g 0) L 58 m = some m' ∧ u = TX C.1 L (nI m') g) (X_55 := fun E u => kTake (g 0) L 58 m = none ∧ E = IAE ∧ ∃ m, m ≤ L ∧ u = TX C.1 L (nI m) g) x1 x2 aw (tsX L (nI m)) g P1 41 247 ⟨by decide, by decide⟩ ?_ ?_ ?_
    · exact d_tak _ X.2.2 58 L m g hL hm2 _ _ (fun m h => ⟨m, h, rfl⟩) (fun m hm h => ⟨h, rfl, m, hm, rfl⟩)
    · rintro u ⟨m1, h1, rfl⟩
      obtain ⟨hm3, hm4⟩ := kTake_lt h1 (by decide +kernel)
      refine k_TR_readCondition_58 X Post _ (P_62 := fun r u => ∃ v m', kNum false (g 0) L 0 9 m1 = some (v, m') ∧ r = nI v ∧ u = TX C.1 L (nI m') g) (X_62 := fun E u => kNum false (g 0) L 0 9 m1 = none ∧ E = IAE ∧ ∃ m, m ≤ L ∧ u = TX C.1 L (nI m) g) x1 x2 aw (tsX L (nI m1)) g P1 _ _ ⟨by decide, by decide⟩ ?_ ?_ ?_
      · exact d_num _ X.2.2 0 9 L m1 g hL hm4 _ _ (fun v m h => ⟨v, m, h, rfl, rfl⟩) (fun m hm h => ⟨h, rfl, m, hm, rfl⟩)
      · rintro _ u ⟨pr, m2, h2, rfl, rfl⟩
        obtain ⟨hm5, hm6, -, -⟩ := kNum_lt h2 hm4
        refine k_TR_readCondition_65 X Post _ (P_69 := fun u => ∃ m', kTake (g 0) L 41 m2 = some m' ∧ u = TX C.1 L (nI m') g) (X_69 := fun E u => kTake (g 0) L 41 m2 = none ∧ E = IAE ∧ ∃ m, m ≤ L ∧ u = TX C.1 L (nI m) g) x1 x2 (nI pr) aw (tsX L (nI m2)) g P1 _ _ ⟨by decide, by decide⟩ ?_ ?_ ?_
        · exact d_tak _ X.2.2 41 L m2 g hL hm6 _ _ (fun m h => ⟨m, h, rfl⟩) (fun m hm h => ⟨h, rfl, m, hm, rfl⟩)
        · rintro u ⟨m3, h3, rfl⟩
          obtain ⟨hm7, hm8⟩ := kTake_lt h3 (by decide +kernel)
          refine k_TR_readCondition_72 X Post _ (P_78 := fun w u => u = [(w, .inr (10, [.ref x1, .int (nI pr)]))]) x1 (nI pr) aw (tsX L (nI m3)) g P1 _ _ ⟨by decide, by decide⟩ (fun _ => ⟨by decide, by decide⟩) (fun w => d_Co _ w x1 (nI pr) _ rfl) ?_
          rintro w u rfl
          refine zW_perm (front_perm _ _ _) ?_
          refine k_TR_readCondition_81 X Post _ x1 (nI pr) w [] (tsX L (nI m3)) g ((w, .inr (10, [.ref x1, .int (nI pr)])) :: (aw ++ P1)) _ _ ⟨by decide, by decide⟩ ?_
          exact hq (ds, nI pr) m3 w _ (by simp only [hk, kCend, h1, h2, h3, Option.bind_some]) (by omega) hm8 (hsub2.tr Sub.cons) ⟨x1, xs, aw, List.mem_cons_self, hal, fun q hq => List.mem_cons_of_mem _ (List.mem_append_left _ hq), hlen, hte.mono (fun _ _ q => q.mono (Sub.app.tr Sub.cons))⟩
        · rintro E u ⟨h3, rfl, x, hx, rfl⟩
          exact XT.app (by simp only [hk, kCend, h1, h2, h3, Option.bind_some, Option.bind_none]) hx hsub2
      · rintro E u ⟨h2, rfl, x, hx, rfl⟩
        exact XT.app (by simp only [hk, kCend, h1, h2, Option.bind_some, Option.bind_none]) hx hsub2
    · rintro E u ⟨h1, rfl, x, hx, rfl⟩
      exact XT.app (by simp only [hk, kCend, h1, Option.bind_none]) hx hsub2
  -- the terms, from the second one on
  have loop : ∀ j c x1 aw P1 xs ds m, kCond false (g 0) L n = ((kTerms false (g 0) L j m ds).bind fun s => kCend false (g 0) L s.1 s.2) → j + c = 4 → 1 ≤ c → isAL C.1.2.2.2.1 x1 xs aw → xs.length = c → A2 (eTe P1) xs ds → Sub P P1 → n + 2 ≤ m → m ≤ L → zc_TR_readCondition C Post (XT C.1 L g P (kCond false (g 0) L n = none)) (1 + 10 * c) (3 + 61 * c) 21 [(0, .ref (ad C.1 20)), (1, .ref x1), (2, .int (nI c))] [] (TX C.1 L (nI m) g ++ (aw ++ P1)) := by
    intro j
    induction j with
    | zero =>
      intro c x1 aw P1 xs ds m hk hj hc hal hlen hte hsub hm1 hm2
      have h4 : (4 : Int32) ≤ nI c := (nI_leI (a := 4) (b := c) (by decide) (by omega)).mpr (by omega)
      exact k_TR_readCondition_21 X Post _ (P_29 := fun _ _ => True) x1 _ aw (tsX L (nI m)) g P1 _ _ (fun _ => zW_wide (by omega) (by omega) (s52 x1 _ aw P1 xs ds m hk hal (by omega) hte hsub hm1 hm2)) (fun z => absurd h4 z) (fun z => absurd h4 z) (fun z => absurd h4 z)
    | succ j ih =>
      intro c x1 aw P1 xs ds m hk hj hc hal hlen hte hsub hm1 hm2
      have h4 : ¬ (4 : Int32) ≤ nI c := fun z => absurd ((nI_leI (a := 4) (b := c) (by decide) (by omega)).mp z) (by omega)
      have h7 := sN_ge (g 0) L m
      have h8 := sN_le (g 0) hm2
      refine k_TR_readCondition_21 X Post _ (P_29 := fun r u => (r = 1 ∧ tp (g 0) L (sN (g 0) L m) = 38 ∧ u = TX C.1 L (nI (sN (g 0) L m + 1)) g) ∨ (r = 0 ∧ ¬ tp (g 0) L (sN (g 0) L m) = 38 ∧ u = TX C.1 L (nI (sN (g 0) L m)) g)) x1 _ aw (tsX L (nI m)) g P1 _ _ (fun z => absurd z h4) (fun _ => ⟨by omega, by omega⟩) (fun _ => ?_) ?_
      · refine d_took _ 38 L m g hL hm2 _ ?_
        split
        · rename_i z; exact Or.inl ⟨rfl, z, rfl⟩
        · rename_i z; exact Or.inr ⟨rfl, z, rfl⟩
      rintro _ r u (⟨rfl, z, rfl⟩ | ⟨rfl, z, rfl⟩)
      · have hm4 := tk_lt z (by decide +kernel)
        have hk2 : kCond false (g 0) L n = ((kTerm false (g 0) L (sN (g 0) L m + 1)).bind fun r => kTerms false (g 0) L j r.2 (ds ++ [r.1])).bind fun s => kCend false (g 0) L s.1 s.2 := by rw [hk, kTerms, if_pos z]
        refine k_TR_readCondition_32 X Post _ (P_37 := fun r u => ∃ d n' a P2, r = some a ∧ kTerm false (g 0) L (sN (g 0) L m + 1) = some (d, n') ∧ sN (g 0) L m + 1 + 3 ≤ n' ∧ n' ≤ L ∧ Sub P1 P2 ∧ eTe P2 a d ∧ u = TX C.1 L (nI n') g ++ P2) (X_37 := XT C.1 L g P1 (kTerm false (g 0) L (sN (g 0) L m + 1) = none)) x1 _ 1 aw (tsX L (nI (sN (g 0) L m + 1))) g P1 _ _ (fun y => absurd y (by decide +kernel)) (fun _ => ⟨by omega, by omega⟩) (fun _ => ?_) ?_ ?_
        · exact d_readTerm _ X.2.2 L _ g P1 hL hm4 _ (fun d n' a P2 h0 h1 h2 h3 h4 => ⟨d, n', a, P2, rfl, h0, h1, h2, h3, h4, rfl⟩)
        · rintro _ r u ⟨d, m2, a, P2, rfl, h0, hm5, hm6, hs2, hta, rfl⟩
          refine zW_perm (zp3 _ _ _) ?_
          refine k_TR_readCondition_40 X Post _ (P_40 := fun _ u => ∃ w', u.Perm (w' ++ P2) ∧ isAL C.1.2.2.2.1 x1 (xs ++ [a]) w') x1 _ a x1 aw (tsX L (nI m2)) g P2 _ _ ⟨by omega, by omega⟩ ?_ ?_ hal.recv
          · exact d_add_T _ x1 a xs _ aw P2 hta.1 hal (by omega)
          · rintro r u ⟨w', hp, hal'⟩
            refine zW_perm (hp.append_left _) ?_
            refine k_TR_readCondition_45 X Post _ x1 _ r w' (tsX L (nI m2)) g P2 _ _ ?_
            rw [nI_1]
            exact zW_wide (by omega) (by omega) (ih (c + 1) x1 w' P2 (xs ++ [a]) (ds ++ [d]) m2 (by rw [hk2, h0]; rfl) (by omega) (by omega) hal' (by simp [hlen]) (A2.snoc hta (hte.mono (fun _ _ q => q.mono hs2))) (hsub.tr hs2) (by omega) hm6)
        · intro _ E u h
          exact h.beside (fun h0 => by rw [hk2, h0]; rfl) hsub
      · have hk2 : kCond false (g 0) L n = kCend false (g 0) L ds (sN (g 0) L m) := by rw [hk]; unfold kTerms; rw [if_neg z]; rfl
        exact k_TR_readCondition_32 X Post _ (P_37 := fun _ _ => True) (X_37 := fun _ _ => True) x1 _ 0 aw (tsX L (nI (sN (g 0) L m))) g P1 _ _ (fun _ => zW_wide (by omega) (by omega) (s52 x1 _ aw P1 xs ds _ hk2 hal (by omega) hte hsub (by omega) h8)) (fun y => absurd rfl y) (fun y => absurd rfl y) (fun y => absurd rfl y) (fun y => absurd rfl y)
  refine k_TR_readCondition_0 X Post _ (P_4 := fun w u => u = [(w, .inr (11, [.int 0, .ref (C.1.2.2.2.1 7), .int 0]))]) (tsX L (nI n)) g P 0 0 ⟨by decide, by decide⟩ (fun _ => ⟨by decide, by decide⟩) (fun w => d_ALinit _ w _ rfl) ?_
  rintro w u rfl
  refine zW_perm (zp3 _ _ _) ?_
  have hal0 : isAL C.1.2.2.2.1 w [] [(w, .inr (11, [.int 0, .ref (C.1.2.2.2.1 7), .int 0]))] := Or.inl ⟨rfl, 0, rfl⟩
  refine k_TR_readCondition_7 X Post _ (P_10 := fun r u => ∃ d n' a P2, r = some a ∧ kTerm false (g 0) L n = some (d, n') ∧ n + 3 ≤ n' ∧ n' ≤ L ∧ Sub P P2 ∧ eTe P2 a d ∧ u = TX C.1 L (nI n') g ++ P2) (X_10 := XT C.1 L g P (kTerm false (g 0) L n = none)) w _ (tsX L (nI n)) g P _ _ ⟨by decide, by decide⟩ ?_ ?_ ?_
  · exact d_readTerm _ X.2.2 L n g P hL hn _ (fun d n' a P2 h0 h1 h2 h3 h4 => ⟨d, n', a, P2, rfl, h0, h1, h2, h3, h4, rfl⟩)
  · rintro r u ⟨d, m2, a, P2, rfl, h0, hm5, hm6, hs2, hta, rfl⟩
    refine zW_perm (zp3 _ _ _) ?_
    refine k_TR_readCondition_13 X Post _ (P_13 := fun _ u => ∃ w', u.Perm (w' ++ P2) ∧ isAL C.1.2.2.2.1 w ([] ++ [a]) w') w a w _ (tsX L (nI m2)) g P2 _ _ ⟨by decide, by decide⟩ ?_ ?_ hal0.recv
    · exact d_add_T _ w a [] _ _ P2 hta.1 hal0 (by decide)
    · rintro r u ⟨w', hp, hal'⟩
      refine zW_perm (hp.append_left _) ?_
      refine k_TR_readCondition_18 X Post _ w r w' (tsX L (nI m2)) g P2 _ _ ?_
      exact zW_wide (by decide) (by decide) (loop 3 1 w w' P2 _ [d] m2 (by unfold kCond; rw [h0]; rfl) rfl (by decide) hal' rfl ⟨hta, trivial⟩ hs2 (by omega) hm6)
  · intro E u h
    exact h.beside (fun h0 => by unfold kCond; rw [h0]; rfl) Sub.rf
