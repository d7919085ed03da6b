-- what lies in the pool: spans, jumps, terms
def isSp (P : va_W) (a : Nat) : Prop := ∃ lo hi, (a, (.inr (7, [.int lo, .int hi]) : va_E)) ∈ P
def isJu (P : va_W) (a : Nat) : Prop := ∃ sp t p, (a, (.inr (8, [.ref sp, .int t, .int p]) : va_E)) ∈ P ∧ isSp P sp ∧ Bd 60 t
def isTe (P : va_W) (a : Nat) : Prop := ∃ ab r v, (a, (.inr (9, [.int ab, .int r, .int v]) : va_E)) ∈ P ∧ Bd 60 ab
def Sub (P P' : va_W) : Prop := ∀ q ∈ P, q ∈ P'
theorem Sub.rf {P : va_W} : Sub P P := fun _ h => h
theorem Sub.tr {P Q R : va_W} (h1 : Sub P Q) (h2 : Sub Q R) : Sub P R := fun q h => h2 q (h1 q h)
theorem Sub.cons {P : va_W} {x : Nat × va_E} : Sub P (x :: P) := fun _ h => List.mem_cons_of_mem _ h
theorem isSp.mono {P P' : va_W} {a : Nat} (h : isSp P a) (hs : Sub P P') : isSp P' a := by
  obtain ⟨lo, hi, h⟩ := h; exact ⟨lo, hi, hs _ h⟩
theorem isJu.mono {P P' : va_W} {a : Nat} (h : isJu P a) (hs : Sub P P') : isJu P' a := by
  obtain ⟨sp, t, p, h, h1, h2⟩ := h; exact ⟨sp, t, p, hs _ h, h1.mono hs, h2⟩
theorem isTe.mono {P P' : va_W} {a : Nat} (h : isTe P a) (hs : Sub P P') : isTe P' a := by
  obtain ⟨x, y, z, h, h1⟩ := h; exact ⟨x, y, z, hs _ h, h1⟩
-- what a throw of the parser leaves
def XT (T : ST) (L : Nat) (g : GT) (P : va_W) : String → va_W → Prop := fun E u => E = IAE ∧ ∃ x P', u.Perm (TX T L x g ++ P') ∧ Sub P P'
theorem XT.app {T : ST} {L : Nat} {g : GT} {P Y : va_W} {x : Int32} (h : Sub P Y) : XT T L g P IAE (TX T L x g ++ Y) := ⟨rfl, x, Y, List.Perm.refl _, h⟩
theorem XT.front {T : ST} {L : Nat} {g : GT} {P Y X : va_W} {x : Int32} (h : Sub P Y) : XT T L g P IAE (X ++ (TX T L x g ++ Y)) := by
  refine ⟨rfl, x, X ++ Y, ?_, fun q hq => List.mem_append_right _ (h q hq)⟩
  rw [← List.append_assoc, ← List.append_assoc]
  exact List.perm_append_comm.append_right Y
theorem XT.mono {T : ST} {L : Nat} {g : GT} {P P1 : va_W} {E : String} {u : va_W} (h : XT T L g P1 E u) (hs : Sub P P1) : XT T L g P E u := by
  obtain ⟨e, x, P', h1, h2⟩ := h; exact ⟨e, x, P', h1, hs.tr h2⟩
theorem front_perm (x : Nat × va_E) (X P : va_W) : ([x] ++ (X ++ P)).Perm (X ++ (x :: P)) := by
  show (x :: (X ++ P)).Perm (X ++ (x :: P))
  exact List.perm_middle.symm
theorem nOK_ge {g0 : Nat → Int32} {L n : Nat} {a b : Int32} (h : nOK g0 L a b n) : n + 1 ≤ (nR g0 L n).2.1 := Nat.le_trans (Nat.succ_le_succ (sN_ge g0 L n)) (nmL_one g0 L _ h.1)
theorem nOK_bd {g0 : Nat → Int32} {L n A B : Nat} (h : nOK g0 L (nI A) (nI B) n) (hB : B < 2 ^ 31) : Bd B (nI (nR g0 L n).1) := by
  have hv := nmL_v g0 L 4 0 (sN g0 L n) 0 rfl (by decide)
  have h2 := (inV_nz h.2).2
  rw [nI_leI (by show (nmL g0 L 4 0 (sN g0 L n) 0).1 < 2 ^ 31; omega) hB] at h2
  exact ⟨_, rfl, h2⟩
theorem tk_lt {g0 : Nat → Int32} {L n : Nat} {c : Int32} (h : tp g0 L (sN g0 L n) = c) (hc : c ≠ -1) : sN g0 L n + 1 ≤ L := tp_lt (g0 := g0) (by rw [h]; exact hc)
theorem d_Sp (T : ST) (q : Nat) (x y : Int32) (Post : va_W → Prop) (hq : Post [(q, .inr (7, [.int x, .int y]))]) : uV T y_Sp_init (Cond.code y_Sp_init b_Sp_init 3 none) 0 0 0 [.ref q, .int x, .int y] [(q, .inr (7, [.int 0, .int 0]))] Post := by
  refine e_Sp_init T Post x y q ?_
  rintro C rfl X
  exact k_Sp_init_0 X Post x y q 0 0 ⟨by decide, by decide⟩ hq
theorem d_Ju (T : ST) (q sp : Nat) (x y : Int32) (Post : va_W → Prop) (hq : Post [(q, .inr (8, [.ref sp, .int x, .int y]))]) : uV T y_Ju_init (Cond.code y_Ju_init b_Ju_init 4 none) 0 0 0 [.ref q, .ref sp, .int x, .int y] [(q, .inr (8, [.null, .int 0, .int 0]))] Post := by
  refine e_Ju_init T Post sp x y q ?_
  rintro C rfl X
  exact k_Ju_init_0 X Post sp x y q 0 0 ⟨by decide, by decide⟩ hq
theorem d_Te (T : ST) (q : Nat) (x y z : Int32) (Post : va_W → Prop) (hq : Post [(q, .inr (9, [.int x, .int y, .int z]))]) : uV T y_Te_init (Cond.code y_Te_init b_Te_init 4 none) 0 0 0 [.ref q, .int x, .int y, .int z] [(q, .inr (9, [.int 0, .int 0, .int 0]))] Post := by
  refine e_Te_init T Post x y z q ?_
  rintro C rfl X
  exact k_Te_init_0 X Post x y z q 0 0 ⟨by decide, by decide⟩ hq
set_option maxHeartbeats 1000000 in
theorem d_readSpan (T : ST) (hlt : T.1.stackTraces = false) (L n : Nat) (g : GT) (P : va_W) (hL : L ≤ 400) (hn : n ≤ L) (Post : Option Nat → va_W → Prop) (hq : ∀ n' a P', n + 3 ≤ n' → n' ≤ L → Sub P P' → isSp P' a → Post (some a) (TX T L (nI n') g ++ P')) : xR T y_TR_readSpan (Cond.code y_TR_readSpan b_TR_readSpan 2 (some (.object "QuestionText$Span"))) 2 8 44 [.ref (ad T 20)] (TX T L (nI n) g ++ P) Post (XT T L g P) := by
  refine e_TR_readSpan T hlt Post (XT T L g P) (tsX L (nI n)) g P ?_
  rintro C rfl X
  refine k_TR_readSpan_0 X Post _ (P_5 := fun r u => ∃ m, n + 1 ≤ m ∧ m ≤ L ∧ u = TX C.1 L (nI m) g) (X_5 := fun E u => E = IAE ∧ ∃ x, u = TX C.1 L x g) (tsX L (nI n)) g P 0 0 ⟨by decide, by decide⟩ ?_ ?_ ?_
  · exact d_readNumber _ X.2.2 0 9999 L n g hL hn _ _ (fun h => ⟨_, nOK_ge h, nR_le _ hn, rfl⟩) (fun x _ => ⟨rfl, x, rfl⟩)
  · rintro lo u ⟨m, hm1, hm2, rfl⟩
    refine k_TR_readSpan_8 X Post _ (P_12 := fun u => ∃ m', m + 1 ≤ m' ∧ m' ≤ L ∧ u = TX C.1 L (nI m') g) (X_12 := fun E u => E = IAE ∧ ∃ x, u = TX C.1 L x g) lo (tsX L (nI m)) g P 3 18 ⟨by decide, by decide⟩ ?_ ?_ ?_
    · exact d_take _ X.2.2 45 L m g hL hm2 _ _ (fun h => ⟨_, Nat.succ_le_succ (sN_ge _ _ _), tk_lt h (by decide +kernel), rfl⟩) (fun _ => ⟨rfl, _, rfl⟩)
    · rintro u ⟨m', hm3, hm4, rfl⟩
      refine k_TR_readSpan_15 X Post _ (P_25 := fun _ r u => ∃ m2, m' + 1 ≤ m2 ∧ m2 ≤ L ∧ u = TX C.1 L (nI m2) g) (X_25 := fun _ E u => E = IAE ∧ ∃ x, u = TX C.1 L x g) lo (tsX L (nI m')) g P (3 + 1) (18 + 6) ⟨by decide, by decide⟩ (fun _ => ⟨by decide, by decide⟩) (fun _ => ?_) ?_ ?_
      · exact d_readNumber _ X.2.2 lo 9999 L m' g hL hm4 _ _ (fun h => ⟨_, nOK_ge h, nR_le _ hm4, rfl⟩) (fun x _ => ⟨rfl, x, rfl⟩)
      · rintro w hi u ⟨m2, hm5, hm6, rfl⟩
        refine k_TR_readSpan_28 X Post _ (P_28 := fun u => u = [(w, .inr (7, [.int lo, .int hi]))]) lo hi lo w (tsX L (nI m2)) g P (3 + 1 + 1 + 3) (18 + 6 + 2 + 18) ⟨by decide, by decide⟩ ?_ ?_
        · exact d_Sp _ w lo hi _ rfl
        · rintro u rfl
          refine zW_perm (front_perm _ _ _) ?_
          exact k_TR_readSpan_31 X Post _ lo w (tsX L (nI m2)) g ((w, .inr (7, [.int lo, .int hi])) :: P) _ _ ⟨by decide, by decide⟩ (hq m2 w _ (by omega) hm6 Sub.cons ⟨lo, hi, List.mem_cons_self⟩)
      · rintro w E u ⟨rfl, x, rfl⟩
        exact XT.front Sub.rf
    · rintro E u ⟨rfl, x, rfl⟩
      exact XT.app Sub.rf
  · rintro E u ⟨rfl, x, rfl⟩
    exact XT.app Sub.rf
set_option maxHeartbeats 1000000 in
theorem d_readJump (T : ST) (hlt : T.1.stackTraces = false) (sp L n : Nat) (g : GT) (P : va_W) (hL : L ≤ 400) (hn : n ≤ L) (hsp : isSp P sp) (Post : Option Nat → va_W → Prop) (hq : ∀ n' a P', n + 2 ≤ n' → n' ≤ L → Sub P P' → isJu P' a → Post (some a) (TX T L (nI n') g ++ P')) : xR T y_TR_readJump (Cond.code y_TR_readJump b_TR_readJump 4 (some (.object "QuestionText$Jump"))) 2 8 45 [.ref (ad T 20), .ref sp] (TX T L (nI n) g ++ P) Post (XT T L g P) := by
  refine e_TR_readJump T hlt Post (XT T L g P) sp (tsX L (nI n)) g P ?_
  rintro C rfl X
  have fin : ∀ t p m, Bd 60 t → n + 2 ≤ m → m ≤ L → zc_TR_readJump C Post (XT C.1 L g P) 7 42 35 [(0, .ref (ad C.1 20)), (1, .ref sp), (2, .int t)] [.int p] (TX C.1 L (nI m) g ++ P) := by
    intro t p m ht hm1 hm2
    refine k_TR_readJump_35 X Post _ (P_43 := fun w u => u = [(w, .inr (8, [.ref sp, .int t, .int p]))]) sp t p (tsX L (nI m)) g P 7 42 ⟨by decide, by decide⟩ (fun _ => ⟨by decide, by decide⟩) ?_ ?_
    · intro w; exact d_Ju _ w sp t p _ rfl
    · rintro w u rfl
      refine zW_perm (front_perm _ _ _) ?_
      exact k_TR_readJump_46 X Post _ sp t p w (tsX L (nI m)) g ((w, .inr (8, [.ref sp, .int t, .int p])) :: P) _ _ ⟨by decide, by decide⟩ (hq m w _ (by omega) hm2 Sub.cons ⟨sp, t, p, List.mem_cons_self, hsp.mono Sub.cons, ht⟩)
  refine k_TR_readJump_0 X Post _ (P_3 := fun u => ∃ m', n + 1 ≤ m' ∧ m' ≤ L ∧ u = TX C.1 L (nI m') g) (X_3 := fun E u => E = IAE ∧ ∃ x, u = TX C.1 L x g) sp (tsX L (nI n)) g P 0 0 ⟨by decide, by decide⟩ ?_ ?_ ?_
  · exact d_take _ X.2.2 62 L n g hL hn _ _ (fun h => ⟨_, Nat.succ_le_succ (sN_ge _ _ _), tk_lt h (by decide +kernel), rfl⟩) (fun _ => ⟨rfl, _, rfl⟩)
  · rintro u ⟨m, hm1, hm2, rfl⟩
    refine k_TR_readJump_6 X Post _ (P_10 := fun r u => Bd 60 r ∧ ∃ m', m + 1 ≤ m' ∧ m' ≤ L ∧ u = TX C.1 L (nI m') g) (X_10 := fun E u => E = IAE ∧ ∃ x, u = TX C.1 L x g) sp (tsX L (nI m)) g P 1 6 ⟨by decide, by decide⟩ ?_ ?_ ?_
    · exact d_readNumber _ X.2.2 0 60 L m g hL hm2 _ _ (fun h => ⟨nOK_bd (A := 0) (B := 60) h (by decide), _, nOK_ge h, nR_le _ hm2, rfl⟩) (fun x _ => ⟨rfl, x, rfl⟩)
    · rintro t u ⟨ht, m2, hm3, hm4, rfl⟩
      refine k_TR_readJump_13 X Post _ (P_17 := fun r u => ∃ m', m2 ≤ m' ∧ m' ≤ L ∧ u = TX C.1 L (nI m') g) sp t (tsX L (nI m2)) g P (1 + 3) (6 + 18) ⟨by decide, by decide⟩ ?_ ?_
      · refine d_took _ 43 L m2 g hL hm4 _ ?_
        have h1 := sN_ge (g 0) L m2
        split
        · rename_i z; exact ⟨_, by omega, tk_lt z (by decide +kernel), rfl⟩
        · exact ⟨_, h1, sN_le _ hm4, rfl⟩
      · rintro r u ⟨m3, hm5, hm6, rfl⟩
        refine k_TR_readJump_20 X Post _ (P_28 := fun r u => ∃ m', m3 + 1 ≤ m' ∧ m' ≤ L ∧ u = TX C.1 L (nI m') g) (X_28 := fun E u => E = IAE ∧ ∃ x, u = TX C.1 L x g) sp t r (tsX L (nI m3)) g P (1 + 3) (6 + 18) (fun _ => zW_wide (by decide) (by decide) (fin t 0 m3 ht (by omega) hm6)) (fun _ => ⟨by decide, by decide⟩) (fun _ => ?_) ?_ ?_
        · exact d_readNumber _ X.2.2 0 999 L m3 g hL hm6 _ _ (fun h => ⟨_, nOK_ge h, nR_le _ hm6, rfl⟩) (fun x _ => ⟨rfl, x, rfl⟩)
        · rintro _ p u ⟨m4, hm7, hm8, rfl⟩
          exact k_TR_readJump_31 X Post _ sp t p (tsX L (nI m4)) g P _ _ (fin t p m4 ht (by omega) hm8)
        · rintro _ E u ⟨rfl, x, rfl⟩
          exact XT.app Sub.rf
    · rintro E u ⟨rfl, x, rfl⟩
      exact XT.app Sub.rf
  · rintro E u ⟨rfl, x, rfl⟩
    exact XT.app Sub.rf
set_option maxHeartbeats 1000000 in
theorem d_readTerm (T : ST) (hlt : T.1.stackTraces = false) (L n : Nat) (g : GT) (P : va_W) (hL : L ≤ 400) (hn : n ≤ L) (Post : Option Nat → va_W → Prop) (hq : ∀ n' a P', n + 3 ≤ n' → n' ≤ L → Sub P P' → isTe P' a → Post (some a) (TX T L (nI n') g ++ P')) : xR T y_TR_readTerm (Cond.code y_TR_readTerm b_TR_readTerm 3 (some (.object "QuestionText$Term"))) 2 9 51 [.ref (ad T 20)] (TX T L (nI n) g ++ P) Post (XT T L g P) := by
  refine e_TR_readTerm T hlt Post (XT T L g P) (tsX L (nI n)) g P ?_
  rintro C rfl X
  -- behind the relation
  have s60 : ∀ ab r m, Bd 60 ab → n + 1 ≤ m → m + 1 ≤ L → zc_TR_readTerm C Post (XT C.1 L g P) 5 30 60 [(0, .ref (ad C.1 20)), (1, .int ab), (2, .int r)] [] (TX C.1 L (nI m) g ++ P) := by
    intro ab r m hab hm1 hm2
    refine k_TR_readTerm_60 X Post _ (P_81 := fun _ v u => ∃ m', m + 1 + 1 ≤ m' ∧ m' ≤ L ∧ u = TX C.1 L (nI m') g) (X_81 := fun _ E u => E = IAE ∧ ∃ x, u = TX C.1 L x g) ab r (tsX L (nI m)) g P 5 30 ⟨by decide, by decide⟩ (fun _ => ⟨by decide, by decide⟩) (fun _ => ?_) ?_ ?_
    · rw [show tsX L (nI m) 1 + 1 = nI (m + 1) from nI_1 m]
      exact d_readNumber _ X.2.2 0 9999 L (m + 1) g hL hm2 _ _ (fun h => ⟨_, nOK_ge h, nR_le _ hm2, rfl⟩) (fun x _ => ⟨rfl, x, rfl⟩)
    · rintro w v u ⟨m', hm3, hm4, rfl⟩
      refine k_TR_readTerm_84 X Post _ (P_84 := fun u => u = [(w, .inr (9, [.int ab, .int r, .int v]))]) ab r v r ab w (tsX L (nI m')) g P _ _ ⟨by decide, by decide⟩ ?_ ?_
      · exact d_Te _ w ab r v _ rfl
      · rintro u rfl
        refine zW_perm (front_perm _ _ _) ?_
        exact k_TR_readTerm_87 X Post _ ab r w (tsX L (nI m')) g ((w, .inr (9, [.int ab, .int r, .int v])) :: P) _ _ ⟨by decide, by decide⟩ (hq m' w _ (by omega) hm4 Sub.cons ⟨ab, r, v, List.mem_cons_self, hab⟩)
    · rintro w E u ⟨rfl, x, rfl⟩
      exact XT.front Sub.rf
  have s25 : ∀ ab m, Bd 60 ab → n + 1 ≤ m → m ≤ L → zc_TR_readTerm C Post (XT C.1 L g P) 4 24 25 [(0, .ref (ad C.1 20)), (1, .int ab)] [] (TX C.1 L (nI m) g ++ P) := by
    intro ab m hab hm1 hm2
    refine k_TR_readTerm_25 X Post _ (P_26 := fun r u => r = tp (g 0) L (sN (g 0) L m) ∧ u = TX C.1 L (nI (sN (g 0) L m)) g) ab (tsX L (nI m)) g P 4 24 ⟨by decide, by decide⟩ ?_ ?_
    · exact d_nextSign _ L m g hL hm2 _ ⟨rfl, rfl⟩
    rintro r u ⟨rfl, rfl⟩
    have h1 := sN_ge (g 0) L m
    have go : ∀ c, tp (g 0) L (sN (g 0) L m) = c → c ≠ -1 → zc_TR_readTerm C Post (XT C.1 L g P) 4 24 60 [(0, .ref (ad C.1 20)), (1, .int ab), (2, .int (tp (g 0) L (sN (g 0) L m)))] [] (TX C.1 L (nI (sN (g 0) L m)) g ++ P) := fun c h hc => zW_wide (by decide) (by decide) (s60 ab _ _ hab (by omega) (tk_lt h hc))
    have s52 : zc_TR_readTerm C Post (XT C.1 L g P) 4 24 52 [(0, .ref (ad C.1 20)), (1, .int ab), (2, .int (tp (g 0) L (sN (g 0) L m)))] [] (TX C.1 L (nI (sN (g 0) L m)) g ++ P) := by
      refine k_TR_readTerm_52 X Post _ (P_57 := fun _ => False) (X_57 := fun E u => E = IAE ∧ ∃ x, u = TX C.1 L x g) ab _ (tsX L (nI (sN (g 0) L m))) g P 4 24 ⟨by decide, by decide⟩ ?_ (fun u h => h.elim) ?_
      · exact d_fail _ X.2.2 _ _ L g _ ⟨rfl, _, rfl⟩
      · rintro E u ⟨rfl, x, rfl⟩
        exact XT.app Sub.rf
    exact k_TR_readTerm_29 X Post _ ab _ (tsX L (nI (sN (g 0) L m))) g P 4 24 (fun z => go _ z (by decide +kernel)) (fun _ z => go _ z (by decide +kernel)) (fun _ _ _ => s52) (fun _ _ z _ => go _ z (by decide +kernel)) (fun _ _ _ _ => s52)
  refine k_TR_readTerm_0 X Post _ (P_5 := fun r u => (r = 1 ∧ ∃ m', n + 1 ≤ m' ∧ m' ≤ L ∧ u = TX C.1 L (nI m') g) ∨ (r = 0 ∧ ∃ m', n ≤ m' ∧ m' ≤ L ∧ u = TX C.1 L (nI m') g)) (tsX L (nI n)) g P 0 0 ⟨by decide, by decide⟩ ?_ ?_
  · refine d_took _ 112 L n g hL hn _ ?_
    have h1 := sN_ge (g 0) L n
    split
    · rename_i z; exact Or.inl ⟨rfl, _, by omega, tk_lt z (by decide +kernel), rfl⟩
    · exact Or.inr ⟨rfl, _, h1, sN_le _ hn, rfl⟩
  rintro r u (⟨rfl, m, hm1, hm2, rfl⟩ | ⟨rfl, m, hm1, hm2, rfl⟩)
  · exact k_TR_readTerm_8 X Post _ (P_14 := fun _ => True) (X_14 := fun _ _ => True) 0 1 (tsX L (nI m)) g P 0 0 (fun _ => zW_wide (by decide) (by decide) (s25 0 m (Bd_0 _) hm1 hm2)) (fun z => absurd z (by decide +kernel)) (fun z => absurd z (by decide +kernel)) (fun z => absurd z (by decide +kernel)) (fun z => absurd z (by decide +kernel))
  · refine k_TR_readTerm_8 X Post _ (P_14 := fun u => ∃ m', m + 1 ≤ m' ∧ m' ≤ L ∧ u = TX C.1 L (nI m') g) (X_14 := fun E u => E = IAE ∧ ∃ x, u = TX C.1 L x g) 0 0 (tsX L (nI m)) g P 0 0 (fun z => absurd rfl z) (fun _ => ⟨by decide, by decide⟩) (fun _ => ?_) ?_ ?_
    · exact d_take _ X.2.2 113 L m g hL hm2 _ _ (fun h => ⟨_, Nat.succ_le_succ (sN_ge _ _ _), tk_lt h (by decide +kernel), rfl⟩) (fun _ => ⟨rfl, _, rfl⟩)
    · rintro _ u ⟨m2, hm3, hm4, rfl⟩
      refine k_TR_readTerm_17 X Post _ (P_21 := fun r u => Bd 60 r ∧ ∃ m', m2 + 1 ≤ m' ∧ m' ≤ L ∧ u = TX C.1 L (nI m') g) (X_21 := fun E u => E = IAE ∧ ∃ x, u = TX C.1 L x g) 0 (tsX L (nI m2)) g P (0 + 1) (0 + 6) ⟨by decide, by decide⟩ ?_ ?_ ?_
      · exact d_readNumber _ X.2.2 1 60 L m2 g hL hm4 _ _ (fun h => ⟨nOK_bd (A := 1) (B := 60) h (by decide), _, nOK_ge h, nR_le _ hm4, rfl⟩) (fun x _ => ⟨rfl, x, rfl⟩)
      · rintro ab u ⟨hab, m3, hm5, hm6, rfl⟩
        exact k_TR_readTerm_24 X Post _ 0 ab (tsX L (nI m3)) g P _ _ (zW_wide (by decide) (by decide) (s25 ab m3 hab (by omega) hm6))
      · rintro E u ⟨rfl, x, rfl⟩
        exact XT.app Sub.rf
    · rintro _ E u ⟨rfl, x, rfl⟩
      exact XT.app Sub.rf
