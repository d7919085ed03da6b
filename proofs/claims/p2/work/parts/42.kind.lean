-- kinds, questions, the rows
def isKi (k : Nat → ClassId) (P : va_W) (a : Nat) : Prop := ∃ fq pr l xs w, (a, (.inr (5, [.int fq, .int pr, .ref l]) : va_E)) ∈ P ∧ Bd 60 fq ∧ isAL k l xs w ∧ Sub w P ∧ xs.length ≤ 6 ∧ ∀ x ∈ xs, isCo k P x
theorem isKi.mono {k : Nat → ClassId} {P P' : va_W} {a : Nat} (h : isKi k P a) (hs : Sub P P') : isKi k P' a := by
  obtain ⟨fq, pr, l, xs, w, h1, h2, h3, h4, h5, h6⟩ := h
  exact ⟨fq, pr, l, xs, w, hs _ h1, h2, h3, h4.tr hs, h5, fun x hx => (h6 x hx).mono hs⟩
def isWd (k : Nat → ClassId) (P : va_W) (a : Nat) : Prop := ∃ (n : Nat) (f : Nat → Int32), (a, (.inl (k 0, n, .inl f) : va_E)) ∈ P ∧ 1 ≤ n ∧ n ≤ 12
theorem isWd.mono {k : Nat → ClassId} {P P' : va_W} {a : Nat} (h : isWd k P a) (hs : Sub P P') : isWd k P' a := by
  obtain ⟨n, f, h1, h2⟩ := h; exact ⟨n, f, hs _ h1, h2⟩
def isQu (k : Nat → ClassId) (P : va_W) (a : Nat) : Prop := ∃ mu sp wa wb l jx xs w, (a, (.inr (6, [.int mu, .ref sp, .ref wa, .ref wb, .ref l, .ref jx]) : va_E)) ∈ P ∧ (mu = 0 ∨ mu = 1) ∧ isSp P sp ∧ isWd k P wa ∧ isWd k P wb ∧ isJu P jx ∧ isAL k l xs w ∧ Sub w P ∧ xs.length ≤ 5 ∧ ∀ x ∈ xs, isJu P x
theorem isQu.mono {k : Nat → ClassId} {P P' : va_W} {a : Nat} (h : isQu k P a) (hs : Sub P P') : isQu k P' a := by
  obtain ⟨mu, sp, wa, wb, l, jx, xs, w, h1, h2, h3, h4, h5, h6, h7, h8, h9, h10⟩ := h
  exact ⟨mu, sp, wa, wb, l, jx, xs, w, hs _ h1, h2, h3.mono hs, h4.mono hs, h5.mono hs, h6.mono hs, h7, h8.tr hs, h9, fun x hx => (h10 x hx).mono hs⟩
def RX (T : ST) (r : Nat → Nat → Option Nat) : va_W := s_r T.2.2.2.1 T.2.2.2.2 r
def RI (k : Nat → ClassId) (r : Nat → Nat → Option Nat) (P : va_W) : Prop := (∀ j a, r 0 j = some a → isQu k P a) ∧ (∀ j a, r 1 j = some a → isKi k P a)
theorem RI.mono {k : Nat → ClassId} {r : Nat → Nat → Option Nat} {P P' : va_W} (h : RI k r P) (hs : Sub P P') : RI k r P' := ⟨fun j a e => (h.1 j a e).mono hs, fun j a e => (h.2 j a e).mono hs⟩
theorem RI.ki {k : Nat → ClassId} {r : Nat → Nat → Option Nat} {P : va_W} {a : Nat} (h : RI k r P) (j : Nat) (ha : isKi k P a) : RI k (va_up r 1 (va_up (r 1) j (some a))) P := by
  refine ⟨fun i b e => h.1 i b (by rw [up_other _ _ (by decide)] at e; exact e), fun i b e => ?_⟩
  rw [up_same] at e
  by_cases c : i = j
  · subst c; rw [up_same] at e; cases e; exact ha
  · rw [up_other _ _ c] at e; exact h.2 i b e
theorem RI.qu {k : Nat → ClassId} {r : Nat → Nat → Option Nat} {P : va_W} {a : Nat} (h : RI k r P) (j : Nat) (ha : isQu k P a) : RI k (va_up r 0 (va_up (r 0) j (some a))) P := by
  refine ⟨fun i b e => ?_, fun i b e => h.2 i b (by rw [up_other _ _ (by decide)] at e; exact e)⟩
  rw [up_same] at e
  by_cases c : i = j
  · subst c; rw [up_same] at e; cases e; exact ha
  · rw [up_other _ _ c] at e; exact h.1 i b e
def XK (T : ST) (L : Nat) (g : GT) (r : Nat → Nat → Option Nat) (P : va_W) : String → va_W → Prop := fun E u => E = IAE ∧ ∃ x P', u.Perm (TX T L x g ++ (RX T r ++ P')) ∧ Sub P P'
theorem XK.app {T : ST} {L : Nat} {g : GT} {r : Nat → Nat → Option Nat} {P Y : va_W} {x : Int32} (h : Sub P Y) : XK T L g r P IAE (TX T L x g ++ (RX T r ++ Y)) := ⟨rfl, x, Y, List.Perm.refl _, h⟩
theorem zp_back (R A X Q : va_W) : ((R ++ A) ++ (X ++ Q)).Perm (X ++ (R ++ (A ++ Q))) := by
  rw [← List.append_assoc R A Q]; exact zp3 (R ++ A) X Q
theorem XK.in {T : ST} {L : Nat} {g : GT} {r : Nat → Nat → Option Nat} {P P1 Y : va_W} {E : String} {u : va_W} (h : XT T L g P1 E u) (hs : Sub P P1) : XK T L g r P E ((RX T r ++ Y) ++ u) := by
  obtain ⟨e, x, P', h1, h2⟩ := h
  refine ⟨e, x, Y ++ P', ?_, fun q hq => List.mem_append_right _ (h2 q (hs q hq))⟩
  exact (h1.append_left (RX T r ++ Y)).trans (zp_back _ _ _ _)
theorem front_perm2 (x : Nat × va_E) (X Y P : va_W) : ([x] ++ (X ++ (Y ++ P))).Perm (X ++ (Y ++ (x :: P))) := (front_perm x X (Y ++ P)).trans ((front_perm x Y P).append_left X)
theorem zp_ins (X R A P : va_W) : (A ++ (X ++ (R ++ P))).Perm (X ++ (R ++ (A ++ P))) := (zp3 A X (R ++ P)).trans ((zp3 A R P).append_left X)
theorem d_Ki (T : ST) (q l : Nat) (x y : Int32) (Post : va_W → Prop) (hq : Post [(q, .inr (5, [.int x, .int y, .ref l]))]) : uV T y_Ki_init (Cond.code y_Ki_init b_Ki_init 4 none) 0 0 0 [.ref q, .int x, .int y, .ref l] [(q, .inr (5, [.int 0, .int 0, .null]))] Post := by
  refine e_Ki_init T Post x y l q ?_
  rintro C rfl X
  exact k_Ki_init_0 X Post x y l q 0 0 ⟨by decide, by decide⟩ hq
set_option maxHeartbeats 1000000 in
theorem d_readKind (T : ST) (hlt : T.1.stackTraces = false) (L n : Nat) (g : GT) (r : Nat → Nat → Option Nat) (P : va_W) (hL : L ≤ 400) (hn : n ≤ L) (Post : va_W → Prop) (hq : ∀ n' j a P', n + 6 ≤ n' → n' ≤ L → Sub P P' → isKi T.2.2.2.1 P' a → Post (TX T L (nI n') g ++ (RX T (va_up r 1 (va_up (r 1) j (some a))) ++ P'))) : xV T y_TR_readKind (Cond.code y_TR_readKind b_TR_readKind 6 none) 6 303 1818 [.ref (ad T 20)] (TX T L (nI n) g ++ (RX T r ++ P)) Post (XK T L g r P) := by
  refine e_TR_readKind T hlt Post (XK T L g r P) (tsX L (nI n)) g r P ?_
  rintro C rfl X
  have s101 : ∀ j x2 x3 x4 x5 aw P1 xs m, j < 10 → isAL C.1.2.2.2.1 x4 xs aw → xs.length ≤ 6 → (∀ x ∈ xs, isCo C.1.2.2.2.1 P1 x) → Sub P P1 → Bd 60 x2 → n + 5 ≤ m → m ≤ L → zc_TR_readKind C Post (XK C.1 L g r P) 300 1803 101 [(0, .ref (ad C.1 20)), (1, .int (nI j)), (2, .int x2), (3, .int x3), (4, .ref x4), (5, .int x5)] [] (TX C.1 L (nI m) g ++ (RX C.1 r ++ (aw ++ P1))) := by
    intro j x2 x3 x4 x5 aw P1 xs m hj hal hlen hco hsub hx2 hm1 hm2
    have hsub2 : Sub P (aw ++ P1) := hsub.tr Sub.app
    refine k_TR_readKind_101 X Post _ (P_104 := fun u => ∃ m', m + 1 ≤ m' ∧ m' ≤ L ∧ u = TX C.1 L (nI m') g) (X_104 := fun E u => E = IAE ∧ ∃ x, u = TX C.1 L x g) (nI j) x2 x3 x4 x5 aw (tsX L (nI m)) g r P1 300 1803 ⟨by decide, by decide⟩ ?_ ?_ ?_
    · exact d_take _ X.2.2 59 L m g hL hm2 _ _ (fun h => ⟨_, Nat.succ_le_succ (sN_ge _ _ _), tk_lt h (by decide +kernel), rfl⟩) (fun _ => ⟨rfl, _, rfl⟩)
    · rintro u ⟨m1, hm3, hm4, rfl⟩
      refine k_TR_readKind_107 X Post _ (P_120 := fun w u => u = [(w, .inr (5, [.int x2, .int x3, .ref x4]))]) (nI j) x2 x3 x4 x5 aw (tsX L (nI m1)) g r P1 _ _ ⟨by decide, by decide⟩ (fun _ => ⟨by decide, by decide⟩) (fun w => d_Ki _ w x4 x2 x3 _ rfl) ?_
      rintro w u rfl
      refine zW_perm (front_perm2 _ _ _ _) ?_
      refine k_TR_readKind_123 X Post _ (nI j) x2 x3 x4 x5 w (nI j) (tsX L (nI m1)) g r ((w, .inr (5, [.int x2, .int x3, .ref x4])) :: (aw ++ P1)) _ 0 _ _ rfl (vi_n hj (by decide)) ⟨by decide, by decide⟩ ?_
      exact hq m1 _ w _ (by omega) hm4 (hsub2.tr Sub.cons) ⟨x2, x3, x4, xs, aw, List.mem_cons_self, hx2, hal, fun q hq => List.mem_cons_of_mem _ (List.mem_append_left _ hq), hlen, fun x hx => (hco x hx).mono (Sub.app.tr Sub.cons)⟩
    · rintro E u ⟨rfl, x, rfl⟩
      exact XK.app hsub2
  have loop : ∀ i c j x2 x3 x4 aw P1 xs m, i + c = 6 → j < 10 → isAL C.1.2.2.2.1 x4 xs aw → xs.length = c → (∀ x ∈ xs, isCo C.1.2.2.2.1 P1 x) → Sub P P1 → Bd 60 x2 → n + 5 ≤ m → m ≤ L → zc_TR_readKind C Post (XK C.1 L g r P) (12 + 48 * c) (69 + 289 * c) 67 [(0, .ref (ad C.1 20)), (1, .int (nI j)), (2, .int x2), (3, .int x3), (4, .ref x4), (5, .int (nI c))] [] (TX C.1 L (nI m) g ++ (RX C.1 r ++ (aw ++ P1))) := by
    intro i
    induction i with
    | zero =>
      intro c j x2 x3 x4 aw P1 xs m hi hj hal hlen hco hsub hx2 hm1 hm2
      have h6 : (6 : Int32) ≤ nI c := (nI_leI (a := 6) (b := c) (by decide) (by omega)).mpr (by omega)
      exact k_TR_readKind_67 X Post _ (P_77 := fun _ _ => True) (nI j) x2 x3 x4 _ aw (tsX L (nI m)) g r P1 _ _ (fun _ => zW_wide (by omega) (by omega) (s101 j x2 x3 x4 _ aw P1 xs m hj hal (by omega) hco hsub hx2 hm1 hm2)) (fun z => absurd h6 z) (fun z => absurd h6 z) (fun z => absurd h6 z)
    | succ i ih =>
      intro c j x2 x3 x4 aw P1 xs m hi hj hal hlen hco hsub hx2 hm1 hm2
      have h6 : ¬ (6 : Int32) ≤ nI c := fun z => absurd ((nI_leI (a := 6) (b := c) (by decide) (by omega)).mp z) (by omega)
      refine k_TR_readKind_67 X Post _ (P_77 := fun r u => ∃ m', m ≤ m' ∧ m' ≤ L ∧ u = TX C.1 L (nI m') g) (nI j) x2 x3 x4 _ aw (tsX L (nI m)) g r P1 _ _ (fun z => absurd z h6) (fun _ => ⟨by omega, by omega⟩) (fun _ => ?_) ?_
      · refine d_took _ 40 L m g hL hm2 _ ?_
        have h1 := sN_ge (g 0) L m
        split
        · rename_i z; exact ⟨_, by omega, tk_lt z (by decide +kernel), rfl⟩
        · exact ⟨_, h1, sN_le _ hm2, rfl⟩
      rintro _ y u ⟨m1, hm3, hm4, rfl⟩
      refine k_TR_readKind_80 X Post _ (P_86 := fun r u => ∃ n' a P2, r = some a ∧ m1 + 5 ≤ n' ∧ n' ≤ L ∧ Sub P1 P2 ∧ isCo C.1.2.2.2.1 P2 a ∧ u = TX C.1 L (nI n') g ++ P2) (X_86 := XT C.1 L g P1) (nI j) x2 x3 x4 _ y aw (tsX L (nI m1)) g r P1 _ _ (fun _ => zW_wide (by omega) (by omega) (s101 j x2 x3 x4 _ aw P1 xs m1 hj hal (by omega) hco hsub hx2 (by omega) hm4)) (fun _ => ⟨by omega, by omega⟩) (fun _ => ?_) ?_ ?_
      · exact d_readCondition _ X.2.2 L m1 g P1 hL hm4 _ (fun n' a P2 h1 h2 h3 h4 => ⟨n', a, P2, rfl, h1, h2, h3, h4, rfl⟩)
      · rintro _ y u ⟨m2, a, P2, rfl, hm5, hm6, hs2, hta, rfl⟩
        refine zW_perm (zp_back _ _ _ _) ?_
        obtain ⟨z1, z2, z3, z4, hmem, -⟩ := id hta
        refine k_TR_readKind_89 X Post _ (P_89 := fun _ u => ∃ w', u.Perm (w' ++ P2) ∧ isAL C.1.2.2.2.1 x4 (xs ++ [a]) w') (nI j) x2 x3 x4 _ a x4 aw (tsX L (nI m2)) g r P2 _ _ ⟨by omega, by omega⟩ ?_ ?_ hal.recv
        · exact d_add_C _ x4 a xs _ aw P2 hmem hal (by omega)
        · rintro y u ⟨w', hp, hal'⟩
          refine zW_perm (hp.append_left _) ?_
          refine zW_perm (ws' := TX C.1 L (nI m2) g ++ (RX C.1 r ++ (w' ++ P2))) (by rw [List.append_assoc]; exact List.Perm.refl _) ?_
          refine k_TR_readKind_94 X Post _ (nI j) x2 x3 x4 _ y w' (tsX L (nI m2)) g r P2 _ _ ?_
          rw [nI_1]
          refine zW_wide (by omega) (by omega) (ih (c + 1) j x2 x3 x4 w' P2 (xs ++ [a]) m2 (by omega) hj hal' (by simp [hlen]) ?_ (hsub.tr hs2) hx2 (by omega) hm6)
          intro x hx
          rcases List.mem_append.mp hx with h | h
          · exact (hco x h).mono hs2
          · rw [List.mem_singleton.mp h]; exact hta
      · intro _ E u h
        exact XK.in h hsub
  have s27 : ∀ j m, j < 10 → n + 1 ≤ m → m ≤ L → zc_TR_readKind C Post (XK C.1 L g r P) 3 18 27 [(0, .ref (ad C.1 20)), (1, .int (nI j))] [] (TX C.1 L (nI m) g ++ (RX C.1 r ++ P)) := by
    intro j m hj hm1 hm2
    refine k_TR_readKind_27 X Post _ (P_30 := fun u => ∃ m', m + 1 ≤ m' ∧ m' ≤ L ∧ u = TX C.1 L (nI m') g) (X_30 := fun E u => E = IAE ∧ ∃ x, u = TX C.1 L x g) (nI j) (tsX L (nI m)) g r P 3 18 ⟨by decide, by decide⟩ ?_ ?_ ?_
    · exact d_take _ X.2.2 61 L m g hL hm2 _ _ (fun h => ⟨_, Nat.succ_le_succ (sN_ge _ _ _), tk_lt h (by decide +kernel), rfl⟩) (fun _ => ⟨rfl, _, rfl⟩)
    · rintro u ⟨m1, hm3, hm4, rfl⟩
      refine k_TR_readKind_33 X Post _ (P_37 := fun v u => Bd 60 v ∧ ∃ m', m1 + 1 ≤ m' ∧ m' ≤ L ∧ u = TX C.1 L (nI m') g) (X_37 := fun E u => E = IAE ∧ ∃ x, u = TX C.1 L x g) (nI j) (tsX L (nI m1)) g r P _ _ ⟨by decide, by decide⟩ ?_ ?_ ?_
      · exact d_readNumber _ X.2.2 1 60 L m1 g hL hm4 _ _ (fun h => ⟨nOK_bd (A := 1) (B := 60) h (by decide), _, nOK_ge h, nR_le _ hm4, rfl⟩) (fun x _ => ⟨rfl, x, rfl⟩)
      · rintro x2 u ⟨hx2, m2, hm5, hm6, rfl⟩
        refine k_TR_readKind_40 X Post _ (P_44 := fun u => ∃ m', m2 + 1 ≤ m' ∧ m' ≤ L ∧ u = TX C.1 L (nI m') g) (X_44 := fun E u => E = IAE ∧ ∃ x, u = TX C.1 L x g) (nI j) x2 (tsX L (nI m2)) g r P _ _ ⟨by decide, by decide⟩ ?_ ?_ ?_
        · exact d_take _ X.2.2 58 L m2 g hL hm6 _ _ (fun h => ⟨_, Nat.succ_le_succ (sN_ge _ _ _), tk_lt h (by decide +kernel), rfl⟩) (fun _ => ⟨rfl, _, rfl⟩)
        · rintro u ⟨m3, hm7, hm8, rfl⟩
          refine k_TR_readKind_47 X Post _ (P_51 := fun v u => ∃ m', m3 + 1 ≤ m' ∧ m' ≤ L ∧ u = TX C.1 L (nI m') g) (X_51 := fun E u => E = IAE ∧ ∃ x, u = TX C.1 L x g) (nI j) x2 (tsX L (nI m3)) g r P _ _ ⟨by decide, by decide⟩ ?_ ?_ ?_
          · exact d_readNumber _ X.2.2 0 9 L m3 g hL hm8 _ _ (fun h => ⟨_, nOK_ge h, nR_le _ hm8, rfl⟩) (fun x _ => ⟨rfl, x, rfl⟩)
          · rintro x3 u ⟨m4, hm9, hm10, rfl⟩
            refine k_TR_readKind_54 X Post _ (P_59 := fun w u => u = [(w, .inr (11, [.int 0, .ref (C.1.2.2.2.1 7), .int 0]))]) (nI j) x2 x3 (tsX L (nI m4)) g r P _ _ ⟨by decide, by decide⟩ (fun _ => ⟨by decide, by decide⟩) (fun w => d_ALinit _ w _ rfl) ?_
            rintro w u rfl
            refine zW_perm (zp_ins _ _ _ _) ?_
            refine k_TR_readKind_62 X Post _ (nI j) x2 x3 w _ (tsX L (nI m4)) g r P _ _ ?_
            have hal0 : isAL C.1.2.2.2.1 w [] [(w, .inr (11, [.int 0, .ref (C.1.2.2.2.1 7), .int 0]))] := Or.inl ⟨rfl, 0, rfl⟩
            exact zW_wide (by decide) (by decide) (loop 6 0 j x2 x3 w _ P [] m4 rfl hj hal0 rfl (by simp) Sub.rf hx2 (by omega) hm10)
          · rintro E u ⟨rfl, x, rfl⟩
            exact XK.app Sub.rf
        · rintro E u ⟨rfl, x, rfl⟩
          exact XK.app Sub.rf
      · rintro E u ⟨rfl, x, rfl⟩
        exact XK.app Sub.rf
    · rintro E u ⟨rfl, x, rfl⟩
      exact XK.app Sub.rf
  refine k_TR_readKind_0 X Post _ (P_4 := fun v u => Bd 9 v ∧ ∃ m', n + 1 ≤ m' ∧ m' ≤ L ∧ u = TX C.1 L (nI m') g) (X_4 := fun E u => E = IAE ∧ ∃ x, u = TX C.1 L x g) (tsX L (nI n)) g r P 0 0 ⟨by decide, by decide⟩ ?_ ?_ ?_
  · exact d_readNumber _ X.2.2 1 9 L n g hL hn _ _ (fun h => ⟨nOK_bd (A := 1) (B := 9) h (by decide), _, nOK_ge h, nR_le _ hn, rfl⟩) (fun x _ => ⟨rfl, x, rfl⟩)
  · rintro y u ⟨⟨j, rfl, hj⟩, m, hm1, hm2, rfl⟩
    have hj : j < 10 := by omega
    refine k_TR_readKind_7 X Post _ (P_24 := fun _ => False) (X_24 := fun E u => E = IAE ∧ ∃ x, u = TX C.1 L x g) (nI j) (tsX L (nI m)) g r P _ _ (vi_n hj (by decide)) (fun _ => zW_wide (by decide) (by decide) (s27 j m hj hm1 hm2)) (fun _ => ⟨by decide, by decide⟩) (fun _ => ?_) (fun _ u h => h.elim) ?_
    · exact d_fail _ X.2.2 _ _ L g _ ⟨rfl, _, rfl⟩
    · rintro _ E u ⟨rfl, x, rfl⟩
      exact XK.app Sub.rf
  · rintro E u ⟨rfl, x, rfl⟩
    exact XK.app Sub.rf
